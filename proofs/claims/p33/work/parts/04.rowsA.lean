set_option maxRecDepth 20000 in
theorem ggX0_init_X1_init : GoodIn wsX0_init wsX1_init := goodIn_r _ [10, 11, 2, 3, 12, 13, 14, 15, 16, 17, 18, 19, 20, 21, 22, 23, 24, 28, 29, 30, 31, 32, 33, 34, 35, 36, 37, 38, 39, 40, 41] (by decide +kernel) (by decide +kernel)
set_option maxRecDepth 20000 in
theorem gX0_init_X1_init : GoodIn wsX0_init (wsX1_init) := ggX0_init_X1_init
theorem dX0_init_0 : decode cX0_init 0 = .ok (.aload_n 0, 1) := by decide +kernel
theorem dX0_init_1 : decode cX0_init 1 = .ok (.invokespecial 3, 3) := by decide +kernel
theorem dX0_init_4 : decode cX0_init 4 = .ok (.aload_n 0, 1) := by decide +kernel
theorem dX0_init_5 : decode cX0_init 5 = .ok (.bipush 8, 2) := by decide +kernel
theorem dX0_init_7 : decode cX0_init 7 = .ok (.anewarray 9, 3) := by decide +kernel
theorem dX0_init_10 : decode cX0_init 10 = .ok (.putfield 11, 3) := by decide +kernel
theorem dX0_init_13 : decode cX0_init 13 = .ok (.iconst 0, 1) := by decide +kernel
theorem dX0_init_14 : decode cX0_init 14 = .ok (.istore_n 1, 1) := by decide +kernel
theorem dX0_init_15 : decode cX0_init 15 = .ok (.iload_n 1, 1) := by decide +kernel
theorem dX0_init_16 : decode cX0_init 16 = .ok (.aload_n 0, 1) := by decide +kernel
theorem dX0_init_17 : decode cX0_init 17 = .ok (.getfield 11, 3) := by decide +kernel
theorem dX0_init_20 : decode cX0_init 20 = .ok (.arraylength, 1) := by decide +kernel
theorem dX0_init_21 : decode cX0_init 21 = .ok (.if_icmp .ge 22, 3) := by decide +kernel
theorem dX0_init_24 : decode cX0_init 24 = .ok (.aload_n 0, 1) := by decide +kernel
theorem dX0_init_25 : decode cX0_init 25 = .ok (.getfield 11, 3) := by decide +kernel
theorem dX0_init_28 : decode cX0_init 28 = .ok (.iload_n 1, 1) := by decide +kernel
theorem dX0_init_29 : decode cX0_init 29 = .ok (.new 9, 3) := by decide +kernel
theorem dX0_init_32 : decode cX0_init 32 = .ok (.dup, 1) := by decide +kernel
theorem dX0_init_33 : decode cX0_init 33 = .ok (.invokespecial 17, 3) := by decide +kernel
theorem dX0_init_36 : decode cX0_init 36 = .ok (.aastore, 1) := by decide +kernel
theorem dX0_init_37 : decode cX0_init 37 = .ok (.iinc 1 1, 3) := by decide +kernel
theorem dX0_init_40 : decode cX0_init 40 = .ok (.goto (-25), 3) := by decide +kernel
theorem dX0_init_43 : decode cX0_init 43 = .ok (.return_, 1) := by decide +kernel
set_option maxRecDepth 20000 in
theorem ggX0_save_X0_rowAt : GoodIn wsX0_save wsX0_rowAt := goodIn_r _ [11, 12, 44, 45, 46] (by decide +kernel) (by decide +kernel)
set_option maxRecDepth 20000 in
theorem gX0_save_X0_rowAt : GoodIn wsX0_save (wsV RX0 22 RX0 yX0_rowAt wsX0_rowAt) := goodIn_app (goodIn_of _ (by decide +kernel)) ggX0_save_X0_rowAt
set_option maxRecDepth 20000 in
theorem ggX0_save_X1_copyFrom : GoodIn wsX0_save wsX1_copyFrom := goodIn_r _ [17, 18, 19, 4, 5, 6, 20, 21, 22, 23, 24, 25, 26, 27, 28, 29, 30, 31, 32, 33, 34, 35, 36, 37, 38, 39, 40, 41, 42, 43, 47, 48, 49, 50, 51, 52, 53, 54, 55, 56, 57, 58, 59, 60] (by decide +kernel) (by decide +kernel)
set_option maxRecDepth 20000 in
theorem gX0_save_X1_copyFrom : GoodIn wsX0_save (wsV RX0 26 RX1 yX1_copyFrom wsX1_copyFrom) := goodIn_app (goodIn_of _ (by decide +kernel)) ggX0_save_X1_copyFrom
theorem dX0_save_0 : decode cX0_save 0 = .ok (.aload_n 0, 1) := by decide +kernel
theorem dX0_save_1 : decode cX0_save 1 = .ok (.aload_n 0, 1) := by decide +kernel
theorem dX0_save_2 : decode cX0_save 2 = .ok (.getfield 18, 3) := by decide +kernel
theorem dX0_save_5 : decode cX0_save 5 = .ok (.invokevirtual 22, 3) := by decide +kernel
theorem dX0_save_8 : decode cX0_save 8 = .ok (.astore_n 2, 1) := by decide +kernel
theorem dX0_save_9 : decode cX0_save 9 = .ok (.aload_n 2, 1) := by decide +kernel
theorem dX0_save_10 : decode cX0_save 10 = .ok (.ifnull 36, 3) := by decide +kernel
theorem dX0_save_13 : decode cX0_save 13 = .ok (.aload_n 2, 1) := by decide +kernel
theorem dX0_save_14 : decode cX0_save 14 = .ok (.aload_n 1, 1) := by decide +kernel
theorem dX0_save_15 : decode cX0_save 15 = .ok (.invokevirtual 26, 3) := by decide +kernel
theorem dX0_save_18 : decode cX0_save 18 = .ok (.aload_n 0, 1) := by decide +kernel
theorem dX0_save_19 : decode cX0_save 19 = .ok (.aload_n 0, 1) := by decide +kernel
theorem dX0_save_20 : decode cX0_save 20 = .ok (.getfield 18, 3) := by decide +kernel
theorem dX0_save_23 : decode cX0_save 23 = .ok (.iconst 1, 1) := by decide +kernel
theorem dX0_save_24 : decode cX0_save 24 = .ok (.iadd, 1) := by decide +kernel
theorem dX0_save_25 : decode cX0_save 25 = .ok (.bipush 8, 2) := by decide +kernel
theorem dX0_save_27 : decode cX0_save 27 = .ok (.irem, 1) := by decide +kernel
theorem dX0_save_28 : decode cX0_save 28 = .ok (.putfield 18, 3) := by decide +kernel
theorem dX0_save_31 : decode cX0_save 31 = .ok (.aload_n 0, 1) := by decide +kernel
theorem dX0_save_32 : decode cX0_save 32 = .ok (.aload_n 0, 1) := by decide +kernel
theorem dX0_save_33 : decode cX0_save 33 = .ok (.getfield 30, 3) := by decide +kernel
theorem dX0_save_36 : decode cX0_save 36 = .ok (.iconst 1, 1) := by decide +kernel
theorem dX0_save_37 : decode cX0_save 37 = .ok (.iadd, 1) := by decide +kernel
theorem dX0_save_38 : decode cX0_save 38 = .ok (.bipush 8, 2) := by decide +kernel
theorem dX0_save_40 : decode cX0_save 40 = .ok (.invokestatic 33, 3) := by decide +kernel
theorem dX0_save_43 : decode cX0_save 43 = .ok (.putfield 30, 3) := by decide +kernel
theorem dX0_save_46 : decode cX0_save 46 = .ok (.return_, 1) := by decide +kernel
theorem dX0_rowAt_0 : decode cX0_rowAt 0 = .ok (.iload_n 1, 1) := by decide +kernel
theorem dX0_rowAt_1 : decode cX0_rowAt 1 = .ok (.ifCond .lt 21, 3) := by decide +kernel
theorem dX0_rowAt_4 : decode cX0_rowAt 4 = .ok (.iload_n 1, 1) := by decide +kernel
theorem dX0_rowAt_5 : decode cX0_rowAt 5 = .ok (.aload_n 0, 1) := by decide +kernel
theorem dX0_rowAt_6 : decode cX0_rowAt 6 = .ok (.getfield 11, 3) := by decide +kernel
theorem dX0_rowAt_9 : decode cX0_rowAt 9 = .ok (.arraylength, 1) := by decide +kernel
theorem dX0_rowAt_10 : decode cX0_rowAt 10 = .ok (.if_icmp .ge 12, 3) := by decide +kernel
theorem dX0_rowAt_13 : decode cX0_rowAt 13 = .ok (.aload_n 0, 1) := by decide +kernel
theorem dX0_rowAt_14 : decode cX0_rowAt 14 = .ok (.getfield 11, 3) := by decide +kernel
theorem dX0_rowAt_17 : decode cX0_rowAt 17 = .ok (.iload_n 1, 1) := by decide +kernel
theorem dX0_rowAt_18 : decode cX0_rowAt 18 = .ok (.aaload, 1) := by decide +kernel
theorem dX0_rowAt_19 : decode cX0_rowAt 19 = .ok (.goto 4, 3) := by decide +kernel
theorem dX0_rowAt_22 : decode cX0_rowAt 22 = .ok (.aconst_null, 1) := by decide +kernel
theorem dX0_rowAt_23 : decode cX0_rowAt 23 = .ok (.areturn, 1) := by decide +kernel
set_option maxRecDepth 20000 in
theorem ggX1_init_X3_init : GoodIn wsX1_init wsX3_init := goodIn_r _ [13, 14, 2, 3, 4, 15, 16, 28, 29, 30] (by decide +kernel) (by decide +kernel)
set_option maxRecDepth 20000 in
theorem gX1_init_X3_init : GoodIn wsX1_init (wsX3_init) := ggX1_init_X3_init
theorem dX1_init_0 : decode cX1_init 0 = .ok (.aload_n 0, 1) := by decide +kernel
theorem dX1_init_1 : decode cX1_init 1 = .ok (.invokespecial 3, 3) := by decide +kernel
theorem dX1_init_4 : decode cX1_init 4 = .ok (.aload_n 0, 1) := by decide +kernel
theorem dX1_init_5 : decode cX1_init 5 = .ok (.bipush 40, 2) := by decide +kernel
theorem dX1_init_7 : decode cX1_init 7 = .ok (.newarray .int, 2) := by decide +kernel
theorem dX1_init_9 : decode cX1_init 9 = .ok (.putfield 9, 3) := by decide +kernel
theorem dX1_init_12 : decode cX1_init 12 = .ok (.aload_n 0, 1) := by decide +kernel
theorem dX1_init_13 : decode cX1_init 13 = .ok (.sipush 240, 3) := by decide +kernel
theorem dX1_init_16 : decode cX1_init 16 = .ok (.newarray .int, 2) := by decide +kernel
theorem dX1_init_18 : decode cX1_init 18 = .ok (.putfield 15, 3) := by decide +kernel
theorem dX1_init_21 : decode cX1_init 21 = .ok (.aload_n 0, 1) := by decide +kernel
theorem dX1_init_22 : decode cX1_init 22 = .ok (.new 18, 3) := by decide +kernel
theorem dX1_init_25 : decode cX1_init 25 = .ok (.dup, 1) := by decide +kernel
theorem dX1_init_26 : decode cX1_init 26 = .ok (.invokespecial 20, 3) := by decide +kernel
theorem dX1_init_29 : decode cX1_init 29 = .ok (.putfield 21, 3) := by decide +kernel
theorem dX1_init_32 : decode cX1_init 32 = .ok (.return_, 1) := by decide +kernel
theorem dX1_start_0 : decode cX1_start 0 = .ok (.aload_n 0, 1) := by decide +kernel
theorem dX1_start_1 : decode cX1_start 1 = .ok (.iconst 0, 1) := by decide +kernel
theorem dX1_start_2 : decode cX1_start 2 = .ok (.putfield 25, 3) := by decide +kernel
theorem dX1_start_5 : decode cX1_start 5 = .ok (.aload_n 0, 1) := by decide +kernel
theorem dX1_start_6 : decode cX1_start 6 = .ok (.iload_n 1, 1) := by decide +kernel
theorem dX1_start_7 : decode cX1_start 7 = .ok (.putfield 29, 3) := by decide +kernel
theorem dX1_start_10 : decode cX1_start 10 = .ok (.aload_n 0, 1) := by decide +kernel
theorem dX1_start_11 : decode cX1_start 11 = .ok (.iload_n 2, 1) := by decide +kernel
theorem dX1_start_12 : decode cX1_start 12 = .ok (.putfield 32, 3) := by decide +kernel
theorem dX1_start_15 : decode cX1_start 15 = .ok (.aload_n 0, 1) := by decide +kernel
theorem dX1_start_16 : decode cX1_start 16 = .ok (.lconst 0, 1) := by decide +kernel
theorem dX1_start_17 : decode cX1_start 17 = .ok (.putfield 35, 3) := by decide +kernel
theorem dX1_start_20 : decode cX1_start 20 = .ok (.aload_n 0, 1) := by decide +kernel
theorem dX1_start_21 : decode cX1_start 21 = .ok (.iconst 0, 1) := by decide +kernel
theorem dX1_start_22 : decode cX1_start 22 = .ok (.putfield 39, 3) := by decide +kernel
theorem dX1_start_25 : decode cX1_start 25 = .ok (.aload_n 0, 1) := by decide +kernel
theorem dX1_start_26 : decode cX1_start 26 = .ok (.iconst 0, 1) := by decide +kernel
theorem dX1_start_27 : decode cX1_start 27 = .ok (.putfield 42, 3) := by decide +kernel
theorem dX1_start_30 : decode cX1_start 30 = .ok (.aload_n 0, 1) := by decide +kernel
theorem dX1_start_31 : decode cX1_start 31 = .ok (.iconst 0, 1) := by decide +kernel
theorem dX1_start_32 : decode cX1_start 32 = .ok (.putfield 45, 3) := by decide +kernel
theorem dX1_start_35 : decode cX1_start 35 = .ok (.aload_n 0, 1) := by decide +kernel
theorem dX1_start_36 : decode cX1_start 36 = .ok (.iconst 0, 1) := by decide +kernel
theorem dX1_start_37 : decode cX1_start 37 = .ok (.putfield 48, 3) := by decide +kernel
theorem dX1_start_40 : decode cX1_start 40 = .ok (.aload_n 0, 1) := by decide +kernel
theorem dX1_start_41 : decode cX1_start 41 = .ok (.getfield 21, 3) := by decide +kernel
theorem dX1_start_44 : decode cX1_start 44 = .ok (.iconst 0, 1) := by decide +kernel
theorem dX1_start_45 : decode cX1_start 45 = .ok (.putfield 51, 3) := by decide +kernel
theorem dX1_start_48 : decode cX1_start 48 = .ok (.return_, 1) := by decide +kernel
set_option maxRecDepth 20000 in
theorem ggX1_copyFrom_X3_copyFrom : GoodIn wsX1_copyFrom wsX3_copyFrom := goodIn_r _ [24, 25, 26, 3, 4, 5, 27, 7, 8, 9, 28, 29, 41, 42, 43] (by decide +kernel) (by decide +kernel)
set_option maxRecDepth 20000 in
theorem gX1_copyFrom_X3_copyFrom : GoodIn wsX1_copyFrom (wsV RX1 64 RX3 yX3_copyFrom wsX3_copyFrom) := goodIn_app (goodIn_of _ (by decide +kernel)) ggX1_copyFrom_X3_copyFrom
theorem dX1_copyFrom_0 : decode cX1_copyFrom 0 = .ok (.aload_n 1, 1) := by decide +kernel
theorem dX1_copyFrom_1 : decode cX1_copyFrom 1 = .ok (.getfield 9, 3) := by decide +kernel
theorem dX1_copyFrom_4 : decode cX1_copyFrom 4 = .ok (.iconst 0, 1) := by decide +kernel
theorem dX1_copyFrom_5 : decode cX1_copyFrom 5 = .ok (.aload_n 0, 1) := by decide +kernel
theorem dX1_copyFrom_6 : decode cX1_copyFrom 6 = .ok (.getfield 9, 3) := by decide +kernel
theorem dX1_copyFrom_9 : decode cX1_copyFrom 9 = .ok (.iconst 0, 1) := by decide +kernel
theorem dX1_copyFrom_10 : decode cX1_copyFrom 10 = .ok (.aload_n 1, 1) := by decide +kernel
theorem dX1_copyFrom_11 : decode cX1_copyFrom 11 = .ok (.getfield 9, 3) := by decide +kernel
theorem dX1_copyFrom_14 : decode cX1_copyFrom 14 = .ok (.arraylength, 1) := by decide +kernel
theorem dX1_copyFrom_15 : decode cX1_copyFrom 15 = .ok (.aload_n 0, 1) := by decide +kernel
theorem dX1_copyFrom_16 : decode cX1_copyFrom 16 = .ok (.getfield 9, 3) := by decide +kernel
theorem dX1_copyFrom_19 : decode cX1_copyFrom 19 = .ok (.arraylength, 1) := by decide +kernel
theorem dX1_copyFrom_20 : decode cX1_copyFrom 20 = .ok (.invokestatic 52, 3) := by decide +kernel
theorem dX1_copyFrom_23 : decode cX1_copyFrom 23 = .ok (.invokestatic 58, 3) := by decide +kernel
theorem dX1_copyFrom_26 : decode cX1_copyFrom 26 = .ok (.aload_n 1, 1) := by decide +kernel
theorem dX1_copyFrom_27 : decode cX1_copyFrom 27 = .ok (.getfield 15, 3) := by decide +kernel
theorem dX1_copyFrom_30 : decode cX1_copyFrom 30 = .ok (.iconst 0, 1) := by decide +kernel
theorem dX1_copyFrom_31 : decode cX1_copyFrom 31 = .ok (.aload_n 0, 1) := by decide +kernel
theorem dX1_copyFrom_32 : decode cX1_copyFrom 32 = .ok (.getfield 15, 3) := by decide +kernel
theorem dX1_copyFrom_35 : decode cX1_copyFrom 35 = .ok (.iconst 0, 1) := by decide +kernel
theorem dX1_copyFrom_36 : decode cX1_copyFrom 36 = .ok (.aload_n 1, 1) := by decide +kernel
theorem dX1_copyFrom_37 : decode cX1_copyFrom 37 = .ok (.getfield 15, 3) := by decide +kernel
theorem dX1_copyFrom_40 : decode cX1_copyFrom 40 = .ok (.arraylength, 1) := by decide +kernel
theorem dX1_copyFrom_41 : decode cX1_copyFrom 41 = .ok (.aload_n 0, 1) := by decide +kernel
theorem dX1_copyFrom_42 : decode cX1_copyFrom 42 = .ok (.getfield 15, 3) := by decide +kernel
theorem dX1_copyFrom_45 : decode cX1_copyFrom 45 = .ok (.arraylength, 1) := by decide +kernel
theorem dX1_copyFrom_46 : decode cX1_copyFrom 46 = .ok (.invokestatic 52, 3) := by decide +kernel
theorem dX1_copyFrom_49 : decode cX1_copyFrom 49 = .ok (.invokestatic 58, 3) := by decide +kernel
theorem dX1_copyFrom_52 : decode cX1_copyFrom 52 = .ok (.aload_n 0, 1) := by decide +kernel
theorem dX1_copyFrom_53 : decode cX1_copyFrom 53 = .ok (.getfield 21, 3) := by decide +kernel
theorem dX1_copyFrom_56 : decode cX1_copyFrom 56 = .ok (.aload_n 1, 1) := by decide +kernel
theorem dX1_copyFrom_57 : decode cX1_copyFrom 57 = .ok (.getfield 21, 3) := by decide +kernel
theorem dX1_copyFrom_60 : decode cX1_copyFrom 60 = .ok (.invokevirtual 64, 3) := by decide +kernel
theorem dX1_copyFrom_63 : decode cX1_copyFrom 63 = .ok (.aload_n 0, 1) := by decide +kernel
theorem dX1_copyFrom_64 : decode cX1_copyFrom 64 = .ok (.aload_n 1, 1) := by decide +kernel
theorem dX1_copyFrom_65 : decode cX1_copyFrom 65 = .ok (.getfield 25, 3) := by decide +kernel
theorem dX1_copyFrom_68 : decode cX1_copyFrom 68 = .ok (.putfield 25, 3) := by decide +kernel
theorem dX1_copyFrom_71 : decode cX1_copyFrom 71 = .ok (.aload_n 0, 1) := by decide +kernel
theorem dX1_copyFrom_72 : decode cX1_copyFrom 72 = .ok (.aload_n 1, 1) := by decide +kernel
theorem dX1_copyFrom_73 : decode cX1_copyFrom 73 = .ok (.getfield 29, 3) := by decide +kernel
theorem dX1_copyFrom_76 : decode cX1_copyFrom 76 = .ok (.putfield 29, 3) := by decide +kernel
theorem dX1_copyFrom_79 : decode cX1_copyFrom 79 = .ok (.aload_n 0, 1) := by decide +kernel
theorem dX1_copyFrom_80 : decode cX1_copyFrom 80 = .ok (.aload_n 1, 1) := by decide +kernel
theorem dX1_copyFrom_81 : decode cX1_copyFrom 81 = .ok (.getfield 32, 3) := by decide +kernel
theorem dX1_copyFrom_84 : decode cX1_copyFrom 84 = .ok (.putfield 32, 3) := by decide +kernel
theorem dX1_copyFrom_87 : decode cX1_copyFrom 87 = .ok (.aload_n 0, 1) := by decide +kernel
theorem dX1_copyFrom_88 : decode cX1_copyFrom 88 = .ok (.aload_n 1, 1) := by decide +kernel
theorem dX1_copyFrom_89 : decode cX1_copyFrom 89 = .ok (.getfield 35, 3) := by decide +kernel
theorem dX1_copyFrom_92 : decode cX1_copyFrom 92 = .ok (.putfield 35, 3) := by decide +kernel
theorem dX1_copyFrom_95 : decode cX1_copyFrom 95 = .ok (.aload_n 0, 1) := by decide +kernel
theorem dX1_copyFrom_96 : decode cX1_copyFrom 96 = .ok (.aload_n 1, 1) := by decide +kernel
theorem dX1_copyFrom_97 : decode cX1_copyFrom 97 = .ok (.getfield 39, 3) := by decide +kernel
theorem dX1_copyFrom_100 : decode cX1_copyFrom 100 = .ok (.putfield 39, 3) := by decide +kernel
theorem dX1_copyFrom_103 : decode cX1_copyFrom 103 = .ok (.aload_n 0, 1) := by decide +kernel
theorem dX1_copyFrom_104 : decode cX1_copyFrom 104 = .ok (.aload_n 1, 1) := by decide +kernel
theorem dX1_copyFrom_105 : decode cX1_copyFrom 105 = .ok (.getfield 42, 3) := by decide +kernel
theorem dX1_copyFrom_108 : decode cX1_copyFrom 108 = .ok (.putfield 42, 3) := by decide +kernel
theorem dX1_copyFrom_111 : decode cX1_copyFrom 111 = .ok (.aload_n 0, 1) := by decide +kernel
theorem dX1_copyFrom_112 : decode cX1_copyFrom 112 = .ok (.aload_n 1, 1) := by decide +kernel
theorem dX1_copyFrom_113 : decode cX1_copyFrom 113 = .ok (.getfield 45, 3) := by decide +kernel
theorem dX1_copyFrom_116 : decode cX1_copyFrom 116 = .ok (.putfield 45, 3) := by decide +kernel
theorem dX1_copyFrom_119 : decode cX1_copyFrom 119 = .ok (.aload_n 0, 1) := by decide +kernel
theorem dX1_copyFrom_120 : decode cX1_copyFrom 120 = .ok (.aload_n 1, 1) := by decide +kernel
theorem dX1_copyFrom_121 : decode cX1_copyFrom 121 = .ok (.getfield 48, 3) := by decide +kernel
theorem dX1_copyFrom_124 : decode cX1_copyFrom 124 = .ok (.putfield 48, 3) := by decide +kernel
theorem dX1_copyFrom_127 : decode cX1_copyFrom 127 = .ok (.return_, 1) := by decide +kernel
theorem dX1_isPlace_0 : decode cX1_isPlace 0 = .ok (.iload_n 1, 1) := by decide +kernel
theorem dX1_isPlace_1 : decode cX1_isPlace 1 = .ok (.ifCond .lt 15, 3) := by decide +kernel
theorem dX1_isPlace_4 : decode cX1_isPlace 4 = .ok (.iload_n 1, 1) := by decide +kernel
theorem dX1_isPlace_5 : decode cX1_isPlace 5 = .ok (.aload_n 0, 1) := by decide +kernel
theorem dX1_isPlace_6 : decode cX1_isPlace 6 = .ok (.getfield 25, 3) := by decide +kernel
theorem dX1_isPlace_9 : decode cX1_isPlace 9 = .ok (.if_icmp .ge 7, 3) := by decide +kernel
theorem dX1_isPlace_12 : decode cX1_isPlace 12 = .ok (.iconst 1, 1) := by decide +kernel
theorem dX1_isPlace_13 : decode cX1_isPlace 13 = .ok (.goto 4, 3) := by decide +kernel
theorem dX1_isPlace_16 : decode cX1_isPlace 16 = .ok (.iconst 0, 1) := by decide +kernel
theorem dX1_isPlace_17 : decode cX1_isPlace 17 = .ok (.ireturn, 1) := by decide +kernel
set_option maxRecDepth 20000 in
theorem ggX1_hasStretch_X1_isPlace : GoodIn wsX1_hasStretch wsX1_isPlace := goodIn_r _ [5, 6, 7, 8, 9, 10, 11, 12, 13, 14, 15, 16, 17] (by decide +kernel) (by decide +kernel)
set_option maxRecDepth 20000 in
theorem gX1_hasStretch_X1_isPlace : GoodIn wsX1_hasStretch (wsV RX1 68 RX1 yX1_isPlace wsX1_isPlace) := goodIn_app (goodIn_of _ (by decide +kernel)) ggX1_hasStretch_X1_isPlace
theorem dX1_hasStretch_0 : decode cX1_hasStretch 0 = .ok (.aload_n 0, 1) := by decide +kernel
theorem dX1_hasStretch_1 : decode cX1_hasStretch 1 = .ok (.iload_n 1, 1) := by decide +kernel
theorem dX1_hasStretch_2 : decode cX1_hasStretch 2 = .ok (.invokevirtual 68, 3) := by decide +kernel
theorem dX1_hasStretch_5 : decode cX1_hasStretch 5 = .ok (.ifCond .eq 20, 3) := by decide +kernel
theorem dX1_hasStretch_8 : decode cX1_hasStretch 8 = .ok (.aload_n 0, 1) := by decide +kernel
theorem dX1_hasStretch_9 : decode cX1_hasStretch 9 = .ok (.iload_n 2, 1) := by decide +kernel
theorem dX1_hasStretch_10 : decode cX1_hasStretch 10 = .ok (.invokevirtual 68, 3) := by decide +kernel
theorem dX1_hasStretch_13 : decode cX1_hasStretch 13 = .ok (.ifCond .eq 12, 3) := by decide +kernel
theorem dX1_hasStretch_16 : decode cX1_hasStretch 16 = .ok (.iload_n 1, 1) := by decide +kernel
theorem dX1_hasStretch_17 : decode cX1_hasStretch 17 = .ok (.iload_n 2, 1) := by decide +kernel
theorem dX1_hasStretch_18 : decode cX1_hasStretch 18 = .ok (.if_icmp .gt 7, 3) := by decide +kernel
theorem dX1_hasStretch_21 : decode cX1_hasStretch 21 = .ok (.iconst 1, 1) := by decide +kernel
theorem dX1_hasStretch_22 : decode cX1_hasStretch 22 = .ok (.goto 4, 3) := by decide +kernel
theorem dX1_hasStretch_25 : decode cX1_hasStretch 25 = .ok (.iconst 0, 1) := by decide +kernel
theorem dX1_hasStretch_26 : decode cX1_hasStretch 26 = .ok (.ireturn, 1) := by decide +kernel
theorem dX1_valueAt_0 : decode cX1_valueAt 0 = .ok (.iload_n 1, 1) := by decide +kernel
theorem dX1_valueAt_1 : decode cX1_valueAt 1 = .ok (.ifCond .lt 21, 3) := by decide +kernel
theorem dX1_valueAt_4 : decode cX1_valueAt 4 = .ok (.iload_n 1, 1) := by decide +kernel
theorem dX1_valueAt_5 : decode cX1_valueAt 5 = .ok (.aload_n 0, 1) := by decide +kernel
theorem dX1_valueAt_6 : decode cX1_valueAt 6 = .ok (.getfield 9, 3) := by decide +kernel
theorem dX1_valueAt_9 : decode cX1_valueAt 9 = .ok (.arraylength, 1) := by decide +kernel
theorem dX1_valueAt_10 : decode cX1_valueAt 10 = .ok (.if_icmp .ge 12, 3) := by decide +kernel
theorem dX1_valueAt_13 : decode cX1_valueAt 13 = .ok (.aload_n 0, 1) := by decide +kernel
theorem dX1_valueAt_14 : decode cX1_valueAt 14 = .ok (.getfield 9, 3) := by decide +kernel
theorem dX1_valueAt_17 : decode cX1_valueAt 17 = .ok (.iload_n 1, 1) := by decide +kernel
theorem dX1_valueAt_18 : decode cX1_valueAt 18 = .ok (.iaload, 1) := by decide +kernel
theorem dX1_valueAt_19 : decode cX1_valueAt 19 = .ok (.goto 4, 3) := by decide +kernel
theorem dX1_valueAt_22 : decode cX1_valueAt 22 = .ok (.iconst 0, 1) := by decide +kernel
theorem dX1_valueAt_23 : decode cX1_valueAt 23 = .ok (.ireturn, 1) := by decide +kernel
set_option maxRecDepth 20000 in
theorem ggX1_isWaiting_X4_isAmong : GoodIn wsX1_isWaiting wsX4_isAmong := goodIn_r _ [4] (by decide +kernel) (by decide +kernel)
set_option maxRecDepth 20000 in
theorem gX1_isWaiting_X4_isAmong_n72 : GoodIn wsX1_isWaiting (wsX4_isAmong) := ggX1_isWaiting_X4_isAmong
theorem dX1_isWaiting_0 : decode cX1_isWaiting 0 = .ok (.aload_n 0, 1) := by decide +kernel
theorem dX1_isWaiting_1 : decode cX1_isWaiting 1 = .ok (.getfield 35, 3) := by decide +kernel
theorem dX1_isWaiting_4 : decode cX1_isWaiting 4 = .ok (.iload_n 1, 1) := by decide +kernel
theorem dX1_isWaiting_5 : decode cX1_isWaiting 5 = .ok (.invokestatic 72, 3) := by decide +kernel
theorem dX1_isWaiting_8 : decode cX1_isWaiting 8 = .ok (.ireturn, 1) := by decide +kernel
theorem dX1_cellsOnLevel_0 : decode cX1_cellsOnLevel 0 = .ok (.iconst 0, 1) := by decide +kernel
theorem dX1_cellsOnLevel_1 : decode cX1_cellsOnLevel 1 = .ok (.aload_n 0, 1) := by decide +kernel
theorem dX1_cellsOnLevel_2 : decode cX1_cellsOnLevel 2 = .ok (.getfield 25, 3) := by decide +kernel
theorem dX1_cellsOnLevel_5 : decode cX1_cellsOnLevel 5 = .ok (.iconst 1, 1) := by decide +kernel
theorem dX1_cellsOnLevel_6 : decode cX1_cellsOnLevel 6 = .ok (.iload_n 1, 1) := by decide +kernel
theorem dX1_cellsOnLevel_7 : decode cX1_cellsOnLevel 7 = .ok (.ishl, 1) := by decide +kernel
theorem dX1_cellsOnLevel_8 : decode cX1_cellsOnLevel 8 = .ok (.isub, 1) := by decide +kernel
theorem dX1_cellsOnLevel_9 : decode cX1_cellsOnLevel 9 = .ok (.iconst 1, 1) := by decide +kernel
theorem dX1_cellsOnLevel_10 : decode cX1_cellsOnLevel 10 = .ok (.iadd, 1) := by decide +kernel
theorem dX1_cellsOnLevel_11 : decode cX1_cellsOnLevel 11 = .ok (.invokestatic 76, 3) := by decide +kernel
theorem dX1_cellsOnLevel_14 : decode cX1_cellsOnLevel 14 = .ok (.ireturn, 1) := by decide +kernel
set_option maxRecDepth 20000 in
theorem ggX1_cellCount_X1_cellsOnLevel : GoodIn wsX1_cellCount wsX1_cellsOnLevel := goodIn_r _ [5, 6, 7, 8, 9, 10, 11, 12, 13, 14, 15, 16, 17, 18, 19, 20, 21] (by decide +kernel) (by decide +kernel)
set_option maxRecDepth 20000 in
theorem gX1_cellCount_X1_cellsOnLevel : GoodIn wsX1_cellCount (wsV RX1 79 RX1 yX1_cellsOnLevel wsX1_cellsOnLevel) := goodIn_app (goodIn_of _ (by decide +kernel)) ggX1_cellCount_X1_cellsOnLevel
theorem dX1_cellCount_0 : decode cX1_cellCount 0 = .ok (.iconst 0, 1) := by decide +kernel
theorem dX1_cellCount_1 : decode cX1_cellCount 1 = .ok (.istore_n 1, 1) := by decide +kernel
theorem dX1_cellCount_2 : decode cX1_cellCount 2 = .ok (.iconst 1, 1) := by decide +kernel
theorem dX1_cellCount_3 : decode cX1_cellCount 3 = .ok (.istore_n 2, 1) := by decide +kernel
theorem dX1_cellCount_4 : decode cX1_cellCount 4 = .ok (.iload_n 2, 1) := by decide +kernel
theorem dX1_cellCount_5 : decode cX1_cellCount 5 = .ok (.bipush 6, 2) := by decide +kernel
theorem dX1_cellCount_7 : decode cX1_cellCount 7 = .ok (.if_icmp .ge 17, 3) := by decide +kernel
theorem dX1_cellCount_10 : decode cX1_cellCount 10 = .ok (.iload_n 1, 1) := by decide +kernel
theorem dX1_cellCount_11 : decode cX1_cellCount 11 = .ok (.aload_n 0, 1) := by decide +kernel
theorem dX1_cellCount_12 : decode cX1_cellCount 12 = .ok (.iload_n 2, 1) := by decide +kernel
theorem dX1_cellCount_13 : decode cX1_cellCount 13 = .ok (.invokevirtual 79, 3) := by decide +kernel
theorem dX1_cellCount_16 : decode cX1_cellCount 16 = .ok (.iadd, 1) := by decide +kernel
theorem dX1_cellCount_17 : decode cX1_cellCount 17 = .ok (.istore_n 1, 1) := by decide +kernel
theorem dX1_cellCount_18 : decode cX1_cellCount 18 = .ok (.iinc 2 1, 3) := by decide +kernel
theorem dX1_cellCount_21 : decode cX1_cellCount 21 = .ok (.goto (-17), 3) := by decide +kernel
theorem dX1_cellCount_24 : decode cX1_cellCount 24 = .ok (.iload_n 1, 1) := by decide +kernel
theorem dX1_cellCount_25 : decode cX1_cellCount 25 = .ok (.ireturn, 1) := by decide +kernel
set_option maxRecDepth 20000 in
theorem ggX1_hasCell_X1_cellsOnLevel : GoodIn wsX1_hasCell wsX1_cellsOnLevel := goodIn_r _ [5, 6, 7, 8, 9, 10, 11, 12, 13, 14, 15, 16, 17, 18, 19, 20, 21] (by decide +kernel) (by decide +kernel)
set_option maxRecDepth 20000 in
theorem gX1_hasCell_X1_cellsOnLevel : GoodIn wsX1_hasCell (wsV RX1 79 RX1 yX1_cellsOnLevel wsX1_cellsOnLevel) := goodIn_app (goodIn_of _ (by decide +kernel)) ggX1_hasCell_X1_cellsOnLevel
theorem dX1_hasCell_0 : decode cX1_hasCell 0 = .ok (.iload_n 1, 1) := by decide +kernel
theorem dX1_hasCell_1 : decode cX1_hasCell 1 = .ok (.ifCond .lt 26, 3) := by decide +kernel
theorem dX1_hasCell_4 : decode cX1_hasCell 4 = .ok (.iload_n 1, 1) := by decide +kernel
theorem dX1_hasCell_5 : decode cX1_hasCell 5 = .ok (.bipush 6, 2) := by decide +kernel
theorem dX1_hasCell_7 : decode cX1_hasCell 7 = .ok (.if_icmp .ge 20, 3) := by decide +kernel
theorem dX1_hasCell_10 : decode cX1_hasCell 10 = .ok (.iload_n 2, 1) := by decide +kernel
theorem dX1_hasCell_11 : decode cX1_hasCell 11 = .ok (.ifCond .lt 16, 3) := by decide +kernel
theorem dX1_hasCell_14 : decode cX1_hasCell 14 = .ok (.iload_n 2, 1) := by decide +kernel
theorem dX1_hasCell_15 : decode cX1_hasCell 15 = .ok (.aload_n 0, 1) := by decide +kernel
theorem dX1_hasCell_16 : decode cX1_hasCell 16 = .ok (.iload_n 1, 1) := by decide +kernel
theorem dX1_hasCell_17 : decode cX1_hasCell 17 = .ok (.invokevirtual 79, 3) := by decide +kernel
theorem dX1_hasCell_20 : decode cX1_hasCell 20 = .ok (.if_icmp .ge 7, 3) := by decide +kernel
theorem dX1_hasCell_23 : decode cX1_hasCell 23 = .ok (.iconst 1, 1) := by decide +kernel
theorem dX1_hasCell_24 : decode cX1_hasCell 24 = .ok (.goto 4, 3) := by decide +kernel
theorem dX1_hasCell_27 : decode cX1_hasCell 27 = .ok (.iconst 0, 1) := by decide +kernel
theorem dX1_hasCell_28 : decode cX1_hasCell 28 = .ok (.ireturn, 1) := by decide +kernel
theorem dX1_cellAt_0 : decode cX1_cellAt 0 = .ok (.iload_n 1, 1) := by decide +kernel
theorem dX1_cellAt_1 : decode cX1_cellAt 1 = .ok (.bipush 40, 2) := by decide +kernel
theorem dX1_cellAt_3 : decode cX1_cellAt 3 = .ok (.imul, 1) := by decide +kernel
theorem dX1_cellAt_4 : decode cX1_cellAt 4 = .ok (.iload_n 2, 1) := by decide +kernel
theorem dX1_cellAt_5 : decode cX1_cellAt 5 = .ok (.iadd, 1) := by decide +kernel
theorem dX1_cellAt_6 : decode cX1_cellAt 6 = .ok (.istore_n 3, 1) := by decide +kernel
theorem dX1_cellAt_7 : decode cX1_cellAt 7 = .ok (.iload_n 1, 1) := by decide +kernel
theorem dX1_cellAt_8 : decode cX1_cellAt 8 = .ok (.ifCond .eq 16, 3) := by decide +kernel
theorem dX1_cellAt_11 : decode cX1_cellAt 11 = .ok (.iload_n 3, 1) := by decide +kernel
theorem dX1_cellAt_12 : decode cX1_cellAt 12 = .ok (.ifCond .lt 12, 3) := by decide +kernel
theorem dX1_cellAt_15 : decode cX1_cellAt 15 = .ok (.iload_n 3, 1) := by decide +kernel
theorem dX1_cellAt_16 : decode cX1_cellAt 16 = .ok (.aload_n 0, 1) := by decide +kernel
theorem dX1_cellAt_17 : decode cX1_cellAt 17 = .ok (.getfield 15, 3) := by decide +kernel
theorem dX1_cellAt_20 : decode cX1_cellAt 20 = .ok (.arraylength, 1) := by decide +kernel
theorem dX1_cellAt_21 : decode cX1_cellAt 21 = .ok (.if_icmp .lt 5, 3) := by decide +kernel
theorem dX1_cellAt_24 : decode cX1_cellAt 24 = .ok (.iload_n 2, 1) := by decide +kernel
theorem dX1_cellAt_25 : decode cX1_cellAt 25 = .ok (.ireturn, 1) := by decide +kernel
theorem dX1_cellAt_26 : decode cX1_cellAt 26 = .ok (.aload_n 0, 1) := by decide +kernel
theorem dX1_cellAt_27 : decode cX1_cellAt 27 = .ok (.getfield 15, 3) := by decide +kernel
theorem dX1_cellAt_30 : decode cX1_cellAt 30 = .ok (.iload_n 3, 1) := by decide +kernel
theorem dX1_cellAt_31 : decode cX1_cellAt 31 = .ok (.iaload, 1) := by decide +kernel
theorem dX1_cellAt_32 : decode cX1_cellAt 32 = .ok (.ireturn, 1) := by decide +kernel
theorem dX1_lastCellOver_0 : decode cX1_lastCellOver 0 = .ok (.iload_n 2, 1) := by decide +kernel
theorem dX1_lastCellOver_1 : decode cX1_lastCellOver 1 = .ok (.aload_n 0, 1) := by decide +kernel
theorem dX1_lastCellOver_2 : decode cX1_lastCellOver 2 = .ok (.getfield 25, 3) := by decide +kernel
theorem dX1_lastCellOver_5 : decode cX1_lastCellOver 5 = .ok (.iconst 1, 1) := by decide +kernel
theorem dX1_lastCellOver_6 : decode cX1_lastCellOver 6 = .ok (.iload_n 1, 1) := by decide +kernel
theorem dX1_lastCellOver_7 : decode cX1_lastCellOver 7 = .ok (.ishl, 1) := by decide +kernel
theorem dX1_lastCellOver_8 : decode cX1_lastCellOver 8 = .ok (.isub, 1) := by decide +kernel
theorem dX1_lastCellOver_9 : decode cX1_lastCellOver 9 = .ok (.invokestatic 52, 3) := by decide +kernel
theorem dX1_lastCellOver_12 : decode cX1_lastCellOver 12 = .ok (.ireturn, 1) := by decide +kernel
set_option maxRecDepth 20000 in
theorem ggX1_isCellWrong_X1_cellAt : GoodIn wsX1_isCellWrong wsX1_cellAt := goodIn_r _ [6, 7, 21, 22, 23, 24, 25, 26, 27, 28, 29, 30, 31] (by decide +kernel) (by decide +kernel)
set_option maxRecDepth 20000 in
theorem gX1_isCellWrong_X1_cellAt : GoodIn wsX1_isCellWrong (wsV RX1 83 RX1 yX1_cellAt wsX1_cellAt) := goodIn_app (goodIn_of _ (by decide +kernel)) ggX1_isCellWrong_X1_cellAt
set_option maxRecDepth 20000 in
theorem ggX1_isCellWrong_X1_leastByValues : GoodIn wsX1_isCellWrong wsX1_leastByValues := goodIn_r _ [11, 12, 13, 14, 5, 15, 16, 17, 18, 19, 20, 21, 22, 23, 24, 25, 26, 27, 28, 29, 30, 31] (by decide +kernel) (by decide +kernel)
set_option maxRecDepth 20000 in
theorem gX1_isCellWrong_X1_leastByValues : GoodIn wsX1_isCellWrong (wsV RX1 86 RX1 yX1_leastByValues wsX1_leastByValues) := goodIn_app (goodIn_of _ (by decide +kernel)) ggX1_isCellWrong_X1_leastByValues
theorem dX1_isCellWrong_0 : decode cX1_isCellWrong 0 = .ok (.lconst 1, 1) := by decide +kernel
theorem dX1_isCellWrong_1 : decode cX1_isCellWrong 1 = .ok (.iconst 1, 1) := by decide +kernel
theorem dX1_isCellWrong_2 : decode cX1_isCellWrong 2 = .ok (.iload_n 1, 1) := by decide +kernel
theorem dX1_isCellWrong_3 : decode cX1_isCellWrong 3 = .ok (.ishl, 1) := by decide +kernel
theorem dX1_isCellWrong_4 : decode cX1_isCellWrong 4 = .ok (.lshl, 1) := by decide +kernel
theorem dX1_isCellWrong_5 : decode cX1_isCellWrong 5 = .ok (.lconst 1, 1) := by decide +kernel
theorem dX1_isCellWrong_6 : decode cX1_isCellWrong 6 = .ok (.lsub, 1) := by decide +kernel
theorem dX1_isCellWrong_7 : decode cX1_isCellWrong 7 = .ok (.iload_n 2, 1) := by decide +kernel
theorem dX1_isCellWrong_8 : decode cX1_isCellWrong 8 = .ok (.lshl, 1) := by decide +kernel
theorem dX1_isCellWrong_9 : decode cX1_isCellWrong 9 = .ok (.lstore_n 3, 1) := by decide +kernel
theorem dX1_isCellWrong_10 : decode cX1_isCellWrong 10 = .ok (.aload_n 0, 1) := by decide +kernel
theorem dX1_isCellWrong_11 : decode cX1_isCellWrong 11 = .ok (.getfield 35, 3) := by decide +kernel
theorem dX1_isCellWrong_14 : decode cX1_isCellWrong 14 = .ok (.lload_n 3, 1) := by decide +kernel
theorem dX1_isCellWrong_15 : decode cX1_isCellWrong 15 = .ok (.land, 1) := by decide +kernel
theorem dX1_isCellWrong_16 : decode cX1_isCellWrong 16 = .ok (.lconst 0, 1) := by decide +kernel
theorem dX1_isCellWrong_17 : decode cX1_isCellWrong 17 = .ok (.lcmp, 1) := by decide +kernel
theorem dX1_isCellWrong_18 : decode cX1_isCellWrong 18 = .ok (.ifCond .ne 28, 3) := by decide +kernel
theorem dX1_isCellWrong_21 : decode cX1_isCellWrong 21 = .ok (.aload_n 0, 1) := by decide +kernel
theorem dX1_isCellWrong_22 : decode cX1_isCellWrong 22 = .ok (.iload_n 1, 1) := by decide +kernel
theorem dX1_isCellWrong_23 : decode cX1_isCellWrong 23 = .ok (.iload_n 2, 1) := by decide +kernel
theorem dX1_isCellWrong_24 : decode cX1_isCellWrong 24 = .ok (.invokevirtual 83, 3) := by decide +kernel
theorem dX1_isCellWrong_27 : decode cX1_isCellWrong 27 = .ok (.aload_n 0, 1) := by decide +kernel
theorem dX1_isCellWrong_28 : decode cX1_isCellWrong 28 = .ok (.iload_n 2, 1) := by decide +kernel
theorem dX1_isCellWrong_29 : decode cX1_isCellWrong 29 = .ok (.iload_n 2, 1) := by decide +kernel
theorem dX1_isCellWrong_30 : decode cX1_isCellWrong 30 = .ok (.iconst 1, 1) := by decide +kernel
theorem dX1_isCellWrong_31 : decode cX1_isCellWrong 31 = .ok (.iload_n 1, 1) := by decide +kernel
theorem dX1_isCellWrong_32 : decode cX1_isCellWrong 32 = .ok (.ishl, 1) := by decide +kernel
theorem dX1_isCellWrong_33 : decode cX1_isCellWrong 33 = .ok (.iadd, 1) := by decide +kernel
theorem dX1_isCellWrong_34 : decode cX1_isCellWrong 34 = .ok (.iconst 1, 1) := by decide +kernel
theorem dX1_isCellWrong_35 : decode cX1_isCellWrong 35 = .ok (.isub, 1) := by decide +kernel
theorem dX1_isCellWrong_36 : decode cX1_isCellWrong 36 = .ok (.invokevirtual 86, 3) := by decide +kernel
theorem dX1_isCellWrong_39 : decode cX1_isCellWrong 39 = .ok (.if_icmp .eq 7, 3) := by decide +kernel
theorem dX1_isCellWrong_42 : decode cX1_isCellWrong 42 = .ok (.iconst 1, 1) := by decide +kernel
theorem dX1_isCellWrong_43 : decode cX1_isCellWrong 43 = .ok (.goto 4, 3) := by decide +kernel
theorem dX1_isCellWrong_46 : decode cX1_isCellWrong 46 = .ok (.iconst 0, 1) := by decide +kernel
theorem dX1_isCellWrong_47 : decode cX1_isCellWrong 47 = .ok (.ireturn, 1) := by decide +kernel
theorem dX1_lesser_0 : decode cX1_lesser 0 = .ok (.iload_n 1, 1) := by decide +kernel
theorem dX1_lesser_1 : decode cX1_lesser 1 = .ok (.ifCond .lt 12, 3) := by decide +kernel
theorem dX1_lesser_4 : decode cX1_lesser 4 = .ok (.iload_n 1, 1) := by decide +kernel
theorem dX1_lesser_5 : decode cX1_lesser 5 = .ok (.aload_n 0, 1) := by decide +kernel
theorem dX1_lesser_6 : decode cX1_lesser 6 = .ok (.getfield 9, 3) := by decide +kernel
theorem dX1_lesser_9 : decode cX1_lesser 9 = .ok (.arraylength, 1) := by decide +kernel
theorem dX1_lesser_10 : decode cX1_lesser 10 = .ok (.if_icmp .lt 5, 3) := by decide +kernel
theorem dX1_lesser_13 : decode cX1_lesser 13 = .ok (.iload_n 2, 1) := by decide +kernel
theorem dX1_lesser_14 : decode cX1_lesser 14 = .ok (.ireturn, 1) := by decide +kernel
theorem dX1_lesser_15 : decode cX1_lesser 15 = .ok (.iload_n 2, 1) := by decide +kernel
theorem dX1_lesser_16 : decode cX1_lesser 16 = .ok (.ifCond .lt 12, 3) := by decide +kernel
theorem dX1_lesser_19 : decode cX1_lesser 19 = .ok (.iload_n 2, 1) := by decide +kernel
theorem dX1_lesser_20 : decode cX1_lesser 20 = .ok (.aload_n 0, 1) := by decide +kernel
theorem dX1_lesser_21 : decode cX1_lesser 21 = .ok (.getfield 9, 3) := by decide +kernel
theorem dX1_lesser_24 : decode cX1_lesser 24 = .ok (.arraylength, 1) := by decide +kernel
theorem dX1_lesser_25 : decode cX1_lesser 25 = .ok (.if_icmp .lt 5, 3) := by decide +kernel
theorem dX1_lesser_28 : decode cX1_lesser 28 = .ok (.iload_n 1, 1) := by decide +kernel
theorem dX1_lesser_29 : decode cX1_lesser 29 = .ok (.ireturn, 1) := by decide +kernel
theorem dX1_lesser_30 : decode cX1_lesser 30 = .ok (.aload_n 0, 1) := by decide +kernel
theorem dX1_lesser_31 : decode cX1_lesser 31 = .ok (.getfield 9, 3) := by decide +kernel
theorem dX1_lesser_34 : decode cX1_lesser 34 = .ok (.iload_n 1, 1) := by decide +kernel
theorem dX1_lesser_35 : decode cX1_lesser 35 = .ok (.iaload, 1) := by decide +kernel
theorem dX1_lesser_36 : decode cX1_lesser 36 = .ok (.aload_n 0, 1) := by decide +kernel
theorem dX1_lesser_37 : decode cX1_lesser 37 = .ok (.getfield 9, 3) := by decide +kernel
theorem dX1_lesser_40 : decode cX1_lesser 40 = .ok (.iload_n 2, 1) := by decide +kernel
theorem dX1_lesser_41 : decode cX1_lesser 41 = .ok (.iaload, 1) := by decide +kernel
theorem dX1_lesser_42 : decode cX1_lesser 42 = .ok (.if_icmp .ne 9, 3) := by decide +kernel
theorem dX1_lesser_45 : decode cX1_lesser 45 = .ok (.iload_n 1, 1) := by decide +kernel
theorem dX1_lesser_46 : decode cX1_lesser 46 = .ok (.iload_n 2, 1) := by decide +kernel
theorem dX1_lesser_47 : decode cX1_lesser 47 = .ok (.invokestatic 52, 3) := by decide +kernel
theorem dX1_lesser_50 : decode cX1_lesser 50 = .ok (.ireturn, 1) := by decide +kernel
theorem dX1_lesser_51 : decode cX1_lesser 51 = .ok (.aload_n 0, 1) := by decide +kernel
theorem dX1_lesser_52 : decode cX1_lesser 52 = .ok (.getfield 9, 3) := by decide +kernel
theorem dX1_lesser_55 : decode cX1_lesser 55 = .ok (.iload_n 1, 1) := by decide +kernel
theorem dX1_lesser_56 : decode cX1_lesser 56 = .ok (.iaload, 1) := by decide +kernel
theorem dX1_lesser_57 : decode cX1_lesser 57 = .ok (.aload_n 0, 1) := by decide +kernel
theorem dX1_lesser_58 : decode cX1_lesser 58 = .ok (.getfield 9, 3) := by decide +kernel
theorem dX1_lesser_61 : decode cX1_lesser 61 = .ok (.iload_n 2, 1) := by decide +kernel
theorem dX1_lesser_62 : decode cX1_lesser 62 = .ok (.iaload, 1) := by decide +kernel
theorem dX1_lesser_63 : decode cX1_lesser 63 = .ok (.if_icmp .ge 7, 3) := by decide +kernel
theorem dX1_lesser_66 : decode cX1_lesser 66 = .ok (.iload_n 1, 1) := by decide +kernel
theorem dX1_lesser_67 : decode cX1_lesser 67 = .ok (.goto 4, 3) := by decide +kernel
theorem dX1_lesser_70 : decode cX1_lesser 70 = .ok (.iload_n 2, 1) := by decide +kernel
theorem dX1_lesser_71 : decode cX1_lesser 71 = .ok (.ireturn, 1) := by decide +kernel
set_option maxRecDepth 20000 in
theorem ggX1_leastByValues_X1_lesser : GoodIn wsX1_leastByValues wsX1_lesser := goodIn_r _ [5, 6, 7, 8, 9, 10, 11, 12, 13, 14, 15, 16, 17, 18, 19, 20, 21] (by decide +kernel) (by decide +kernel)
set_option maxRecDepth 20000 in
theorem gX1_leastByValues_X1_lesser : GoodIn wsX1_leastByValues (wsV RX1 89 RX1 yX1_lesser wsX1_lesser) := goodIn_app (goodIn_of _ (by decide +kernel)) ggX1_leastByValues_X1_lesser
theorem dX1_leastByValues_0 : decode cX1_leastByValues 0 = .ok (.iconst (-1), 1) := by decide +kernel
theorem dX1_leastByValues_1 : decode cX1_leastByValues 1 = .ok (.istore_n 3, 1) := by decide +kernel
theorem dX1_leastByValues_2 : decode cX1_leastByValues 2 = .ok (.iload_n 1, 1) := by decide +kernel
theorem dX1_leastByValues_3 : decode cX1_leastByValues 3 = .ok (.istore 4, 2) := by decide +kernel
theorem dX1_leastByValues_5 : decode cX1_leastByValues 5 = .ok (.iload 4, 2) := by decide +kernel
theorem dX1_leastByValues_7 : decode cX1_leastByValues 7 = .ok (.iload_n 2, 1) := by decide +kernel
theorem dX1_leastByValues_8 : decode cX1_leastByValues 8 = .ok (.if_icmp .gt 17, 3) := by decide +kernel
theorem dX1_leastByValues_11 : decode cX1_leastByValues 11 = .ok (.aload_n 0, 1) := by decide +kernel
theorem dX1_leastByValues_12 : decode cX1_leastByValues 12 = .ok (.iload_n 3, 1) := by decide +kernel
theorem dX1_leastByValues_13 : decode cX1_leastByValues 13 = .ok (.iload 4, 2) := by decide +kernel
theorem dX1_leastByValues_15 : decode cX1_leastByValues 15 = .ok (.invokevirtual 89, 3) := by decide +kernel
theorem dX1_leastByValues_18 : decode cX1_leastByValues 18 = .ok (.istore_n 3, 1) := by decide +kernel
theorem dX1_leastByValues_19 : decode cX1_leastByValues 19 = .ok (.iinc 4 1, 3) := by decide +kernel
theorem dX1_leastByValues_22 : decode cX1_leastByValues 22 = .ok (.goto (-17), 3) := by decide +kernel
theorem dX1_leastByValues_25 : decode cX1_leastByValues 25 = .ok (.iload_n 3, 1) := by decide +kernel
theorem dX1_leastByValues_26 : decode cX1_leastByValues 26 = .ok (.ireturn, 1) := by decide +kernel
set_option maxRecDepth 20000 in
theorem ggX1_buildAll_X1_writeCellsOver : GoodIn wsX1_buildAll wsX1_writeCellsOver := goodIn_r _ [8, 9, 10, 11, 12, 13, 7, 14, 1, 15, 16, 17, 18, 19, 20, 21, 22, 23, 24, 25, 26, 27, 28, 29, 30, 31, 32, 33, 34, 35, 36, 37, 38, 39, 40, 41, 42, 43, 44] (by decide +kernel) (by decide +kernel)
set_option maxRecDepth 20000 in
theorem gX1_buildAll_X1_writeCellsOver : GoodIn wsX1_buildAll (wsV RX1 92 RX1 yX1_writeCellsOver wsX1_writeCellsOver) := goodIn_app (goodIn_of _ (by decide +kernel)) ggX1_buildAll_X1_writeCellsOver
theorem dX1_buildAll_0 : decode cX1_buildAll 0 = .ok (.aload_n 0, 1) := by decide +kernel
theorem dX1_buildAll_1 : decode cX1_buildAll 1 = .ok (.iconst 0, 1) := by decide +kernel
theorem dX1_buildAll_2 : decode cX1_buildAll 2 = .ok (.aload_n 0, 1) := by decide +kernel
theorem dX1_buildAll_3 : decode cX1_buildAll 3 = .ok (.getfield 25, 3) := by decide +kernel
theorem dX1_buildAll_6 : decode cX1_buildAll 6 = .ok (.iconst 1, 1) := by decide +kernel
theorem dX1_buildAll_7 : decode cX1_buildAll 7 = .ok (.isub, 1) := by decide +kernel
theorem dX1_buildAll_8 : decode cX1_buildAll 8 = .ok (.invokevirtual 92, 3) := by decide +kernel
theorem dX1_buildAll_11 : decode cX1_buildAll 11 = .ok (.aload_n 0, 1) := by decide +kernel
theorem dX1_buildAll_12 : decode cX1_buildAll 12 = .ok (.lconst 0, 1) := by decide +kernel
theorem dX1_buildAll_13 : decode cX1_buildAll 13 = .ok (.putfield 35, 3) := by decide +kernel
theorem dX1_buildAll_16 : decode cX1_buildAll 16 = .ok (.aload_n 0, 1) := by decide +kernel
theorem dX1_buildAll_17 : decode cX1_buildAll 17 = .ok (.dup, 1) := by decide +kernel
theorem dX1_buildAll_18 : decode cX1_buildAll 18 = .ok (.getfield 48, 3) := by decide +kernel
theorem dX1_buildAll_21 : decode cX1_buildAll 21 = .ok (.iconst 1, 1) := by decide +kernel
theorem dX1_buildAll_22 : decode cX1_buildAll 22 = .ok (.iadd, 1) := by decide +kernel
theorem dX1_buildAll_23 : decode cX1_buildAll 23 = .ok (.putfield 48, 3) := by decide +kernel
theorem dX1_buildAll_26 : decode cX1_buildAll 26 = .ok (.return_, 1) := by decide +kernel
set_option maxRecDepth 20000 in
theorem ggX1_writeCellsOver_X1_lastCellOver : GoodIn wsX1_writeCellsOver wsX1_lastCellOver := goodIn_r _ [7, 8, 9, 10, 11, 12, 28, 29, 30, 31, 32, 33, 34, 35, 36, 37, 38] (by decide +kernel) (by decide +kernel)
set_option maxRecDepth 20000 in
theorem gX1_writeCellsOver_X1_lastCellOver : GoodIn wsX1_writeCellsOver (wsV RX1 96 RX1 yX1_lastCellOver wsX1_lastCellOver) := goodIn_app (goodIn_of _ (by decide +kernel)) ggX1_writeCellsOver_X1_lastCellOver
set_option maxRecDepth 20000 in
theorem ggX1_writeCellsOver_X4_firstCellOver : GoodIn wsX1_writeCellsOver wsX4_firstCellOver := goodIn_r _ [15, 16, 17, 11, 18] (by decide +kernel) (by decide +kernel)
set_option maxRecDepth 20000 in
theorem gX1_writeCellsOver_X4_firstCellOver_n99 : GoodIn wsX1_writeCellsOver (wsX4_firstCellOver) := ggX1_writeCellsOver_X4_firstCellOver
set_option maxRecDepth 20000 in
theorem ggX1_writeCellsOver_X1_cellAt : GoodIn wsX1_writeCellsOver wsX1_cellAt := goodIn_r _ [22, 1, 28, 29, 30, 31, 32, 33, 34, 35, 36, 37, 38] (by decide +kernel) (by decide +kernel)
set_option maxRecDepth 20000 in
theorem gX1_writeCellsOver_X1_cellAt : GoodIn wsX1_writeCellsOver (wsV RX1 83 RX1 yX1_cellAt wsX1_cellAt) := goodIn_app (goodIn_of _ (by decide +kernel)) ggX1_writeCellsOver_X1_cellAt
set_option maxRecDepth 20000 in
theorem ggX1_writeCellsOver_X1_lesser : GoodIn wsX1_writeCellsOver wsX1_lesser := goodIn_r _ [26, 27, 9, 10, 11, 12, 28, 29, 30, 31, 32, 33, 34, 35, 36, 37, 38] (by decide +kernel) (by decide +kernel)
set_option maxRecDepth 20000 in
theorem gX1_writeCellsOver_X1_lesser : GoodIn wsX1_writeCellsOver (wsV RX1 89 RX1 yX1_lesser wsX1_lesser) := goodIn_app (goodIn_of _ (by decide +kernel)) ggX1_writeCellsOver_X1_lesser
theorem dX1_writeCellsOver_0 : decode cX1_writeCellsOver 0 = .ok (.iconst 1, 1) := by decide +kernel
theorem dX1_writeCellsOver_1 : decode cX1_writeCellsOver 1 = .ok (.istore_n 3, 1) := by decide +kernel
theorem dX1_writeCellsOver_2 : decode cX1_writeCellsOver 2 = .ok (.iload_n 3, 1) := by decide +kernel
theorem dX1_writeCellsOver_3 : decode cX1_writeCellsOver 3 = .ok (.bipush 6, 2) := by decide +kernel
theorem dX1_writeCellsOver_5 : decode cX1_writeCellsOver 5 = .ok (.if_icmp .ge 110, 3) := by decide +kernel
theorem dX1_writeCellsOver_8 : decode cX1_writeCellsOver 8 = .ok (.iconst 1, 1) := by decide +kernel
theorem dX1_writeCellsOver_9 : decode cX1_writeCellsOver 9 = .ok (.iload_n 3, 1) := by decide +kernel
theorem dX1_writeCellsOver_10 : decode cX1_writeCellsOver 10 = .ok (.iconst 1, 1) := by decide +kernel
theorem dX1_writeCellsOver_11 : decode cX1_writeCellsOver 11 = .ok (.isub, 1) := by decide +kernel
theorem dX1_writeCellsOver_12 : decode cX1_writeCellsOver 12 = .ok (.ishl, 1) := by decide +kernel
theorem dX1_writeCellsOver_13 : decode cX1_writeCellsOver 13 = .ok (.istore 4, 2) := by decide +kernel
theorem dX1_writeCellsOver_15 : decode cX1_writeCellsOver 15 = .ok (.aload_n 0, 1) := by decide +kernel
theorem dX1_writeCellsOver_16 : decode cX1_writeCellsOver 16 = .ok (.iload_n 3, 1) := by decide +kernel
theorem dX1_writeCellsOver_17 : decode cX1_writeCellsOver 17 = .ok (.iload_n 2, 1) := by decide +kernel
theorem dX1_writeCellsOver_18 : decode cX1_writeCellsOver 18 = .ok (.invokevirtual 96, 3) := by decide +kernel
theorem dX1_writeCellsOver_21 : decode cX1_writeCellsOver 21 = .ok (.istore 5, 2) := by decide +kernel
theorem dX1_writeCellsOver_23 : decode cX1_writeCellsOver 23 = .ok (.iload_n 3, 1) := by decide +kernel
theorem dX1_writeCellsOver_24 : decode cX1_writeCellsOver 24 = .ok (.iload_n 1, 1) := by decide +kernel
theorem dX1_writeCellsOver_25 : decode cX1_writeCellsOver 25 = .ok (.invokestatic 99, 3) := by decide +kernel
theorem dX1_writeCellsOver_28 : decode cX1_writeCellsOver 28 = .ok (.istore 6, 2) := by decide +kernel
theorem dX1_writeCellsOver_30 : decode cX1_writeCellsOver 30 = .ok (.iload 6, 2) := by decide +kernel
theorem dX1_writeCellsOver_32 : decode cX1_writeCellsOver 32 = .ok (.iload 5, 2) := by decide +kernel
theorem dX1_writeCellsOver_34 : decode cX1_writeCellsOver 34 = .ok (.if_icmp .gt 75, 3) := by decide +kernel
theorem dX1_writeCellsOver_37 : decode cX1_writeCellsOver 37 = .ok (.iload_n 3, 1) := by decide +kernel
theorem dX1_writeCellsOver_38 : decode cX1_writeCellsOver 38 = .ok (.bipush 40, 2) := by decide +kernel
theorem dX1_writeCellsOver_40 : decode cX1_writeCellsOver 40 = .ok (.imul, 1) := by decide +kernel
theorem dX1_writeCellsOver_41 : decode cX1_writeCellsOver 41 = .ok (.iload 6, 2) := by decide +kernel
theorem dX1_writeCellsOver_43 : decode cX1_writeCellsOver 43 = .ok (.iadd, 1) := by decide +kernel
theorem dX1_writeCellsOver_44 : decode cX1_writeCellsOver 44 = .ok (.istore 7, 2) := by decide +kernel
theorem dX1_writeCellsOver_46 : decode cX1_writeCellsOver 46 = .ok (.iload 7, 2) := by decide +kernel
theorem dX1_writeCellsOver_48 : decode cX1_writeCellsOver 48 = .ok (.ifCond .lt 55, 3) := by decide +kernel
theorem dX1_writeCellsOver_51 : decode cX1_writeCellsOver 51 = .ok (.iload 7, 2) := by decide +kernel
theorem dX1_writeCellsOver_53 : decode cX1_writeCellsOver 53 = .ok (.aload_n 0, 1) := by decide +kernel
theorem dX1_writeCellsOver_54 : decode cX1_writeCellsOver 54 = .ok (.getfield 15, 3) := by decide +kernel
theorem dX1_writeCellsOver_57 : decode cX1_writeCellsOver 57 = .ok (.arraylength, 1) := by decide +kernel
theorem dX1_writeCellsOver_58 : decode cX1_writeCellsOver 58 = .ok (.if_icmp .ge 45, 3) := by decide +kernel
theorem dX1_writeCellsOver_61 : decode cX1_writeCellsOver 61 = .ok (.aload_n 0, 1) := by decide +kernel
theorem dX1_writeCellsOver_62 : decode cX1_writeCellsOver 62 = .ok (.getfield 15, 3) := by decide +kernel
theorem dX1_writeCellsOver_65 : decode cX1_writeCellsOver 65 = .ok (.iload 7, 2) := by decide +kernel
theorem dX1_writeCellsOver_67 : decode cX1_writeCellsOver 67 = .ok (.aload_n 0, 1) := by decide +kernel
theorem dX1_writeCellsOver_68 : decode cX1_writeCellsOver 68 = .ok (.aload_n 0, 1) := by decide +kernel
theorem dX1_writeCellsOver_69 : decode cX1_writeCellsOver 69 = .ok (.iload_n 3, 1) := by decide +kernel
theorem dX1_writeCellsOver_70 : decode cX1_writeCellsOver 70 = .ok (.iconst 1, 1) := by decide +kernel
theorem dX1_writeCellsOver_71 : decode cX1_writeCellsOver 71 = .ok (.isub, 1) := by decide +kernel
theorem dX1_writeCellsOver_72 : decode cX1_writeCellsOver 72 = .ok (.iload 6, 2) := by decide +kernel
theorem dX1_writeCellsOver_74 : decode cX1_writeCellsOver 74 = .ok (.invokevirtual 83, 3) := by decide +kernel
theorem dX1_writeCellsOver_77 : decode cX1_writeCellsOver 77 = .ok (.aload_n 0, 1) := by decide +kernel
theorem dX1_writeCellsOver_78 : decode cX1_writeCellsOver 78 = .ok (.iload_n 3, 1) := by decide +kernel
theorem dX1_writeCellsOver_79 : decode cX1_writeCellsOver 79 = .ok (.iconst 1, 1) := by decide +kernel
theorem dX1_writeCellsOver_80 : decode cX1_writeCellsOver 80 = .ok (.isub, 1) := by decide +kernel
theorem dX1_writeCellsOver_81 : decode cX1_writeCellsOver 81 = .ok (.iload 6, 2) := by decide +kernel
theorem dX1_writeCellsOver_83 : decode cX1_writeCellsOver 83 = .ok (.iload 4, 2) := by decide +kernel
theorem dX1_writeCellsOver_85 : decode cX1_writeCellsOver 85 = .ok (.iadd, 1) := by decide +kernel
theorem dX1_writeCellsOver_86 : decode cX1_writeCellsOver 86 = .ok (.invokevirtual 83, 3) := by decide +kernel
theorem dX1_writeCellsOver_89 : decode cX1_writeCellsOver 89 = .ok (.invokevirtual 89, 3) := by decide +kernel
theorem dX1_writeCellsOver_92 : decode cX1_writeCellsOver 92 = .ok (.iastore, 1) := by decide +kernel
theorem dX1_writeCellsOver_93 : decode cX1_writeCellsOver 93 = .ok (.aload_n 0, 1) := by decide +kernel
theorem dX1_writeCellsOver_94 : decode cX1_writeCellsOver 94 = .ok (.dup, 1) := by decide +kernel
theorem dX1_writeCellsOver_95 : decode cX1_writeCellsOver 95 = .ok (.getfield 42, 3) := by decide +kernel
theorem dX1_writeCellsOver_98 : decode cX1_writeCellsOver 98 = .ok (.iconst 1, 1) := by decide +kernel
theorem dX1_writeCellsOver_99 : decode cX1_writeCellsOver 99 = .ok (.iadd, 1) := by decide +kernel
theorem dX1_writeCellsOver_100 : decode cX1_writeCellsOver 100 = .ok (.putfield 42, 3) := by decide +kernel
theorem dX1_writeCellsOver_103 : decode cX1_writeCellsOver 103 = .ok (.iinc 6 1, 3) := by decide +kernel
theorem dX1_writeCellsOver_106 : decode cX1_writeCellsOver 106 = .ok (.goto (-76), 3) := by decide +kernel
theorem dX1_writeCellsOver_109 : decode cX1_writeCellsOver 109 = .ok (.iinc 3 1, 3) := by decide +kernel
theorem dX1_writeCellsOver_112 : decode cX1_writeCellsOver 112 = .ok (.goto (-110), 3) := by decide +kernel
theorem dX1_writeCellsOver_115 : decode cX1_writeCellsOver 115 = .ok (.return_, 1) := by decide +kernel
theorem dX1_isBuiltByQuestion_0 : decode cX1_isBuiltByQuestion 0 = .ok (.aload_n 0, 1) := by decide +kernel
theorem dX1_isBuiltByQuestion_1 : decode cX1_isBuiltByQuestion 1 = .ok (.getfield 29, 3) := by decide +kernel
theorem dX1_isBuiltByQuestion_4 : decode cX1_isBuiltByQuestion 4 = .ok (.ifCond .ne 16, 3) := by decide +kernel
theorem dX1_isBuiltByQuestion_7 : decode cX1_isBuiltByQuestion 7 = .ok (.aload_n 0, 1) := by decide +kernel
theorem dX1_isBuiltByQuestion_8 : decode cX1_isBuiltByQuestion 8 = .ok (.getfield 35, 3) := by decide +kernel
theorem dX1_isBuiltByQuestion_11 : decode cX1_isBuiltByQuestion 11 = .ok (.lconst 0, 1) := by decide +kernel
theorem dX1_isBuiltByQuestion_12 : decode cX1_isBuiltByQuestion 12 = .ok (.lcmp, 1) := by decide +kernel
theorem dX1_isBuiltByQuestion_13 : decode cX1_isBuiltByQuestion 13 = .ok (.ifCond .eq 7, 3) := by decide +kernel
theorem dX1_isBuiltByQuestion_16 : decode cX1_isBuiltByQuestion 16 = .ok (.iconst 1, 1) := by decide +kernel
theorem dX1_isBuiltByQuestion_17 : decode cX1_isBuiltByQuestion 17 = .ok (.goto 4, 3) := by decide +kernel
theorem dX1_isBuiltByQuestion_20 : decode cX1_isBuiltByQuestion 20 = .ok (.iconst 0, 1) := by decide +kernel
theorem dX1_isBuiltByQuestion_21 : decode cX1_isBuiltByQuestion 21 = .ok (.ireturn, 1) := by decide +kernel
set_option maxRecDepth 20000 in
theorem ggX1_question_X1_isBuiltByQuestion : GoodIn wsX1_question wsX1_isBuiltByQuestion := goodIn_r _ [8, 9, 3, 68, 69, 70, 71, 72, 73, 74, 75, 76, 77, 78] (by decide +kernel) (by decide +kernel)
set_option maxRecDepth 20000 in
theorem gX1_question_X1_isBuiltByQuestion : GoodIn wsX1_question (wsV RX1 102 RX1 yX1_isBuiltByQuestion wsX1_isBuiltByQuestion) := goodIn_app (goodIn_of _ (by decide +kernel)) ggX1_question_X1_isBuiltByQuestion
set_option maxRecDepth 20000 in
theorem ggX1_question_X1_buildAll : GoodIn wsX1_question wsX1_buildAll := goodIn_r _ [13, 14, 3, 15, 16, 17, 18, 7, 19, 20, 21, 22, 23, 24, 25, 26, 27, 28, 29, 30, 31, 32, 33, 34, 35, 36, 37, 38, 39, 40, 41, 42, 43, 44, 68, 69, 70, 71, 72, 73, 74, 75, 76, 77, 78] (by decide +kernel) (by decide +kernel)
set_option maxRecDepth 20000 in
theorem gX1_question_X1_buildAll : GoodIn wsX1_question (wsV RX1 106 RX1 yX1_buildAll wsX1_buildAll) := goodIn_app (goodIn_of _ (by decide +kernel)) ggX1_question_X1_buildAll
set_option maxRecDepth 20000 in
theorem ggX1_question_X4_looksFor : GoodIn wsX1_question wsX4_looksFor := goodIn_r _ [46, 47, 48, 31, 49, 50, 51, 52, 53, 54, 55] (by decide +kernel) (by decide +kernel)
set_option maxRecDepth 20000 in
theorem gX1_question_X4_looksFor_n109 : GoodIn wsX1_question (wsX4_looksFor) := ggX1_question_X4_looksFor
set_option maxRecDepth 20000 in
theorem ggX1_question_X1_leastByLooks : GoodIn wsX1_question wsX1_leastByLooks := goodIn_r _ [59, 60, 61, 62, 7, 63, 3, 48, 31, 49, 64, 65, 66, 67, 54, 55, 36, 37, 38, 39, 20, 40, 41, 42, 43, 44, 26, 27, 28, 29, 68, 69, 70, 71, 72, 73, 74, 75, 76, 77, 78] (by decide +kernel) (by decide +kernel)
set_option maxRecDepth 20000 in
theorem gX1_question_X1_leastByLooks : GoodIn wsX1_question (wsV RX1 113 RX1 yX1_leastByLooks wsX1_leastByLooks) := goodIn_app (goodIn_of _ (by decide +kernel)) ggX1_question_X1_leastByLooks
theorem dX1_question_0 : decode cX1_question 0 = .ok (.aload_n 0, 1) := by decide +kernel
theorem dX1_question_1 : decode cX1_question 1 = .ok (.invokevirtual 102, 3) := by decide +kernel
theorem dX1_question_4 : decode cX1_question 4 = .ok (.ifCond .eq 7, 3) := by decide +kernel
theorem dX1_question_7 : decode cX1_question 7 = .ok (.aload_n 0, 1) := by decide +kernel
theorem dX1_question_8 : decode cX1_question 8 = .ok (.invokevirtual 106, 3) := by decide +kernel
theorem dX1_question_11 : decode cX1_question 11 = .ok (.aload_n 0, 1) := by decide +kernel
theorem dX1_question_12 : decode cX1_question 12 = .ok (.dup, 1) := by decide +kernel
theorem dX1_question_13 : decode cX1_question 13 = .ok (.getfield 45, 3) := by decide +kernel
theorem dX1_question_16 : decode cX1_question 16 = .ok (.iconst 1, 1) := by decide +kernel
theorem dX1_question_17 : decode cX1_question 17 = .ok (.iadd, 1) := by decide +kernel
theorem dX1_question_18 : decode cX1_question 18 = .ok (.putfield 45, 3) := by decide +kernel
theorem dX1_question_21 : decode cX1_question 21 = .ok (.aload_n 0, 1) := by decide +kernel
theorem dX1_question_22 : decode cX1_question 22 = .ok (.dup, 1) := by decide +kernel
theorem dX1_question_23 : decode cX1_question 23 = .ok (.getfield 39, 3) := by decide +kernel
theorem dX1_question_26 : decode cX1_question 26 = .ok (.iload_n 1, 1) := by decide +kernel
theorem dX1_question_27 : decode cX1_question 27 = .ok (.iload_n 2, 1) := by decide +kernel
theorem dX1_question_28 : decode cX1_question 28 = .ok (.aload_n 0, 1) := by decide +kernel
theorem dX1_question_29 : decode cX1_question 29 = .ok (.getfield 35, 3) := by decide +kernel
theorem dX1_question_32 : decode cX1_question 32 = .ok (.invokestatic 109, 3) := by decide +kernel
theorem dX1_question_35 : decode cX1_question 35 = .ok (.iadd, 1) := by decide +kernel
theorem dX1_question_36 : decode cX1_question 36 = .ok (.putfield 39, 3) := by decide +kernel
theorem dX1_question_39 : decode cX1_question 39 = .ok (.aload_n 0, 1) := by decide +kernel
theorem dX1_question_40 : decode cX1_question 40 = .ok (.iload_n 1, 1) := by decide +kernel
theorem dX1_question_41 : decode cX1_question 41 = .ok (.iload_n 2, 1) := by decide +kernel
theorem dX1_question_42 : decode cX1_question 42 = .ok (.invokevirtual 113, 3) := by decide +kernel
theorem dX1_question_45 : decode cX1_question 45 = .ok (.ireturn, 1) := by decide +kernel
set_option maxRecDepth 20000 in
theorem ggX1_leastByLooks_X1_isWaiting : GoodIn wsX1_leastByLooks wsX1_isWaiting := goodIn_r _ [5, 6, 7, 8, 9, 30, 31, 32, 33, 34, 35, 36, 37, 38, 39, 40] (by decide +kernel) (by decide +kernel)
set_option maxRecDepth 20000 in
theorem gX1_leastByLooks_X1_isWaiting : GoodIn wsX1_leastByLooks (wsV RX1 116 RX1 yX1_isWaiting wsX1_isWaiting) := goodIn_app (goodIn_of _ (by decide +kernel)) ggX1_leastByLooks_X1_isWaiting
set_option maxRecDepth 20000 in
theorem ggX1_leastByLooks_X1_leastOfRun : GoodIn wsX1_leastByLooks wsX1_leastOfRun := goodIn_r _ [13, 14, 8, 15, 16, 17, 18, 4, 19, 20, 21, 22, 23, 24, 25, 26, 27, 28, 29, 30, 31, 32, 33, 34, 35, 36, 37, 38, 39, 40] (by decide +kernel) (by decide +kernel)
set_option maxRecDepth 20000 in
theorem gX1_leastByLooks_X1_leastOfRun : GoodIn wsX1_leastByLooks (wsV RX1 119 RX1 yX1_leastOfRun wsX1_leastOfRun) := goodIn_app (goodIn_of _ (by decide +kernel)) ggX1_leastByLooks_X1_leastOfRun
set_option maxRecDepth 20000 in
theorem ggX1_leastByLooks_X1_lesser : GoodIn wsX1_leastByLooks wsX1_lesser := goodIn_r _ [24, 25, 26, 27, 28, 29, 30, 31, 32, 33, 34, 35, 36, 37, 38, 39, 40] (by decide +kernel) (by decide +kernel)
set_option maxRecDepth 20000 in
theorem gX1_leastByLooks_X1_lesser : GoodIn wsX1_leastByLooks (wsV RX1 89 RX1 yX1_lesser wsX1_lesser) := goodIn_app (goodIn_of _ (by decide +kernel)) ggX1_leastByLooks_X1_lesser
theorem dX1_leastByLooks_0 : decode cX1_leastByLooks 0 = .ok (.iconst (-1), 1) := by decide +kernel
theorem dX1_leastByLooks_1 : decode cX1_leastByLooks 1 = .ok (.istore_n 3, 1) := by decide +kernel
theorem dX1_leastByLooks_2 : decode cX1_leastByLooks 2 = .ok (.iload_n 1, 1) := by decide +kernel
theorem dX1_leastByLooks_3 : decode cX1_leastByLooks 3 = .ok (.istore 4, 2) := by decide +kernel
theorem dX1_leastByLooks_5 : decode cX1_leastByLooks 5 = .ok (.iload_n 1, 1) := by decide +kernel
theorem dX1_leastByLooks_6 : decode cX1_leastByLooks 6 = .ok (.istore 5, 2) := by decide +kernel
theorem dX1_leastByLooks_8 : decode cX1_leastByLooks 8 = .ok (.iload 5, 2) := by decide +kernel
theorem dX1_leastByLooks_10 : decode cX1_leastByLooks 10 = .ok (.iload_n 2, 1) := by decide +kernel
theorem dX1_leastByLooks_11 : decode cX1_leastByLooks 11 = .ok (.if_icmp .gt 48, 3) := by decide +kernel
theorem dX1_leastByLooks_14 : decode cX1_leastByLooks 14 = .ok (.aload_n 0, 1) := by decide +kernel
theorem dX1_leastByLooks_15 : decode cX1_leastByLooks 15 = .ok (.iload 5, 2) := by decide +kernel
theorem dX1_leastByLooks_17 : decode cX1_leastByLooks 17 = .ok (.invokevirtual 116, 3) := by decide +kernel
theorem dX1_leastByLooks_20 : decode cX1_leastByLooks 20 = .ok (.ifCond .eq 33, 3) := by decide +kernel
theorem dX1_leastByLooks_23 : decode cX1_leastByLooks 23 = .ok (.aload_n 0, 1) := by decide +kernel
theorem dX1_leastByLooks_24 : decode cX1_leastByLooks 24 = .ok (.iload_n 3, 1) := by decide +kernel
theorem dX1_leastByLooks_25 : decode cX1_leastByLooks 25 = .ok (.aload_n 0, 1) := by decide +kernel
theorem dX1_leastByLooks_26 : decode cX1_leastByLooks 26 = .ok (.iload 4, 2) := by decide +kernel
theorem dX1_leastByLooks_28 : decode cX1_leastByLooks 28 = .ok (.iload 5, 2) := by decide +kernel
theorem dX1_leastByLooks_30 : decode cX1_leastByLooks 30 = .ok (.iconst 1, 1) := by decide +kernel
theorem dX1_leastByLooks_31 : decode cX1_leastByLooks 31 = .ok (.isub, 1) := by decide +kernel
theorem dX1_leastByLooks_32 : decode cX1_leastByLooks 32 = .ok (.invokevirtual 119, 3) := by decide +kernel
theorem dX1_leastByLooks_35 : decode cX1_leastByLooks 35 = .ok (.invokevirtual 89, 3) := by decide +kernel
theorem dX1_leastByLooks_38 : decode cX1_leastByLooks 38 = .ok (.istore_n 3, 1) := by decide +kernel
theorem dX1_leastByLooks_39 : decode cX1_leastByLooks 39 = .ok (.aload_n 0, 1) := by decide +kernel
theorem dX1_leastByLooks_40 : decode cX1_leastByLooks 40 = .ok (.iload_n 3, 1) := by decide +kernel
theorem dX1_leastByLooks_41 : decode cX1_leastByLooks 41 = .ok (.iload 5, 2) := by decide +kernel
theorem dX1_leastByLooks_43 : decode cX1_leastByLooks 43 = .ok (.invokevirtual 89, 3) := by decide +kernel
theorem dX1_leastByLooks_46 : decode cX1_leastByLooks 46 = .ok (.istore_n 3, 1) := by decide +kernel
theorem dX1_leastByLooks_47 : decode cX1_leastByLooks 47 = .ok (.iload 5, 2) := by decide +kernel
theorem dX1_leastByLooks_49 : decode cX1_leastByLooks 49 = .ok (.iconst 1, 1) := by decide +kernel
theorem dX1_leastByLooks_50 : decode cX1_leastByLooks 50 = .ok (.iadd, 1) := by decide +kernel
theorem dX1_leastByLooks_51 : decode cX1_leastByLooks 51 = .ok (.istore 4, 2) := by decide +kernel
theorem dX1_leastByLooks_53 : decode cX1_leastByLooks 53 = .ok (.iinc 5 1, 3) := by decide +kernel
theorem dX1_leastByLooks_56 : decode cX1_leastByLooks 56 = .ok (.goto (-48), 3) := by decide +kernel
theorem dX1_leastByLooks_59 : decode cX1_leastByLooks 59 = .ok (.aload_n 0, 1) := by decide +kernel
theorem dX1_leastByLooks_60 : decode cX1_leastByLooks 60 = .ok (.iload_n 3, 1) := by decide +kernel
theorem dX1_leastByLooks_61 : decode cX1_leastByLooks 61 = .ok (.aload_n 0, 1) := by decide +kernel
theorem dX1_leastByLooks_62 : decode cX1_leastByLooks 62 = .ok (.iload 4, 2) := by decide +kernel
theorem dX1_leastByLooks_64 : decode cX1_leastByLooks 64 = .ok (.iload_n 2, 1) := by decide +kernel
theorem dX1_leastByLooks_65 : decode cX1_leastByLooks 65 = .ok (.invokevirtual 119, 3) := by decide +kernel
theorem dX1_leastByLooks_68 : decode cX1_leastByLooks 68 = .ok (.invokevirtual 89, 3) := by decide +kernel
theorem dX1_leastByLooks_71 : decode cX1_leastByLooks 71 = .ok (.ireturn, 1) := by decide +kernel
set_option maxRecDepth 20000 in
theorem ggX1_leastOfRun_X4_greatestLevel : GoodIn wsX1_leastOfRun wsX4_greatestLevel := goodIn_r _ [3] (by decide +kernel) (by decide +kernel)
set_option maxRecDepth 20000 in
theorem gX1_leastOfRun_X4_greatestLevel_n122 : GoodIn wsX1_leastOfRun (wsX4_greatestLevel) := ggX1_leastOfRun_X4_greatestLevel
set_option maxRecDepth 20000 in
theorem ggX1_leastOfRun_X1_cellAt : GoodIn wsX1_leastOfRun wsX1_cellAt := goodIn_r _ [8, 9, 19, 20, 21, 22, 23, 24, 25, 26, 27, 28, 29] (by decide +kernel) (by decide +kernel)
set_option maxRecDepth 20000 in
theorem gX1_leastOfRun_X1_cellAt : GoodIn wsX1_leastOfRun (wsV RX1 83 RX1 yX1_cellAt wsX1_cellAt) := goodIn_app (goodIn_of _ (by decide +kernel)) ggX1_leastOfRun_X1_cellAt
set_option maxRecDepth 20000 in
theorem ggX1_leastOfRun_X1_lesser : GoodIn wsX1_leastOfRun wsX1_lesser := goodIn_r _ [13, 14, 15, 16, 17, 18, 19, 20, 21, 22, 23, 24, 25, 26, 27, 28, 29] (by decide +kernel) (by decide +kernel)
set_option maxRecDepth 20000 in
theorem gX1_leastOfRun_X1_lesser : GoodIn wsX1_leastOfRun (wsV RX1 89 RX1 yX1_lesser wsX1_lesser) := goodIn_app (goodIn_of _ (by decide +kernel)) ggX1_leastOfRun_X1_lesser
theorem dX1_leastOfRun_0 : decode cX1_leastOfRun 0 = .ok (.iload_n 1, 1) := by decide +kernel
theorem dX1_leastOfRun_1 : decode cX1_leastOfRun 1 = .ok (.iload_n 2, 1) := by decide +kernel
theorem dX1_leastOfRun_2 : decode cX1_leastOfRun 2 = .ok (.if_icmp .le 5, 3) := by decide +kernel
theorem dX1_leastOfRun_5 : decode cX1_leastOfRun 5 = .ok (.iconst (-1), 1) := by decide +kernel
theorem dX1_leastOfRun_6 : decode cX1_leastOfRun 6 = .ok (.ireturn, 1) := by decide +kernel
theorem dX1_leastOfRun_7 : decode cX1_leastOfRun 7 = .ok (.iload_n 2, 1) := by decide +kernel
theorem dX1_leastOfRun_8 : decode cX1_leastOfRun 8 = .ok (.iload_n 1, 1) := by decide +kernel
theorem dX1_leastOfRun_9 : decode cX1_leastOfRun 9 = .ok (.isub, 1) := by decide +kernel
theorem dX1_leastOfRun_10 : decode cX1_leastOfRun 10 = .ok (.iconst 1, 1) := by decide +kernel
theorem dX1_leastOfRun_11 : decode cX1_leastOfRun 11 = .ok (.iadd, 1) := by decide +kernel
theorem dX1_leastOfRun_12 : decode cX1_leastOfRun 12 = .ok (.invokestatic 122, 3) := by decide +kernel
theorem dX1_leastOfRun_15 : decode cX1_leastOfRun 15 = .ok (.istore_n 3, 1) := by decide +kernel
theorem dX1_leastOfRun_16 : decode cX1_leastOfRun 16 = .ok (.aload_n 0, 1) := by decide +kernel
theorem dX1_leastOfRun_17 : decode cX1_leastOfRun 17 = .ok (.aload_n 0, 1) := by decide +kernel
theorem dX1_leastOfRun_18 : decode cX1_leastOfRun 18 = .ok (.iload_n 3, 1) := by decide +kernel
theorem dX1_leastOfRun_19 : decode cX1_leastOfRun 19 = .ok (.iload_n 1, 1) := by decide +kernel
theorem dX1_leastOfRun_20 : decode cX1_leastOfRun 20 = .ok (.invokevirtual 83, 3) := by decide +kernel
theorem dX1_leastOfRun_23 : decode cX1_leastOfRun 23 = .ok (.aload_n 0, 1) := by decide +kernel
theorem dX1_leastOfRun_24 : decode cX1_leastOfRun 24 = .ok (.iload_n 3, 1) := by decide +kernel
theorem dX1_leastOfRun_25 : decode cX1_leastOfRun 25 = .ok (.iload_n 2, 1) := by decide +kernel
theorem dX1_leastOfRun_26 : decode cX1_leastOfRun 26 = .ok (.iconst 1, 1) := by decide +kernel
theorem dX1_leastOfRun_27 : decode cX1_leastOfRun 27 = .ok (.iload_n 3, 1) := by decide +kernel
theorem dX1_leastOfRun_28 : decode cX1_leastOfRun 28 = .ok (.ishl, 1) := by decide +kernel
theorem dX1_leastOfRun_29 : decode cX1_leastOfRun 29 = .ok (.isub, 1) := by decide +kernel
theorem dX1_leastOfRun_30 : decode cX1_leastOfRun 30 = .ok (.iconst 1, 1) := by decide +kernel
theorem dX1_leastOfRun_31 : decode cX1_leastOfRun 31 = .ok (.iadd, 1) := by decide +kernel
theorem dX1_leastOfRun_32 : decode cX1_leastOfRun 32 = .ok (.invokevirtual 83, 3) := by decide +kernel
theorem dX1_leastOfRun_35 : decode cX1_leastOfRun 35 = .ok (.invokevirtual 89, 3) := by decide +kernel
theorem dX1_leastOfRun_38 : decode cX1_leastOfRun 38 = .ok (.ireturn, 1) := by decide +kernel
set_option maxRecDepth 20000 in
theorem ggX1_change_X1_valueAt : GoodIn wsX1_change wsX1_valueAt := goodIn_r _ [8, 9, 55, 56, 57, 58, 59, 60, 61, 62, 63, 64, 65] (by decide +kernel) (by decide +kernel)
set_option maxRecDepth 20000 in
theorem gX1_change_X1_valueAt : GoodIn wsX1_change (wsV RX1 125 RX1 yX1_valueAt wsX1_valueAt) := goodIn_app (goodIn_of _ (by decide +kernel)) ggX1_change_X1_valueAt
set_option maxRecDepth 20000 in
theorem ggX1_change_X1_store : GoodIn wsX1_change wsX1_store := goodIn_r _ [13, 9, 55, 56, 57, 58, 59, 60, 61, 62, 63, 64, 65] (by decide +kernel) (by decide +kernel)
set_option maxRecDepth 20000 in
theorem gX1_change_X1_store : GoodIn wsX1_change (wsV RX1 128 RX1 yX1_store wsX1_store) := goodIn_app (goodIn_of _ (by decide +kernel)) ggX1_change_X1_store
set_option maxRecDepth 20000 in
theorem ggX1_change_X1_writeCellsOver : GoodIn wsX1_change wsX1_writeCellsOver := goodIn_r _ [17, 18, 19, 20, 21, 22, 7, 23, 24, 25, 26, 27, 28, 29, 30, 31, 32, 33, 34, 35, 36, 37, 38, 39, 40, 41, 42, 9, 55, 56, 57, 58, 59, 60, 61, 62, 63, 64, 65] (by decide +kernel) (by decide +kernel)
set_option maxRecDepth 20000 in
theorem gX1_change_X1_writeCellsOver : GoodIn wsX1_change (wsV RX1 92 RX1 yX1_writeCellsOver wsX1_writeCellsOver) := goodIn_app (goodIn_of _ (by decide +kernel)) ggX1_change_X1_writeCellsOver
set_option maxRecDepth 20000 in
theorem ggX1_change_J13_bitCount_95d88 : GoodIn wsX1_change wsJ13_bitCount_95d88 := goodIn_r _ [46, 47, 48, 49] (by decide +kernel) (by decide +kernel)
set_option maxRecDepth 20000 in
theorem gX1_change_J13_bitCount_95d88 : GoodIn wsX1_change (va_wsS RX1 131 yJ13_bitCount_95d88 wsJ13_bitCount_95d88) := goodIn_app (goodIn_of _ (by decide +kernel)) ggX1_change_J13_bitCount_95d88
set_option maxRecDepth 20000 in
theorem ggX1_change_X1_buildAll : GoodIn wsX1_change wsX1_buildAll := goodIn_r _ [53, 24, 2, 54, 14, 15, 16, 7, 17, 18, 19, 20, 21, 22, 23, 25, 26, 27, 28, 29, 30, 31, 32, 33, 34, 35, 36, 37, 38, 39, 40, 41, 42, 9, 55, 56, 57, 58, 59, 60, 61, 62, 63, 64, 65] (by decide +kernel) (by decide +kernel)
set_option maxRecDepth 20000 in
theorem gX1_change_X1_buildAll : GoodIn wsX1_change (wsV RX1 106 RX1 yX1_buildAll wsX1_buildAll) := goodIn_app (goodIn_of _ (by decide +kernel)) ggX1_change_X1_buildAll
theorem dX1_change_0 : decode cX1_change 0 = .ok (.aload_n 0, 1) := by decide +kernel
theorem dX1_change_1 : decode cX1_change 1 = .ok (.iload_n 1, 1) := by decide +kernel
theorem dX1_change_2 : decode cX1_change 2 = .ok (.invokevirtual 125, 3) := by decide +kernel
theorem dX1_change_5 : decode cX1_change 5 = .ok (.istore_n 3, 1) := by decide +kernel
theorem dX1_change_6 : decode cX1_change 6 = .ok (.aload_n 0, 1) := by decide +kernel
theorem dX1_change_7 : decode cX1_change 7 = .ok (.iload_n 1, 1) := by decide +kernel
theorem dX1_change_8 : decode cX1_change 8 = .ok (.iload_n 2, 1) := by decide +kernel
theorem dX1_change_9 : decode cX1_change 9 = .ok (.invokevirtual 128, 3) := by decide +kernel
theorem dX1_change_12 : decode cX1_change 12 = .ok (.aload_n 0, 1) := by decide +kernel
theorem dX1_change_13 : decode cX1_change 13 = .ok (.getfield 29, 3) := by decide +kernel
theorem dX1_change_16 : decode cX1_change 16 = .ok (.iconst 1, 1) := by decide +kernel
theorem dX1_change_17 : decode cX1_change 17 = .ok (.if_icmp .ne 12, 3) := by decide +kernel
theorem dX1_change_20 : decode cX1_change 20 = .ok (.aload_n 0, 1) := by decide +kernel
theorem dX1_change_21 : decode cX1_change 21 = .ok (.iload_n 1, 1) := by decide +kernel
theorem dX1_change_22 : decode cX1_change 22 = .ok (.iload_n 1, 1) := by decide +kernel
theorem dX1_change_23 : decode cX1_change 23 = .ok (.invokevirtual 92, 3) := by decide +kernel
theorem dX1_change_26 : decode cX1_change 26 = .ok (.goto 15, 3) := by decide +kernel
theorem dX1_change_29 : decode cX1_change 29 = .ok (.aload_n 0, 1) := by decide +kernel
theorem dX1_change_30 : decode cX1_change 30 = .ok (.dup, 1) := by decide +kernel
theorem dX1_change_31 : decode cX1_change 31 = .ok (.getfield 35, 3) := by decide +kernel
theorem dX1_change_34 : decode cX1_change 34 = .ok (.lconst 1, 1) := by decide +kernel
theorem dX1_change_35 : decode cX1_change 35 = .ok (.iload_n 1, 1) := by decide +kernel
theorem dX1_change_36 : decode cX1_change 36 = .ok (.lshl, 1) := by decide +kernel
theorem dX1_change_37 : decode cX1_change 37 = .ok (.lor, 1) := by decide +kernel
theorem dX1_change_38 : decode cX1_change 38 = .ok (.putfield 35, 3) := by decide +kernel
theorem dX1_change_41 : decode cX1_change 41 = .ok (.aload_n 0, 1) := by decide +kernel
theorem dX1_change_42 : decode cX1_change 42 = .ok (.getfield 29, 3) := by decide +kernel
theorem dX1_change_45 : decode cX1_change 45 = .ok (.iconst 2, 1) := by decide +kernel
theorem dX1_change_46 : decode cX1_change 46 = .ok (.if_icmp .ne 21, 3) := by decide +kernel
theorem dX1_change_49 : decode cX1_change 49 = .ok (.aload_n 0, 1) := by decide +kernel
theorem dX1_change_50 : decode cX1_change 50 = .ok (.getfield 35, 3) := by decide +kernel
theorem dX1_change_53 : decode cX1_change 53 = .ok (.invokestatic 131, 3) := by decide +kernel
theorem dX1_change_56 : decode cX1_change 56 = .ok (.aload_n 0, 1) := by decide +kernel
theorem dX1_change_57 : decode cX1_change 57 = .ok (.getfield 32, 3) := by decide +kernel
theorem dX1_change_60 : decode cX1_change 60 = .ok (.if_icmp .le 7, 3) := by decide +kernel
theorem dX1_change_63 : decode cX1_change 63 = .ok (.aload_n 0, 1) := by decide +kernel
theorem dX1_change_64 : decode cX1_change 64 = .ok (.invokevirtual 106, 3) := by decide +kernel
theorem dX1_change_67 : decode cX1_change 67 = .ok (.iload_n 3, 1) := by decide +kernel
theorem dX1_change_68 : decode cX1_change 68 = .ok (.ireturn, 1) := by decide +kernel
set_option maxRecDepth 20000 in
theorem ggX1_askAndDropBelow_X3_fromAt : GoodIn wsX1_askAndDropBelow wsX3_fromAt := goodIn_r _ [7, 8, 111, 112, 113] (by decide +kernel) (by decide +kernel)
set_option maxRecDepth 20000 in
theorem gX1_askAndDropBelow_X3_fromAt : GoodIn wsX1_askAndDropBelow (wsV RX1 137 RX3 yX3_fromAt wsX3_fromAt) := goodIn_app (goodIn_of _ (by decide +kernel)) ggX1_askAndDropBelow_X3_fromAt
set_option maxRecDepth 20000 in
theorem ggX1_askAndDropBelow_X3_toAt : GoodIn wsX1_askAndDropBelow wsX3_toAt := goodIn_r _ [12, 13, 111, 112, 113] (by decide +kernel) (by decide +kernel)
set_option maxRecDepth 20000 in
theorem gX1_askAndDropBelow_X3_toAt : GoodIn wsX1_askAndDropBelow (wsV RX1 140 RX3 yX3_toAt wsX3_toAt) := goodIn_app (goodIn_of _ (by decide +kernel)) ggX1_askAndDropBelow_X3_toAt
set_option maxRecDepth 20000 in
theorem ggX1_askAndDropBelow_X1_question : GoodIn wsX1_askAndDropBelow wsX1_question := goodIn_r _ [18, 19, 20, 21, 22, 23, 24, 17, 25, 26, 27, 28, 29, 30, 31, 32, 33, 34, 35, 36, 37, 38, 39, 40, 41, 42, 43, 44, 45, 46, 47, 48, 49, 50, 51, 52, 53, 54, 55, 56, 57, 58, 59, 60, 61, 62, 63, 64, 65, 66, 67, 68, 69, 70, 71, 72, 73, 74, 75, 76, 77, 78, 79, 80, 81, 82, 83, 84, 100, 101, 102, 103, 104, 105, 106, 107, 108, 109, 110] (by decide +kernel) (by decide +kernel)
set_option maxRecDepth 20000 in
theorem gX1_askAndDropBelow_X1_question : GoodIn wsX1_askAndDropBelow (wsV RX1 143 RX1 yX1_question wsX1_question) := goodIn_app (goodIn_of _ (by decide +kernel)) ggX1_askAndDropBelow_X1_question
set_option maxRecDepth 20000 in
theorem ggX1_askAndDropBelow_X1_valueAt : GoodIn wsX1_askAndDropBelow wsX1_valueAt := goodIn_r _ [88, 61, 100, 101, 102, 103, 104, 105, 106, 107, 108, 109, 110] (by decide +kernel) (by decide +kernel)
set_option maxRecDepth 20000 in
theorem gX1_askAndDropBelow_X1_valueAt : GoodIn wsX1_askAndDropBelow (wsV RX1 125 RX1 yX1_valueAt wsX1_valueAt) := goodIn_app (goodIn_of _ (by decide +kernel)) ggX1_askAndDropBelow_X1_valueAt
set_option maxRecDepth 20000 in
theorem ggX1_askAndDropBelow_X3_removeAt : GoodIn wsX1_askAndDropBelow wsX3_removeAt := goodIn_r _ [92, 93, 94, 4, 5, 6, 7, 8, 95, 10, 11, 12, 13, 96, 97, 98, 99, 111, 112, 113] (by decide +kernel) (by decide +kernel)
set_option maxRecDepth 20000 in
theorem gX1_askAndDropBelow_X3_removeAt : GoodIn wsX1_askAndDropBelow (wsV RX1 146 RX3 yX3_removeAt wsX3_removeAt) := goodIn_app (goodIn_of _ (by decide +kernel)) ggX1_askAndDropBelow_X3_removeAt
theorem dX1_askAndDropBelow_0 : decode cX1_askAndDropBelow 0 = .ok (.iconst 0, 1) := by decide +kernel
theorem dX1_askAndDropBelow_1 : decode cX1_askAndDropBelow 1 = .ok (.istore_n 2, 1) := by decide +kernel
theorem dX1_askAndDropBelow_2 : decode cX1_askAndDropBelow 2 = .ok (.iconst 0, 1) := by decide +kernel
theorem dX1_askAndDropBelow_3 : decode cX1_askAndDropBelow 3 = .ok (.istore_n 3, 1) := by decide +kernel
theorem dX1_askAndDropBelow_4 : decode cX1_askAndDropBelow 4 = .ok (.aload_n 0, 1) := by decide +kernel
theorem dX1_askAndDropBelow_5 : decode cX1_askAndDropBelow 5 = .ok (.getfield 21, 3) := by decide +kernel
theorem dX1_askAndDropBelow_8 : decode cX1_askAndDropBelow 8 = .ok (.getfield 51, 3) := by decide +kernel
theorem dX1_askAndDropBelow_11 : decode cX1_askAndDropBelow 11 = .ok (.istore 4, 2) := by decide +kernel
theorem dX1_askAndDropBelow_13 : decode cX1_askAndDropBelow 13 = .ok (.iload 4, 2) := by decide +kernel
theorem dX1_askAndDropBelow_15 : decode cX1_askAndDropBelow 15 = .ok (.ifCond .le 58, 3) := by decide +kernel
theorem dX1_askAndDropBelow_18 : decode cX1_askAndDropBelow 18 = .ok (.aload_n 0, 1) := by decide +kernel
theorem dX1_askAndDropBelow_19 : decode cX1_askAndDropBelow 19 = .ok (.aload_n 0, 1) := by decide +kernel
theorem dX1_askAndDropBelow_20 : decode cX1_askAndDropBelow 20 = .ok (.getfield 21, 3) := by decide +kernel
theorem dX1_askAndDropBelow_23 : decode cX1_askAndDropBelow 23 = .ok (.iload_n 3, 1) := by decide +kernel
theorem dX1_askAndDropBelow_24 : decode cX1_askAndDropBelow 24 = .ok (.invokevirtual 137, 3) := by decide +kernel
theorem dX1_askAndDropBelow_27 : decode cX1_askAndDropBelow 27 = .ok (.aload_n 0, 1) := by decide +kernel
theorem dX1_askAndDropBelow_28 : decode cX1_askAndDropBelow 28 = .ok (.getfield 21, 3) := by decide +kernel
theorem dX1_askAndDropBelow_31 : decode cX1_askAndDropBelow 31 = .ok (.iload_n 3, 1) := by decide +kernel
theorem dX1_askAndDropBelow_32 : decode cX1_askAndDropBelow 32 = .ok (.invokevirtual 140, 3) := by decide +kernel
theorem dX1_askAndDropBelow_35 : decode cX1_askAndDropBelow 35 = .ok (.invokevirtual 143, 3) := by decide +kernel
theorem dX1_askAndDropBelow_38 : decode cX1_askAndDropBelow 38 = .ok (.istore 5, 2) := by decide +kernel
theorem dX1_askAndDropBelow_40 : decode cX1_askAndDropBelow 40 = .ok (.aload_n 0, 1) := by decide +kernel
theorem dX1_askAndDropBelow_41 : decode cX1_askAndDropBelow 41 = .ok (.iload 5, 2) := by decide +kernel
theorem dX1_askAndDropBelow_43 : decode cX1_askAndDropBelow 43 = .ok (.invokevirtual 125, 3) := by decide +kernel
theorem dX1_askAndDropBelow_46 : decode cX1_askAndDropBelow 46 = .ok (.iload_n 1, 1) := by decide +kernel
theorem dX1_askAndDropBelow_47 : decode cX1_askAndDropBelow 47 = .ok (.if_icmp .ge 17, 3) := by decide +kernel
theorem dX1_askAndDropBelow_50 : decode cX1_askAndDropBelow 50 = .ok (.aload_n 0, 1) := by decide +kernel
theorem dX1_askAndDropBelow_51 : decode cX1_askAndDropBelow 51 = .ok (.getfield 21, 3) := by decide +kernel
theorem dX1_askAndDropBelow_54 : decode cX1_askAndDropBelow 54 = .ok (.iload_n 3, 1) := by decide +kernel
theorem dX1_askAndDropBelow_55 : decode cX1_askAndDropBelow 55 = .ok (.invokevirtual 146, 3) := by decide +kernel
theorem dX1_askAndDropBelow_58 : decode cX1_askAndDropBelow 58 = .ok (.iinc 2 1, 3) := by decide +kernel
theorem dX1_askAndDropBelow_61 : decode cX1_askAndDropBelow 61 = .ok (.goto 6, 3) := by decide +kernel
theorem dX1_askAndDropBelow_64 : decode cX1_askAndDropBelow 64 = .ok (.iinc 3 1, 3) := by decide +kernel
theorem dX1_askAndDropBelow_67 : decode cX1_askAndDropBelow 67 = .ok (.iinc 4 (-1), 3) := by decide +kernel
theorem dX1_askAndDropBelow_70 : decode cX1_askAndDropBelow 70 = .ok (.goto (-57), 3) := by decide +kernel
theorem dX1_askAndDropBelow_73 : decode cX1_askAndDropBelow 73 = .ok (.iload_n 2, 1) := by decide +kernel
theorem dX1_askAndDropBelow_74 : decode cX1_askAndDropBelow 74 = .ok (.ireturn, 1) := by decide +kernel
set_option maxRecDepth 20000 in
theorem ggX1_addAtEnd_X1_store : GoodIn wsX1_addAtEnd wsX1_store := goodIn_r _ [6, 7, 8, 9, 10, 11, 12, 13, 14, 15, 16, 17, 18] (by decide +kernel) (by decide +kernel)
set_option maxRecDepth 20000 in
theorem gX1_addAtEnd_X1_store : GoodIn wsX1_addAtEnd (wsV RX1 128 RX1 yX1_store wsX1_store) := goodIn_app (goodIn_of _ (by decide +kernel)) ggX1_addAtEnd_X1_store
theorem dX1_addAtEnd_0 : decode cX1_addAtEnd 0 = .ok (.aload_n 0, 1) := by decide +kernel
theorem dX1_addAtEnd_1 : decode cX1_addAtEnd 1 = .ok (.aload_n 0, 1) := by decide +kernel
theorem dX1_addAtEnd_2 : decode cX1_addAtEnd 2 = .ok (.getfield 25, 3) := by decide +kernel
theorem dX1_addAtEnd_5 : decode cX1_addAtEnd 5 = .ok (.iload_n 1, 1) := by decide +kernel
theorem dX1_addAtEnd_6 : decode cX1_addAtEnd 6 = .ok (.invokevirtual 128, 3) := by decide +kernel
theorem dX1_addAtEnd_9 : decode cX1_addAtEnd 9 = .ok (.aload_n 0, 1) := by decide +kernel
theorem dX1_addAtEnd_10 : decode cX1_addAtEnd 10 = .ok (.dup, 1) := by decide +kernel
theorem dX1_addAtEnd_11 : decode cX1_addAtEnd 11 = .ok (.getfield 25, 3) := by decide +kernel
theorem dX1_addAtEnd_14 : decode cX1_addAtEnd 14 = .ok (.iconst 1, 1) := by decide +kernel
theorem dX1_addAtEnd_15 : decode cX1_addAtEnd 15 = .ok (.iadd, 1) := by decide +kernel
theorem dX1_addAtEnd_16 : decode cX1_addAtEnd 16 = .ok (.putfield 25, 3) := by decide +kernel
theorem dX1_addAtEnd_19 : decode cX1_addAtEnd 19 = .ok (.return_, 1) := by decide +kernel
set_option maxRecDepth 20000 in
theorem ggX1_insert_X1_valueAt : GoodIn wsX1_insert wsX1_valueAt := goodIn_r _ [7, 8, 67, 68, 69, 70, 71, 72, 73, 74, 75, 76, 77] (by decide +kernel) (by decide +kernel)
set_option maxRecDepth 20000 in
theorem gX1_insert_X1_valueAt : GoodIn wsX1_insert (wsV RX1 125 RX1 yX1_valueAt wsX1_valueAt) := goodIn_app (goodIn_of _ (by decide +kernel)) ggX1_insert_X1_valueAt
set_option maxRecDepth 20000 in
theorem ggX1_insert_X1_store : GoodIn wsX1_insert wsX1_store := goodIn_r _ [12, 8, 67, 68, 69, 70, 71, 72, 73, 74, 75, 76, 77] (by decide +kernel) (by decide +kernel)
set_option maxRecDepth 20000 in
theorem gX1_insert_X1_store : GoodIn wsX1_insert (wsV RX1 128 RX1 yX1_store wsX1_store) := goodIn_app (goodIn_of _ (by decide +kernel)) ggX1_insert_X1_store
set_option maxRecDepth 20000 in
theorem ggX1_insert_X3_makeRoomAt : GoodIn wsX1_insert wsX3_makeRoomAt := goodIn_r _ [17, 18, 19, 20, 21, 16, 22, 23, 24, 25, 26, 27, 28, 29, 30, 31, 32, 78, 79, 80] (by decide +kernel) (by decide +kernel)
set_option maxRecDepth 20000 in
theorem gX1_insert_X3_makeRoomAt : GoodIn wsX1_insert (wsV RX1 150 RX3 yX3_makeRoomAt wsX3_makeRoomAt) := goodIn_app (goodIn_of _ (by decide +kernel)) ggX1_insert_X3_makeRoomAt
set_option maxRecDepth 20000 in
theorem ggX1_insert_X1_buildAll : GoodIn wsX1_insert wsX1_buildAll := goodIn_r _ [36, 1, 37, 38, 39, 40, 41, 6, 42, 43, 44, 45, 46, 47, 48, 49, 50, 51, 52, 53, 54, 55, 56, 57, 58, 59, 60, 61, 62, 63, 64, 65, 66, 8, 67, 68, 69, 70, 71, 72, 73, 74, 75, 76, 77] (by decide +kernel) (by decide +kernel)
set_option maxRecDepth 20000 in
theorem gX1_insert_X1_buildAll : GoodIn wsX1_insert (wsV RX1 106 RX1 yX1_buildAll wsX1_buildAll) := goodIn_app (goodIn_of _ (by decide +kernel)) ggX1_insert_X1_buildAll
theorem dX1_insert_0 : decode cX1_insert 0 = .ok (.aload_n 0, 1) := by decide +kernel
theorem dX1_insert_1 : decode cX1_insert 1 = .ok (.getfield 25, 3) := by decide +kernel
theorem dX1_insert_4 : decode cX1_insert 4 = .ok (.istore_n 3, 1) := by decide +kernel
theorem dX1_insert_5 : decode cX1_insert 5 = .ok (.iload_n 3, 1) := by decide +kernel
theorem dX1_insert_6 : decode cX1_insert 6 = .ok (.iload_n 1, 1) := by decide +kernel
theorem dX1_insert_7 : decode cX1_insert 7 = .ok (.if_icmp .le 21, 3) := by decide +kernel
theorem dX1_insert_10 : decode cX1_insert 10 = .ok (.aload_n 0, 1) := by decide +kernel
theorem dX1_insert_11 : decode cX1_insert 11 = .ok (.iload_n 3, 1) := by decide +kernel
theorem dX1_insert_12 : decode cX1_insert 12 = .ok (.aload_n 0, 1) := by decide +kernel
theorem dX1_insert_13 : decode cX1_insert 13 = .ok (.iload_n 3, 1) := by decide +kernel
theorem dX1_insert_14 : decode cX1_insert 14 = .ok (.iconst 1, 1) := by decide +kernel
theorem dX1_insert_15 : decode cX1_insert 15 = .ok (.isub, 1) := by decide +kernel
theorem dX1_insert_16 : decode cX1_insert 16 = .ok (.invokevirtual 125, 3) := by decide +kernel
theorem dX1_insert_19 : decode cX1_insert 19 = .ok (.invokevirtual 128, 3) := by decide +kernel
theorem dX1_insert_22 : decode cX1_insert 22 = .ok (.iinc 3 (-1), 3) := by decide +kernel
theorem dX1_insert_25 : decode cX1_insert 25 = .ok (.goto (-20), 3) := by decide +kernel
theorem dX1_insert_28 : decode cX1_insert 28 = .ok (.aload_n 0, 1) := by decide +kernel
theorem dX1_insert_29 : decode cX1_insert 29 = .ok (.iload_n 1, 1) := by decide +kernel
theorem dX1_insert_30 : decode cX1_insert 30 = .ok (.iload_n 2, 1) := by decide +kernel
theorem dX1_insert_31 : decode cX1_insert 31 = .ok (.invokevirtual 128, 3) := by decide +kernel
theorem dX1_insert_34 : decode cX1_insert 34 = .ok (.aload_n 0, 1) := by decide +kernel
theorem dX1_insert_35 : decode cX1_insert 35 = .ok (.dup, 1) := by decide +kernel
theorem dX1_insert_36 : decode cX1_insert 36 = .ok (.getfield 25, 3) := by decide +kernel
theorem dX1_insert_39 : decode cX1_insert 39 = .ok (.iconst 1, 1) := by decide +kernel
theorem dX1_insert_40 : decode cX1_insert 40 = .ok (.iadd, 1) := by decide +kernel
theorem dX1_insert_41 : decode cX1_insert 41 = .ok (.putfield 25, 3) := by decide +kernel
theorem dX1_insert_44 : decode cX1_insert 44 = .ok (.aload_n 0, 1) := by decide +kernel
theorem dX1_insert_45 : decode cX1_insert 45 = .ok (.getfield 21, 3) := by decide +kernel
theorem dX1_insert_48 : decode cX1_insert 48 = .ok (.iload_n 1, 1) := by decide +kernel
theorem dX1_insert_49 : decode cX1_insert 49 = .ok (.invokevirtual 150, 3) := by decide +kernel
theorem dX1_insert_52 : decode cX1_insert 52 = .ok (.aload_n 0, 1) := by decide +kernel
theorem dX1_insert_53 : decode cX1_insert 53 = .ok (.invokevirtual 106, 3) := by decide +kernel
theorem dX1_insert_56 : decode cX1_insert 56 = .ok (.return_, 1) := by decide +kernel
set_option maxRecDepth 20000 in
theorem ggX1_remove_X1_valueAt : GoodIn wsX1_remove wsX1_valueAt := goodIn_r _ [7, 8, 71, 72, 73, 74, 75, 76, 77, 78, 79, 80, 81] (by decide +kernel) (by decide +kernel)
set_option maxRecDepth 20000 in
theorem gX1_remove_X1_valueAt : GoodIn wsX1_remove (wsV RX1 125 RX1 yX1_valueAt wsX1_valueAt) := goodIn_app (goodIn_of _ (by decide +kernel)) ggX1_remove_X1_valueAt
set_option maxRecDepth 20000 in
theorem ggX1_remove_X1_store : GoodIn wsX1_remove wsX1_store := goodIn_r _ [12, 8, 71, 72, 73, 74, 75, 76, 77, 78, 79, 80, 81] (by decide +kernel) (by decide +kernel)
set_option maxRecDepth 20000 in
theorem gX1_remove_X1_store : GoodIn wsX1_remove (wsV RX1 128 RX1 yX1_store wsX1_store) := goodIn_app (goodIn_of _ (by decide +kernel)) ggX1_remove_X1_store
set_option maxRecDepth 20000 in
theorem ggX1_remove_X3_closeRoomAt : GoodIn wsX1_remove wsX3_closeRoomAt := goodIn_r _ [17, 18, 19, 20, 21, 16, 22, 23, 24, 25, 26, 27, 28, 29, 30, 31, 32, 33, 34, 35, 36, 82, 83, 84] (by decide +kernel) (by decide +kernel)
set_option maxRecDepth 20000 in
theorem gX1_remove_X3_closeRoomAt : GoodIn wsX1_remove (wsV RX1 153 RX3 yX3_closeRoomAt wsX3_closeRoomAt) := goodIn_app (goodIn_of _ (by decide +kernel)) ggX1_remove_X3_closeRoomAt
set_option maxRecDepth 20000 in
theorem ggX1_remove_X1_buildAll : GoodIn wsX1_remove wsX1_buildAll := goodIn_r _ [40, 1, 41, 42, 43, 44, 45, 6, 46, 47, 48, 49, 50, 51, 52, 53, 54, 55, 56, 57, 58, 59, 60, 61, 62, 63, 64, 65, 66, 67, 68, 69, 70, 8, 71, 72, 73, 74, 75, 76, 77, 78, 79, 80, 81] (by decide +kernel) (by decide +kernel)
set_option maxRecDepth 20000 in
theorem gX1_remove_X1_buildAll : GoodIn wsX1_remove (wsV RX1 106 RX1 yX1_buildAll wsX1_buildAll) := goodIn_app (goodIn_of _ (by decide +kernel)) ggX1_remove_X1_buildAll
theorem dX1_remove_0 : decode cX1_remove 0 = .ok (.aload_n 0, 1) := by decide +kernel
theorem dX1_remove_1 : decode cX1_remove 1 = .ok (.iload_n 1, 1) := by decide +kernel
theorem dX1_remove_2 : decode cX1_remove 2 = .ok (.invokevirtual 125, 3) := by decide +kernel
theorem dX1_remove_5 : decode cX1_remove 5 = .ok (.istore_n 2, 1) := by decide +kernel
theorem dX1_remove_6 : decode cX1_remove 6 = .ok (.iload_n 1, 1) := by decide +kernel
theorem dX1_remove_7 : decode cX1_remove 7 = .ok (.istore_n 3, 1) := by decide +kernel
theorem dX1_remove_8 : decode cX1_remove 8 = .ok (.iload_n 3, 1) := by decide +kernel
theorem dX1_remove_9 : decode cX1_remove 9 = .ok (.aload_n 0, 1) := by decide +kernel
theorem dX1_remove_10 : decode cX1_remove 10 = .ok (.getfield 25, 3) := by decide +kernel
theorem dX1_remove_13 : decode cX1_remove 13 = .ok (.iconst 1, 1) := by decide +kernel
theorem dX1_remove_14 : decode cX1_remove 14 = .ok (.isub, 1) := by decide +kernel
theorem dX1_remove_15 : decode cX1_remove 15 = .ok (.if_icmp .ge 21, 3) := by decide +kernel
theorem dX1_remove_18 : decode cX1_remove 18 = .ok (.aload_n 0, 1) := by decide +kernel
theorem dX1_remove_19 : decode cX1_remove 19 = .ok (.iload_n 3, 1) := by decide +kernel
theorem dX1_remove_20 : decode cX1_remove 20 = .ok (.aload_n 0, 1) := by decide +kernel
theorem dX1_remove_21 : decode cX1_remove 21 = .ok (.iload_n 3, 1) := by decide +kernel
theorem dX1_remove_22 : decode cX1_remove 22 = .ok (.iconst 1, 1) := by decide +kernel
theorem dX1_remove_23 : decode cX1_remove 23 = .ok (.iadd, 1) := by decide +kernel
theorem dX1_remove_24 : decode cX1_remove 24 = .ok (.invokevirtual 125, 3) := by decide +kernel
theorem dX1_remove_27 : decode cX1_remove 27 = .ok (.invokevirtual 128, 3) := by decide +kernel
theorem dX1_remove_30 : decode cX1_remove 30 = .ok (.iinc 3 1, 3) := by decide +kernel
theorem dX1_remove_33 : decode cX1_remove 33 = .ok (.goto (-25), 3) := by decide +kernel
theorem dX1_remove_36 : decode cX1_remove 36 = .ok (.aload_n 0, 1) := by decide +kernel
theorem dX1_remove_37 : decode cX1_remove 37 = .ok (.dup, 1) := by decide +kernel
theorem dX1_remove_38 : decode cX1_remove 38 = .ok (.getfield 25, 3) := by decide +kernel
theorem dX1_remove_41 : decode cX1_remove 41 = .ok (.iconst 1, 1) := by decide +kernel
theorem dX1_remove_42 : decode cX1_remove 42 = .ok (.isub, 1) := by decide +kernel
theorem dX1_remove_43 : decode cX1_remove 43 = .ok (.putfield 25, 3) := by decide +kernel
theorem dX1_remove_46 : decode cX1_remove 46 = .ok (.aload_n 0, 1) := by decide +kernel
theorem dX1_remove_47 : decode cX1_remove 47 = .ok (.getfield 21, 3) := by decide +kernel
theorem dX1_remove_50 : decode cX1_remove 50 = .ok (.iload_n 1, 1) := by decide +kernel
theorem dX1_remove_51 : decode cX1_remove 51 = .ok (.invokevirtual 153, 3) := by decide +kernel
theorem dX1_remove_54 : decode cX1_remove 54 = .ok (.aload_n 0, 1) := by decide +kernel
theorem dX1_remove_55 : decode cX1_remove 55 = .ok (.invokevirtual 106, 3) := by decide +kernel
theorem dX1_remove_58 : decode cX1_remove 58 = .ok (.iload_n 2, 1) := by decide +kernel
theorem dX1_remove_59 : decode cX1_remove 59 = .ok (.ireturn, 1) := by decide +kernel
set_option maxRecDepth 20000 in
theorem ggX1_changeRule_X1_buildAll : GoodIn wsX1_changeRule wsX1_buildAll := goodIn_r _ [6, 7, 8, 9, 10, 11, 12, 5, 13, 14, 15, 16, 17, 18, 19, 20, 21, 22, 23, 24, 25, 26, 27, 28, 29, 30, 31, 32, 33, 34, 35, 36, 37, 38, 39, 40, 41, 42, 43, 44, 45, 46, 47, 48, 49] (by decide +kernel) (by decide +kernel)
set_option maxRecDepth 20000 in
theorem gX1_changeRule_X1_buildAll : GoodIn wsX1_changeRule (wsV RX1 106 RX1 yX1_buildAll wsX1_buildAll) := goodIn_app (goodIn_of _ (by decide +kernel)) ggX1_changeRule_X1_buildAll
theorem dX1_changeRule_0 : decode cX1_changeRule 0 = .ok (.aload_n 0, 1) := by decide +kernel
theorem dX1_changeRule_1 : decode cX1_changeRule 1 = .ok (.getfield 29, 3) := by decide +kernel
theorem dX1_changeRule_4 : decode cX1_changeRule 4 = .ok (.istore_n 2, 1) := by decide +kernel
theorem dX1_changeRule_5 : decode cX1_changeRule 5 = .ok (.aload_n 0, 1) := by decide +kernel
theorem dX1_changeRule_6 : decode cX1_changeRule 6 = .ok (.iload_n 1, 1) := by decide +kernel
theorem dX1_changeRule_7 : decode cX1_changeRule 7 = .ok (.putfield 29, 3) := by decide +kernel
theorem dX1_changeRule_10 : decode cX1_changeRule 10 = .ok (.aload_n 0, 1) := by decide +kernel
theorem dX1_changeRule_11 : decode cX1_changeRule 11 = .ok (.invokevirtual 106, 3) := by decide +kernel
theorem dX1_changeRule_14 : decode cX1_changeRule 14 = .ok (.iload_n 2, 1) := by decide +kernel
theorem dX1_changeRule_15 : decode cX1_changeRule 15 = .ok (.ireturn, 1) := by decide +kernel
theorem dX1_changeMost_0 : decode cX1_changeMost 0 = .ok (.aload_n 0, 1) := by decide +kernel
theorem dX1_changeMost_1 : decode cX1_changeMost 1 = .ok (.getfield 32, 3) := by decide +kernel
theorem dX1_changeMost_4 : decode cX1_changeMost 4 = .ok (.istore_n 2, 1) := by decide +kernel
theorem dX1_changeMost_5 : decode cX1_changeMost 5 = .ok (.aload_n 0, 1) := by decide +kernel
theorem dX1_changeMost_6 : decode cX1_changeMost 6 = .ok (.iload_n 1, 1) := by decide +kernel
theorem dX1_changeMost_7 : decode cX1_changeMost 7 = .ok (.putfield 32, 3) := by decide +kernel
theorem dX1_changeMost_10 : decode cX1_changeMost 10 = .ok (.iload_n 2, 1) := by decide +kernel
theorem dX1_changeMost_11 : decode cX1_changeMost 11 = .ok (.ireturn, 1) := by decide +kernel
theorem dX1_store_0 : decode cX1_store 0 = .ok (.iload_n 1, 1) := by decide +kernel
theorem dX1_store_1 : decode cX1_store 1 = .ok (.ifCond .lt 19, 3) := by decide +kernel
theorem dX1_store_4 : decode cX1_store 4 = .ok (.iload_n 1, 1) := by decide +kernel
theorem dX1_store_5 : decode cX1_store 5 = .ok (.aload_n 0, 1) := by decide +kernel
theorem dX1_store_6 : decode cX1_store 6 = .ok (.getfield 9, 3) := by decide +kernel
theorem dX1_store_9 : decode cX1_store 9 = .ok (.arraylength, 1) := by decide +kernel
theorem dX1_store_10 : decode cX1_store 10 = .ok (.if_icmp .ge 10, 3) := by decide +kernel
theorem dX1_store_13 : decode cX1_store 13 = .ok (.aload_n 0, 1) := by decide +kernel
theorem dX1_store_14 : decode cX1_store 14 = .ok (.getfield 9, 3) := by decide +kernel
theorem dX1_store_17 : decode cX1_store 17 = .ok (.iload_n 1, 1) := by decide +kernel
theorem dX1_store_18 : decode cX1_store 18 = .ok (.iload_n 2, 1) := by decide +kernel
theorem dX1_store_19 : decode cX1_store 19 = .ok (.iastore, 1) := by decide +kernel
theorem dX1_store_20 : decode cX1_store 20 = .ok (.return_, 1) := by decide +kernel
theorem dX3_init_0 : decode cX3_init 0 = .ok (.aload_n 0, 1) := by decide +kernel
theorem dX3_init_1 : decode cX3_init 1 = .ok (.invokespecial 3, 3) := by decide +kernel
theorem dX3_init_4 : decode cX3_init 4 = .ok (.aload_n 0, 1) := by decide +kernel
theorem dX3_init_5 : decode cX3_init 5 = .ok (.bipush 8, 2) := by decide +kernel
theorem dX3_init_7 : decode cX3_init 7 = .ok (.newarray .int, 2) := by decide +kernel
theorem dX3_init_9 : decode cX3_init 9 = .ok (.putfield 9, 3) := by decide +kernel
theorem dX3_init_12 : decode cX3_init 12 = .ok (.aload_n 0, 1) := by decide +kernel
theorem dX3_init_13 : decode cX3_init 13 = .ok (.bipush 8, 2) := by decide +kernel
theorem dX3_init_15 : decode cX3_init 15 = .ok (.newarray .int, 2) := by decide +kernel
theorem dX3_init_17 : decode cX3_init 17 = .ok (.putfield 15, 3) := by decide +kernel
theorem dX3_init_20 : decode cX3_init 20 = .ok (.return_, 1) := by decide +kernel
theorem dX3_copyFrom_0 : decode cX3_copyFrom 0 = .ok (.aload_n 1, 1) := by decide +kernel
theorem dX3_copyFrom_1 : decode cX3_copyFrom 1 = .ok (.getfield 9, 3) := by decide +kernel
theorem dX3_copyFrom_4 : decode cX3_copyFrom 4 = .ok (.iconst 0, 1) := by decide +kernel
theorem dX3_copyFrom_5 : decode cX3_copyFrom 5 = .ok (.aload_n 0, 1) := by decide +kernel
theorem dX3_copyFrom_6 : decode cX3_copyFrom 6 = .ok (.getfield 9, 3) := by decide +kernel
theorem dX3_copyFrom_9 : decode cX3_copyFrom 9 = .ok (.iconst 0, 1) := by decide +kernel
theorem dX3_copyFrom_10 : decode cX3_copyFrom 10 = .ok (.aload_n 1, 1) := by decide +kernel
theorem dX3_copyFrom_11 : decode cX3_copyFrom 11 = .ok (.getfield 9, 3) := by decide +kernel
theorem dX3_copyFrom_14 : decode cX3_copyFrom 14 = .ok (.arraylength, 1) := by decide +kernel
theorem dX3_copyFrom_15 : decode cX3_copyFrom 15 = .ok (.aload_n 0, 1) := by decide +kernel
theorem dX3_copyFrom_16 : decode cX3_copyFrom 16 = .ok (.getfield 9, 3) := by decide +kernel
theorem dX3_copyFrom_19 : decode cX3_copyFrom 19 = .ok (.arraylength, 1) := by decide +kernel
theorem dX3_copyFrom_20 : decode cX3_copyFrom 20 = .ok (.invokestatic 18, 3) := by decide +kernel
theorem dX3_copyFrom_23 : decode cX3_copyFrom 23 = .ok (.invokestatic 24, 3) := by decide +kernel
theorem dX3_copyFrom_26 : decode cX3_copyFrom 26 = .ok (.aload_n 1, 1) := by decide +kernel
theorem dX3_copyFrom_27 : decode cX3_copyFrom 27 = .ok (.getfield 15, 3) := by decide +kernel
theorem dX3_copyFrom_30 : decode cX3_copyFrom 30 = .ok (.iconst 0, 1) := by decide +kernel
theorem dX3_copyFrom_31 : decode cX3_copyFrom 31 = .ok (.aload_n 0, 1) := by decide +kernel
theorem dX3_copyFrom_32 : decode cX3_copyFrom 32 = .ok (.getfield 15, 3) := by decide +kernel
theorem dX3_copyFrom_35 : decode cX3_copyFrom 35 = .ok (.iconst 0, 1) := by decide +kernel
theorem dX3_copyFrom_36 : decode cX3_copyFrom 36 = .ok (.aload_n 1, 1) := by decide +kernel
theorem dX3_copyFrom_37 : decode cX3_copyFrom 37 = .ok (.getfield 15, 3) := by decide +kernel
theorem dX3_copyFrom_40 : decode cX3_copyFrom 40 = .ok (.arraylength, 1) := by decide +kernel
theorem dX3_copyFrom_41 : decode cX3_copyFrom 41 = .ok (.aload_n 0, 1) := by decide +kernel
theorem dX3_copyFrom_42 : decode cX3_copyFrom 42 = .ok (.getfield 15, 3) := by decide +kernel
theorem dX3_copyFrom_45 : decode cX3_copyFrom 45 = .ok (.arraylength, 1) := by decide +kernel
theorem dX3_copyFrom_46 : decode cX3_copyFrom 46 = .ok (.invokestatic 18, 3) := by decide +kernel
theorem dX3_copyFrom_49 : decode cX3_copyFrom 49 = .ok (.invokestatic 24, 3) := by decide +kernel
theorem dX3_copyFrom_52 : decode cX3_copyFrom 52 = .ok (.aload_n 0, 1) := by decide +kernel
theorem dX3_copyFrom_53 : decode cX3_copyFrom 53 = .ok (.aload_n 1, 1) := by decide +kernel
theorem dX3_copyFrom_54 : decode cX3_copyFrom 54 = .ok (.getfield 30, 3) := by decide +kernel
theorem dX3_copyFrom_57 : decode cX3_copyFrom 57 = .ok (.putfield 30, 3) := by decide +kernel
theorem dX3_copyFrom_60 : decode cX3_copyFrom 60 = .ok (.return_, 1) := by decide +kernel
theorem dX3_fromAt_0 : decode cX3_fromAt 0 = .ok (.iload_n 1, 1) := by decide +kernel
theorem dX3_fromAt_1 : decode cX3_fromAt 1 = .ok (.ifCond .lt 21, 3) := by decide +kernel
theorem dX3_fromAt_4 : decode cX3_fromAt 4 = .ok (.iload_n 1, 1) := by decide +kernel
theorem dX3_fromAt_5 : decode cX3_fromAt 5 = .ok (.aload_n 0, 1) := by decide +kernel
theorem dX3_fromAt_6 : decode cX3_fromAt 6 = .ok (.getfield 9, 3) := by decide +kernel
theorem dX3_fromAt_9 : decode cX3_fromAt 9 = .ok (.arraylength, 1) := by decide +kernel
theorem dX3_fromAt_10 : decode cX3_fromAt 10 = .ok (.if_icmp .ge 12, 3) := by decide +kernel
theorem dX3_fromAt_13 : decode cX3_fromAt 13 = .ok (.aload_n 0, 1) := by decide +kernel
theorem dX3_fromAt_14 : decode cX3_fromAt 14 = .ok (.getfield 9, 3) := by decide +kernel
theorem dX3_fromAt_17 : decode cX3_fromAt 17 = .ok (.iload_n 1, 1) := by decide +kernel
theorem dX3_fromAt_18 : decode cX3_fromAt 18 = .ok (.iaload, 1) := by decide +kernel
theorem dX3_fromAt_19 : decode cX3_fromAt 19 = .ok (.goto 4, 3) := by decide +kernel
theorem dX3_fromAt_22 : decode cX3_fromAt 22 = .ok (.iconst 0, 1) := by decide +kernel
theorem dX3_fromAt_23 : decode cX3_fromAt 23 = .ok (.ireturn, 1) := by decide +kernel
theorem dX3_toAt_0 : decode cX3_toAt 0 = .ok (.iload_n 1, 1) := by decide +kernel
theorem dX3_toAt_1 : decode cX3_toAt 1 = .ok (.ifCond .lt 21, 3) := by decide +kernel
theorem dX3_toAt_4 : decode cX3_toAt 4 = .ok (.iload_n 1, 1) := by decide +kernel
theorem dX3_toAt_5 : decode cX3_toAt 5 = .ok (.aload_n 0, 1) := by decide +kernel
theorem dX3_toAt_6 : decode cX3_toAt 6 = .ok (.getfield 15, 3) := by decide +kernel
theorem dX3_toAt_9 : decode cX3_toAt 9 = .ok (.arraylength, 1) := by decide +kernel
theorem dX3_toAt_10 : decode cX3_toAt 10 = .ok (.if_icmp .ge 12, 3) := by decide +kernel
theorem dX3_toAt_13 : decode cX3_toAt 13 = .ok (.aload_n 0, 1) := by decide +kernel
theorem dX3_toAt_14 : decode cX3_toAt 14 = .ok (.getfield 15, 3) := by decide +kernel
theorem dX3_toAt_17 : decode cX3_toAt 17 = .ok (.iload_n 1, 1) := by decide +kernel
theorem dX3_toAt_18 : decode cX3_toAt 18 = .ok (.iaload, 1) := by decide +kernel
theorem dX3_toAt_19 : decode cX3_toAt 19 = .ok (.goto 4, 3) := by decide +kernel
theorem dX3_toAt_22 : decode cX3_toAt 22 = .ok (.iconst 0, 1) := by decide +kernel
theorem dX3_toAt_23 : decode cX3_toAt 23 = .ok (.ireturn, 1) := by decide +kernel
set_option maxRecDepth 20000 in
theorem ggX3_add_X3_store : GoodIn wsX3_add wsX3_store := goodIn_r _ [6, 7, 8, 9, 10, 11] (by decide +kernel) (by decide +kernel)
set_option maxRecDepth 20000 in
theorem gX3_add_X3_store : GoodIn wsX3_add (wsV RX3 34 RX3 yX3_store wsX3_store) := goodIn_app (goodIn_of _ (by decide +kernel)) ggX3_add_X3_store
theorem dX3_add_0 : decode cX3_add 0 = .ok (.aload_n 0, 1) := by decide +kernel
theorem dX3_add_1 : decode cX3_add 1 = .ok (.aload_n 0, 1) := by decide +kernel
theorem dX3_add_2 : decode cX3_add 2 = .ok (.getfield 30, 3) := by decide +kernel
theorem dX3_add_5 : decode cX3_add 5 = .ok (.iload_n 1, 1) := by decide +kernel
theorem dX3_add_6 : decode cX3_add 6 = .ok (.iload_n 2, 1) := by decide +kernel
theorem dX3_add_7 : decode cX3_add 7 = .ok (.invokevirtual 34, 3) := by decide +kernel
theorem dX3_add_10 : decode cX3_add 10 = .ok (.aload_n 0, 1) := by decide +kernel
theorem dX3_add_11 : decode cX3_add 11 = .ok (.dup, 1) := by decide +kernel
theorem dX3_add_12 : decode cX3_add 12 = .ok (.getfield 30, 3) := by decide +kernel
theorem dX3_add_15 : decode cX3_add 15 = .ok (.iconst 1, 1) := by decide +kernel
theorem dX3_add_16 : decode cX3_add 16 = .ok (.iadd, 1) := by decide +kernel
theorem dX3_add_17 : decode cX3_add 17 = .ok (.putfield 30, 3) := by decide +kernel
theorem dX3_add_20 : decode cX3_add 20 = .ok (.return_, 1) := by decide +kernel
set_option maxRecDepth 20000 in
theorem ggX3_removeAt_X3_fromAt : GoodIn wsX3_removeAt wsX3_fromAt := goodIn_r _ [6, 7, 17, 18, 19] (by decide +kernel) (by decide +kernel)
set_option maxRecDepth 20000 in
theorem gX3_removeAt_X3_fromAt : GoodIn wsX3_removeAt (wsV RX3 38 RX3 yX3_fromAt wsX3_fromAt) := goodIn_app (goodIn_of _ (by decide +kernel)) ggX3_removeAt_X3_fromAt
set_option maxRecDepth 20000 in
theorem ggX3_removeAt_X3_toAt : GoodIn wsX3_removeAt wsX3_toAt := goodIn_r _ [11, 12, 17, 18, 19] (by decide +kernel) (by decide +kernel)
set_option maxRecDepth 20000 in
theorem gX3_removeAt_X3_toAt : GoodIn wsX3_removeAt (wsV RX3 42 RX3 yX3_toAt wsX3_toAt) := goodIn_app (goodIn_of _ (by decide +kernel)) ggX3_removeAt_X3_toAt
set_option maxRecDepth 20000 in
theorem ggX3_removeAt_X3_store : GoodIn wsX3_removeAt wsX3_store := goodIn_r _ [16, 7, 12, 17, 18, 19] (by decide +kernel) (by decide +kernel)
set_option maxRecDepth 20000 in
theorem gX3_removeAt_X3_store : GoodIn wsX3_removeAt (wsV RX3 34 RX3 yX3_store wsX3_store) := goodIn_app (goodIn_of _ (by decide +kernel)) ggX3_removeAt_X3_store
theorem dX3_removeAt_0 : decode cX3_removeAt 0 = .ok (.iload_n 1, 1) := by decide +kernel
theorem dX3_removeAt_1 : decode cX3_removeAt 1 = .ok (.iconst 1, 1) := by decide +kernel
theorem dX3_removeAt_2 : decode cX3_removeAt 2 = .ok (.iadd, 1) := by decide +kernel
theorem dX3_removeAt_3 : decode cX3_removeAt 3 = .ok (.istore_n 2, 1) := by decide +kernel
theorem dX3_removeAt_4 : decode cX3_removeAt 4 = .ok (.iload_n 2, 1) := by decide +kernel
theorem dX3_removeAt_5 : decode cX3_removeAt 5 = .ok (.aload_n 0, 1) := by decide +kernel
theorem dX3_removeAt_6 : decode cX3_removeAt 6 = .ok (.getfield 30, 3) := by decide +kernel
theorem dX3_removeAt_9 : decode cX3_removeAt 9 = .ok (.if_icmp .ge 26, 3) := by decide +kernel
theorem dX3_removeAt_12 : decode cX3_removeAt 12 = .ok (.aload_n 0, 1) := by decide +kernel
theorem dX3_removeAt_13 : decode cX3_removeAt 13 = .ok (.iload_n 2, 1) := by decide +kernel
theorem dX3_removeAt_14 : decode cX3_removeAt 14 = .ok (.iconst 1, 1) := by decide +kernel
theorem dX3_removeAt_15 : decode cX3_removeAt 15 = .ok (.isub, 1) := by decide +kernel
theorem dX3_removeAt_16 : decode cX3_removeAt 16 = .ok (.aload_n 0, 1) := by decide +kernel
theorem dX3_removeAt_17 : decode cX3_removeAt 17 = .ok (.iload_n 2, 1) := by decide +kernel
theorem dX3_removeAt_18 : decode cX3_removeAt 18 = .ok (.invokevirtual 38, 3) := by decide +kernel
theorem dX3_removeAt_21 : decode cX3_removeAt 21 = .ok (.aload_n 0, 1) := by decide +kernel
theorem dX3_removeAt_22 : decode cX3_removeAt 22 = .ok (.iload_n 2, 1) := by decide +kernel
theorem dX3_removeAt_23 : decode cX3_removeAt 23 = .ok (.invokevirtual 42, 3) := by decide +kernel
theorem dX3_removeAt_26 : decode cX3_removeAt 26 = .ok (.invokevirtual 34, 3) := by decide +kernel
theorem dX3_removeAt_29 : decode cX3_removeAt 29 = .ok (.iinc 2 1, 3) := by decide +kernel
theorem dX3_removeAt_32 : decode cX3_removeAt 32 = .ok (.goto (-28), 3) := by decide +kernel
theorem dX3_removeAt_35 : decode cX3_removeAt 35 = .ok (.aload_n 0, 1) := by decide +kernel
theorem dX3_removeAt_36 : decode cX3_removeAt 36 = .ok (.dup, 1) := by decide +kernel
theorem dX3_removeAt_37 : decode cX3_removeAt 37 = .ok (.getfield 30, 3) := by decide +kernel
theorem dX3_removeAt_40 : decode cX3_removeAt 40 = .ok (.iconst 1, 1) := by decide +kernel
theorem dX3_removeAt_41 : decode cX3_removeAt 41 = .ok (.isub, 1) := by decide +kernel
theorem dX3_removeAt_42 : decode cX3_removeAt 42 = .ok (.putfield 30, 3) := by decide +kernel
theorem dX3_removeAt_45 : decode cX3_removeAt 45 = .ok (.return_, 1) := by decide +kernel
set_option maxRecDepth 20000 in
theorem ggX3_makeRoomAt_X3_fromAt : GoodIn wsX3_makeRoomAt wsX3_fromAt := goodIn_r _ [6, 7, 17, 18, 19] (by decide +kernel) (by decide +kernel)
set_option maxRecDepth 20000 in
theorem gX3_makeRoomAt_X3_fromAt : GoodIn wsX3_makeRoomAt (wsV RX3 38 RX3 yX3_fromAt wsX3_fromAt) := goodIn_app (goodIn_of _ (by decide +kernel)) ggX3_makeRoomAt_X3_fromAt
set_option maxRecDepth 20000 in
theorem ggX3_makeRoomAt_X3_toAt : GoodIn wsX3_makeRoomAt wsX3_toAt := goodIn_r _ [11, 12, 17, 18, 19] (by decide +kernel) (by decide +kernel)
set_option maxRecDepth 20000 in
theorem gX3_makeRoomAt_X3_toAt : GoodIn wsX3_makeRoomAt (wsV RX3 42 RX3 yX3_toAt wsX3_toAt) := goodIn_app (goodIn_of _ (by decide +kernel)) ggX3_makeRoomAt_X3_toAt
set_option maxRecDepth 20000 in
theorem ggX3_makeRoomAt_X3_store : GoodIn wsX3_makeRoomAt wsX3_store := goodIn_r _ [16, 7, 12, 17, 18, 19] (by decide +kernel) (by decide +kernel)
set_option maxRecDepth 20000 in
theorem gX3_makeRoomAt_X3_store : GoodIn wsX3_makeRoomAt (wsV RX3 34 RX3 yX3_store wsX3_store) := goodIn_app (goodIn_of _ (by decide +kernel)) ggX3_makeRoomAt_X3_store
theorem dX3_makeRoomAt_0 : decode cX3_makeRoomAt 0 = .ok (.iconst 0, 1) := by decide +kernel
theorem dX3_makeRoomAt_1 : decode cX3_makeRoomAt 1 = .ok (.istore_n 2, 1) := by decide +kernel
theorem dX3_makeRoomAt_2 : decode cX3_makeRoomAt 2 = .ok (.iload_n 2, 1) := by decide +kernel
theorem dX3_makeRoomAt_3 : decode cX3_makeRoomAt 3 = .ok (.aload_n 0, 1) := by decide +kernel
theorem dX3_makeRoomAt_4 : decode cX3_makeRoomAt 4 = .ok (.getfield 30, 3) := by decide +kernel
theorem dX3_makeRoomAt_7 : decode cX3_makeRoomAt 7 = .ok (.if_icmp .ge 54, 3) := by decide +kernel
theorem dX3_makeRoomAt_10 : decode cX3_makeRoomAt 10 = .ok (.aload_n 0, 1) := by decide +kernel
theorem dX3_makeRoomAt_11 : decode cX3_makeRoomAt 11 = .ok (.iload_n 2, 1) := by decide +kernel
theorem dX3_makeRoomAt_12 : decode cX3_makeRoomAt 12 = .ok (.invokevirtual 38, 3) := by decide +kernel
theorem dX3_makeRoomAt_15 : decode cX3_makeRoomAt 15 = .ok (.istore_n 3, 1) := by decide +kernel
theorem dX3_makeRoomAt_16 : decode cX3_makeRoomAt 16 = .ok (.aload_n 0, 1) := by decide +kernel
theorem dX3_makeRoomAt_17 : decode cX3_makeRoomAt 17 = .ok (.iload_n 2, 1) := by decide +kernel
theorem dX3_makeRoomAt_18 : decode cX3_makeRoomAt 18 = .ok (.invokevirtual 42, 3) := by decide +kernel
theorem dX3_makeRoomAt_21 : decode cX3_makeRoomAt 21 = .ok (.istore 4, 2) := by decide +kernel
theorem dX3_makeRoomAt_23 : decode cX3_makeRoomAt 23 = .ok (.aload_n 0, 1) := by decide +kernel
theorem dX3_makeRoomAt_24 : decode cX3_makeRoomAt 24 = .ok (.iload_n 2, 1) := by decide +kernel
theorem dX3_makeRoomAt_25 : decode cX3_makeRoomAt 25 = .ok (.iload_n 3, 1) := by decide +kernel
theorem dX3_makeRoomAt_26 : decode cX3_makeRoomAt 26 = .ok (.iload_n 1, 1) := by decide +kernel
theorem dX3_makeRoomAt_27 : decode cX3_makeRoomAt 27 = .ok (.if_icmp .lt 9, 3) := by decide +kernel
theorem dX3_makeRoomAt_30 : decode cX3_makeRoomAt 30 = .ok (.iload_n 3, 1) := by decide +kernel
theorem dX3_makeRoomAt_31 : decode cX3_makeRoomAt 31 = .ok (.iconst 1, 1) := by decide +kernel
theorem dX3_makeRoomAt_32 : decode cX3_makeRoomAt 32 = .ok (.iadd, 1) := by decide +kernel
theorem dX3_makeRoomAt_33 : decode cX3_makeRoomAt 33 = .ok (.goto 4, 3) := by decide +kernel
theorem dX3_makeRoomAt_36 : decode cX3_makeRoomAt 36 = .ok (.iload_n 3, 1) := by decide +kernel
theorem dX3_makeRoomAt_37 : decode cX3_makeRoomAt 37 = .ok (.iload 4, 2) := by decide +kernel
theorem dX3_makeRoomAt_39 : decode cX3_makeRoomAt 39 = .ok (.iload_n 1, 1) := by decide +kernel
theorem dX3_makeRoomAt_40 : decode cX3_makeRoomAt 40 = .ok (.if_icmp .lt 10, 3) := by decide +kernel
theorem dX3_makeRoomAt_43 : decode cX3_makeRoomAt 43 = .ok (.iload 4, 2) := by decide +kernel
theorem dX3_makeRoomAt_45 : decode cX3_makeRoomAt 45 = .ok (.iconst 1, 1) := by decide +kernel
theorem dX3_makeRoomAt_46 : decode cX3_makeRoomAt 46 = .ok (.iadd, 1) := by decide +kernel
theorem dX3_makeRoomAt_47 : decode cX3_makeRoomAt 47 = .ok (.goto 5, 3) := by decide +kernel
theorem dX3_makeRoomAt_50 : decode cX3_makeRoomAt 50 = .ok (.iload 4, 2) := by decide +kernel
theorem dX3_makeRoomAt_52 : decode cX3_makeRoomAt 52 = .ok (.invokevirtual 34, 3) := by decide +kernel
theorem dX3_makeRoomAt_55 : decode cX3_makeRoomAt 55 = .ok (.iinc 2 1, 3) := by decide +kernel
theorem dX3_makeRoomAt_58 : decode cX3_makeRoomAt 58 = .ok (.goto (-56), 3) := by decide +kernel
theorem dX3_makeRoomAt_61 : decode cX3_makeRoomAt 61 = .ok (.return_, 1) := by decide +kernel
set_option maxRecDepth 20000 in
theorem ggX3_closeRoomAt_X3_fromAt : GoodIn wsX3_closeRoomAt wsX3_fromAt := goodIn_r _ [6, 7, 21, 22, 23] (by decide +kernel) (by decide +kernel)
set_option maxRecDepth 20000 in
theorem gX3_closeRoomAt_X3_fromAt : GoodIn wsX3_closeRoomAt (wsV RX3 38 RX3 yX3_fromAt wsX3_fromAt) := goodIn_app (goodIn_of _ (by decide +kernel)) ggX3_closeRoomAt_X3_fromAt
set_option maxRecDepth 20000 in
theorem ggX3_closeRoomAt_X3_toAt : GoodIn wsX3_closeRoomAt wsX3_toAt := goodIn_r _ [11, 12, 21, 22, 23] (by decide +kernel) (by decide +kernel)
set_option maxRecDepth 20000 in
theorem gX3_closeRoomAt_X3_toAt : GoodIn wsX3_closeRoomAt (wsV RX3 42 RX3 yX3_toAt wsX3_toAt) := goodIn_app (goodIn_of _ (by decide +kernel)) ggX3_closeRoomAt_X3_toAt
set_option maxRecDepth 20000 in
theorem ggX3_closeRoomAt_X3_removeAt : GoodIn wsX3_closeRoomAt wsX3_removeAt := goodIn_r _ [16, 1, 2, 3, 4, 5, 6, 7, 8, 9, 10, 11, 12, 17, 18, 19, 20, 21, 22, 23] (by decide +kernel) (by decide +kernel)
set_option maxRecDepth 20000 in
theorem gX3_closeRoomAt_X3_removeAt : GoodIn wsX3_closeRoomAt (wsV RX3 45 RX3 yX3_removeAt wsX3_removeAt) := goodIn_app (goodIn_of _ (by decide +kernel)) ggX3_closeRoomAt_X3_removeAt
set_option maxRecDepth 20000 in
theorem ggX3_closeRoomAt_X3_store : GoodIn wsX3_closeRoomAt wsX3_store := goodIn_r _ [20, 7, 12, 21, 22, 23] (by decide +kernel) (by decide +kernel)
set_option maxRecDepth 20000 in
theorem gX3_closeRoomAt_X3_store : GoodIn wsX3_closeRoomAt (wsV RX3 34 RX3 yX3_store wsX3_store) := goodIn_app (goodIn_of _ (by decide +kernel)) ggX3_closeRoomAt_X3_store
theorem dX3_closeRoomAt_0 : decode cX3_closeRoomAt 0 = .ok (.aload_n 0, 1) := by decide +kernel
theorem dX3_closeRoomAt_1 : decode cX3_closeRoomAt 1 = .ok (.getfield 30, 3) := by decide +kernel
theorem dX3_closeRoomAt_4 : decode cX3_closeRoomAt 4 = .ok (.iconst 1, 1) := by decide +kernel
theorem dX3_closeRoomAt_5 : decode cX3_closeRoomAt 5 = .ok (.isub, 1) := by decide +kernel
theorem dX3_closeRoomAt_6 : decode cX3_closeRoomAt 6 = .ok (.istore_n 2, 1) := by decide +kernel
theorem dX3_closeRoomAt_7 : decode cX3_closeRoomAt 7 = .ok (.iload_n 2, 1) := by decide +kernel
theorem dX3_closeRoomAt_8 : decode cX3_closeRoomAt 8 = .ok (.ifCond .lt 73, 3) := by decide +kernel
theorem dX3_closeRoomAt_11 : decode cX3_closeRoomAt 11 = .ok (.aload_n 0, 1) := by decide +kernel
theorem dX3_closeRoomAt_12 : decode cX3_closeRoomAt 12 = .ok (.iload_n 2, 1) := by decide +kernel
theorem dX3_closeRoomAt_13 : decode cX3_closeRoomAt 13 = .ok (.invokevirtual 38, 3) := by decide +kernel
theorem dX3_closeRoomAt_16 : decode cX3_closeRoomAt 16 = .ok (.istore_n 3, 1) := by decide +kernel
theorem dX3_closeRoomAt_17 : decode cX3_closeRoomAt 17 = .ok (.aload_n 0, 1) := by decide +kernel
theorem dX3_closeRoomAt_18 : decode cX3_closeRoomAt 18 = .ok (.iload_n 2, 1) := by decide +kernel
theorem dX3_closeRoomAt_19 : decode cX3_closeRoomAt 19 = .ok (.invokevirtual 42, 3) := by decide +kernel
theorem dX3_closeRoomAt_22 : decode cX3_closeRoomAt 22 = .ok (.istore 4, 2) := by decide +kernel
theorem dX3_closeRoomAt_24 : decode cX3_closeRoomAt 24 = .ok (.iload_n 3, 1) := by decide +kernel
theorem dX3_closeRoomAt_25 : decode cX3_closeRoomAt 25 = .ok (.iload_n 1, 1) := by decide +kernel
theorem dX3_closeRoomAt_26 : decode cX3_closeRoomAt 26 = .ok (.if_icmp .ne 17, 3) := by decide +kernel
theorem dX3_closeRoomAt_29 : decode cX3_closeRoomAt 29 = .ok (.iload 4, 2) := by decide +kernel
theorem dX3_closeRoomAt_31 : decode cX3_closeRoomAt 31 = .ok (.iload_n 1, 1) := by decide +kernel
theorem dX3_closeRoomAt_32 : decode cX3_closeRoomAt 32 = .ok (.if_icmp .ne 11, 3) := by decide +kernel
theorem dX3_closeRoomAt_35 : decode cX3_closeRoomAt 35 = .ok (.aload_n 0, 1) := by decide +kernel
theorem dX3_closeRoomAt_36 : decode cX3_closeRoomAt 36 = .ok (.iload_n 2, 1) := by decide +kernel
theorem dX3_closeRoomAt_37 : decode cX3_closeRoomAt 37 = .ok (.invokevirtual 45, 3) := by decide +kernel
theorem dX3_closeRoomAt_40 : decode cX3_closeRoomAt 40 = .ok (.goto 35, 3) := by decide +kernel
theorem dX3_closeRoomAt_43 : decode cX3_closeRoomAt 43 = .ok (.aload_n 0, 1) := by decide +kernel
theorem dX3_closeRoomAt_44 : decode cX3_closeRoomAt 44 = .ok (.iload_n 2, 1) := by decide +kernel
theorem dX3_closeRoomAt_45 : decode cX3_closeRoomAt 45 = .ok (.iload_n 3, 1) := by decide +kernel
theorem dX3_closeRoomAt_46 : decode cX3_closeRoomAt 46 = .ok (.iload_n 1, 1) := by decide +kernel
theorem dX3_closeRoomAt_47 : decode cX3_closeRoomAt 47 = .ok (.if_icmp .le 9, 3) := by decide +kernel
theorem dX3_closeRoomAt_50 : decode cX3_closeRoomAt 50 = .ok (.iload_n 3, 1) := by decide +kernel
theorem dX3_closeRoomAt_51 : decode cX3_closeRoomAt 51 = .ok (.iconst 1, 1) := by decide +kernel
theorem dX3_closeRoomAt_52 : decode cX3_closeRoomAt 52 = .ok (.isub, 1) := by decide +kernel
theorem dX3_closeRoomAt_53 : decode cX3_closeRoomAt 53 = .ok (.goto 4, 3) := by decide +kernel
theorem dX3_closeRoomAt_56 : decode cX3_closeRoomAt 56 = .ok (.iload_n 3, 1) := by decide +kernel
theorem dX3_closeRoomAt_57 : decode cX3_closeRoomAt 57 = .ok (.iload 4, 2) := by decide +kernel
theorem dX3_closeRoomAt_59 : decode cX3_closeRoomAt 59 = .ok (.iload_n 1, 1) := by decide +kernel
theorem dX3_closeRoomAt_60 : decode cX3_closeRoomAt 60 = .ok (.if_icmp .lt 10, 3) := by decide +kernel
theorem dX3_closeRoomAt_63 : decode cX3_closeRoomAt 63 = .ok (.iload 4, 2) := by decide +kernel
theorem dX3_closeRoomAt_65 : decode cX3_closeRoomAt 65 = .ok (.iconst 1, 1) := by decide +kernel
theorem dX3_closeRoomAt_66 : decode cX3_closeRoomAt 66 = .ok (.isub, 1) := by decide +kernel
theorem dX3_closeRoomAt_67 : decode cX3_closeRoomAt 67 = .ok (.goto 5, 3) := by decide +kernel
theorem dX3_closeRoomAt_70 : decode cX3_closeRoomAt 70 = .ok (.iload 4, 2) := by decide +kernel
theorem dX3_closeRoomAt_72 : decode cX3_closeRoomAt 72 = .ok (.invokevirtual 34, 3) := by decide +kernel
theorem dX3_closeRoomAt_75 : decode cX3_closeRoomAt 75 = .ok (.iinc 2 (-1), 3) := by decide +kernel
theorem dX3_closeRoomAt_78 : decode cX3_closeRoomAt 78 = .ok (.goto (-71), 3) := by decide +kernel
theorem dX3_closeRoomAt_81 : decode cX3_closeRoomAt 81 = .ok (.return_, 1) := by decide +kernel
theorem dX3_store_0 : decode cX3_store 0 = .ok (.iload_n 1, 1) := by decide +kernel
theorem dX3_store_1 : decode cX3_store 1 = .ok (.ifCond .lt 35, 3) := by decide +kernel
theorem dX3_store_4 : decode cX3_store 4 = .ok (.iload_n 1, 1) := by decide +kernel
theorem dX3_store_5 : decode cX3_store 5 = .ok (.aload_n 0, 1) := by decide +kernel
theorem dX3_store_6 : decode cX3_store 6 = .ok (.getfield 9, 3) := by decide +kernel
theorem dX3_store_9 : decode cX3_store 9 = .ok (.arraylength, 1) := by decide +kernel
theorem dX3_store_10 : decode cX3_store 10 = .ok (.if_icmp .ge 26, 3) := by decide +kernel
theorem dX3_store_13 : decode cX3_store 13 = .ok (.iload_n 1, 1) := by decide +kernel
theorem dX3_store_14 : decode cX3_store 14 = .ok (.aload_n 0, 1) := by decide +kernel
theorem dX3_store_15 : decode cX3_store 15 = .ok (.getfield 15, 3) := by decide +kernel
theorem dX3_store_18 : decode cX3_store 18 = .ok (.arraylength, 1) := by decide +kernel
theorem dX3_store_19 : decode cX3_store 19 = .ok (.if_icmp .ge 17, 3) := by decide +kernel
theorem dX3_store_22 : decode cX3_store 22 = .ok (.aload_n 0, 1) := by decide +kernel
theorem dX3_store_23 : decode cX3_store 23 = .ok (.getfield 9, 3) := by decide +kernel
theorem dX3_store_26 : decode cX3_store 26 = .ok (.iload_n 1, 1) := by decide +kernel
theorem dX3_store_27 : decode cX3_store 27 = .ok (.iload_n 2, 1) := by decide +kernel
theorem dX3_store_28 : decode cX3_store 28 = .ok (.iastore, 1) := by decide +kernel
theorem dX3_store_29 : decode cX3_store 29 = .ok (.aload_n 0, 1) := by decide +kernel
theorem dX3_store_30 : decode cX3_store 30 = .ok (.getfield 15, 3) := by decide +kernel
theorem dX3_store_33 : decode cX3_store 33 = .ok (.iload_n 1, 1) := by decide +kernel
theorem dX3_store_34 : decode cX3_store 34 = .ok (.iload_n 3, 1) := by decide +kernel
theorem dX3_store_35 : decode cX3_store 35 = .ok (.iastore, 1) := by decide +kernel
theorem dX3_store_36 : decode cX3_store 36 = .ok (.return_, 1) := by decide +kernel
