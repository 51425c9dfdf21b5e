set_option maxRecDepth 20000 in
theorem ggX5_init_Jx4a65c_init_da8c8 : GoodIn wsX5_init wsJx4a65c_init_da8c8 := goodIn_r _ [12, 13, 14, 15, 16, 17, 18, 19, 20, 21, 22, 23, 24, 2, 3, 25, 26, 27] (by decide +kernel) (by decide +kernel)
set_option maxRecDepth 20000 in
theorem gX5_init_Jx4a65c_init_da8c8 : GoodIn wsX5_init (wsJx4a65c_init_da8c8) := ggX5_init_Jx4a65c_init_da8c8
theorem dX5_init_0 : decode cX5_init 0 = .ok (.aload_n 0, 1) := by decide +kernel
theorem dX5_init_1 : decode cX5_init 1 = .ok (.invokespecial 1, 3) := by decide +kernel
theorem dX5_init_4 : decode cX5_init 4 = .ok (.aload_n 0, 1) := by decide +kernel
theorem dX5_init_5 : decode cX5_init 5 = .ok (.new 7, 3) := by decide +kernel
theorem dX5_init_8 : decode cX5_init 8 = .ok (.dup, 1) := by decide +kernel
theorem dX5_init_9 : decode cX5_init 9 = .ok (.invokespecial 9, 3) := by decide +kernel
theorem dX5_init_12 : decode cX5_init 12 = .ok (.putfield 10, 3) := by decide +kernel
theorem dX5_init_15 : decode cX5_init 15 = .ok (.aload_n 0, 1) := by decide +kernel
theorem dX5_init_16 : decode cX5_init 16 = .ok (.new 7, 3) := by decide +kernel
theorem dX5_init_19 : decode cX5_init 19 = .ok (.dup, 1) := by decide +kernel
theorem dX5_init_20 : decode cX5_init 20 = .ok (.invokespecial 9, 3) := by decide +kernel
theorem dX5_init_23 : decode cX5_init 23 = .ok (.putfield 16, 3) := by decide +kernel
theorem dX5_init_26 : decode cX5_init 26 = .ok (.aload_n 0, 1) := by decide +kernel
theorem dX5_init_27 : decode cX5_init 27 = .ok (.bipush 6, 2) := by decide +kernel
theorem dX5_init_29 : decode cX5_init 29 = .ok (.bipush 40, 2) := by decide +kernel
theorem dX5_init_31 : decode cX5_init 31 = .ok (.multianewarray 19 2, 4) := by decide +kernel
theorem dX5_init_35 : decode cX5_init 35 = .ok (.putfield 21, 3) := by decide +kernel
theorem dX5_init_38 : decode cX5_init 38 = .ok (.return_, 1) := by decide +kernel
set_option maxRecDepth 20000 in
theorem ggX5_placeOf_Jx4a65c_size_8abf5 : GoodIn wsX5_placeOf wsJx4a65c_size_8abf5 := goodIn_r _ [6, 7, 34, 35, 36] (by decide +kernel) (by decide +kernel)
set_option maxRecDepth 20000 in
theorem gX5_placeOf_Jx4a65c_size_8abf5_f24Jx4a65c : GoodIn wsX5_placeOf (va_wsF RX5 24 RJx4a65c ⟨"java/util/List", "size", "()I"⟩ yJx4a65c_size_8abf5 wsJx4a65c_size_8abf5) := goodIn_app (goodIn_of _ (by decide +kernel)) ggX5_placeOf_Jx4a65c_size_8abf5
set_option maxRecDepth 20000 in
theorem ggX5_placeOf_Jx4a65c_get_915e3 : GoodIn wsX5_placeOf wsJx4a65c_get_915e3 := goodIn_r _ [11, 7, 12, 13, 14, 15, 16, 17, 18, 19, 20, 21, 22, 5, 23, 24, 34, 35, 36] (by decide +kernel) (by decide +kernel)
set_option maxRecDepth 20000 in
theorem gX5_placeOf_Jx4a65c_get_915e3_f30Jx4a65c : GoodIn wsX5_placeOf (va_wsF RX5 30 RJx4a65c ⟨"java/util/List", "get", "(I)Ljava/lang/Object;"⟩ yJx4a65c_get_915e3 wsJx4a65c_get_915e3) := goodIn_app (goodIn_of _ (by decide +kernel)) ggX5_placeOf_Jx4a65c_get_915e3
theorem dX5_placeOf_0 : decode cX5_placeOf 0 = .ok (.iconst 0, 1) := by decide +kernel
theorem dX5_placeOf_1 : decode cX5_placeOf 1 = .ok (.istore_n 2, 1) := by decide +kernel
theorem dX5_placeOf_2 : decode cX5_placeOf 2 = .ok (.iload_n 2, 1) := by decide +kernel
theorem dX5_placeOf_3 : decode cX5_placeOf 3 = .ok (.aload_n 0, 1) := by decide +kernel
theorem dX5_placeOf_4 : decode cX5_placeOf 4 = .ok (.getfield 10, 3) := by decide +kernel
theorem dX5_placeOf_7 : decode cX5_placeOf 7 = .ok (.invokeinterface 24 1, 5) := by decide +kernel
theorem dX5_placeOf_12 : decode cX5_placeOf 12 = .ok (.if_icmp .ge 23, 3) := by decide +kernel
theorem dX5_placeOf_15 : decode cX5_placeOf 15 = .ok (.aload_n 0, 1) := by decide +kernel
theorem dX5_placeOf_16 : decode cX5_placeOf 16 = .ok (.getfield 10, 3) := by decide +kernel
theorem dX5_placeOf_19 : decode cX5_placeOf 19 = .ok (.iload_n 2, 1) := by decide +kernel
theorem dX5_placeOf_20 : decode cX5_placeOf 20 = .ok (.invokeinterface 30 2, 5) := by decide +kernel
theorem dX5_placeOf_25 : decode cX5_placeOf 25 = .ok (.aload_n 1, 1) := by decide +kernel
theorem dX5_placeOf_26 : decode cX5_placeOf 26 = .ok (.if_acmp .eq 9, 3) := by decide +kernel
theorem dX5_placeOf_29 : decode cX5_placeOf 29 = .ok (.iinc 2 1, 3) := by decide +kernel
theorem dX5_placeOf_32 : decode cX5_placeOf 32 = .ok (.goto (-30), 3) := by decide +kernel
theorem dX5_placeOf_35 : decode cX5_placeOf 35 = .ok (.iload_n 2, 1) := by decide +kernel
theorem dX5_placeOf_36 : decode cX5_placeOf 36 = .ok (.ireturn, 1) := by decide +kernel
set_option maxRecDepth 20000 in
theorem ggX5_least_Jx4a65c_get_915e3 : GoodIn wsX5_least wsJx4a65c_get_915e3 := goodIn_r _ [7, 8, 9, 10, 11, 12, 13, 14, 15, 16, 17, 18, 19, 6, 20, 21, 33, 34, 35] (by decide +kernel) (by decide +kernel)
set_option maxRecDepth 20000 in
theorem gX5_least_Jx4a65c_get_915e3_f30Jx4a65c : GoodIn wsX5_least (va_wsF RX5 30 RJx4a65c ⟨"java/util/List", "get", "(I)Ljava/lang/Object;"⟩ yJx4a65c_get_915e3 wsJx4a65c_get_915e3) := goodIn_app (goodIn_of _ (by decide +kernel)) ggX5_least_Jx4a65c_get_915e3
theorem dX5_least_0 : decode cX5_least 0 = .ok (.aload_n 0, 1) := by decide +kernel
theorem dX5_least_1 : decode cX5_least 1 = .ok (.getfield 10, 3) := by decide +kernel
theorem dX5_least_4 : decode cX5_least 4 = .ok (.iload_n 1, 1) := by decide +kernel
theorem dX5_least_5 : decode cX5_least 5 = .ok (.invokeinterface 30 2, 5) := by decide +kernel
theorem dX5_least_10 : decode cX5_least 10 = .ok (.checkcast 34, 3) := by decide +kernel
theorem dX5_least_13 : decode cX5_least 13 = .ok (.astore_n 3, 1) := by decide +kernel
theorem dX5_least_14 : decode cX5_least 14 = .ok (.iload_n 1, 1) := by decide +kernel
theorem dX5_least_15 : decode cX5_least 15 = .ok (.istore 4, 2) := by decide +kernel
theorem dX5_least_17 : decode cX5_least 17 = .ok (.iload 4, 2) := by decide +kernel
theorem dX5_least_19 : decode cX5_least 19 = .ok (.iload_n 2, 1) := by decide +kernel
theorem dX5_least_20 : decode cX5_least 20 = .ok (.if_icmp .gt 48, 3) := by decide +kernel
theorem dX5_least_23 : decode cX5_least 23 = .ok (.aload_n 0, 1) := by decide +kernel
theorem dX5_least_24 : decode cX5_least 24 = .ok (.getfield 10, 3) := by decide +kernel
theorem dX5_least_27 : decode cX5_least 27 = .ok (.iload 4, 2) := by decide +kernel
theorem dX5_least_29 : decode cX5_least 29 = .ok (.invokeinterface 30 2, 5) := by decide +kernel
theorem dX5_least_34 : decode cX5_least 34 = .ok (.checkcast 34, 3) := by decide +kernel
theorem dX5_least_37 : decode cX5_least 37 = .ok (.getfield 36, 3) := by decide +kernel
theorem dX5_least_40 : decode cX5_least 40 = .ok (.aload_n 3, 1) := by decide +kernel
theorem dX5_least_41 : decode cX5_least 41 = .ok (.getfield 36, 3) := by decide +kernel
theorem dX5_least_44 : decode cX5_least 44 = .ok (.if_icmp .ge 18, 3) := by decide +kernel
theorem dX5_least_47 : decode cX5_least 47 = .ok (.aload_n 0, 1) := by decide +kernel
theorem dX5_least_48 : decode cX5_least 48 = .ok (.getfield 10, 3) := by decide +kernel
theorem dX5_least_51 : decode cX5_least 51 = .ok (.iload 4, 2) := by decide +kernel
theorem dX5_least_53 : decode cX5_least 53 = .ok (.invokeinterface 30 2, 5) := by decide +kernel
theorem dX5_least_58 : decode cX5_least 58 = .ok (.checkcast 34, 3) := by decide +kernel
theorem dX5_least_61 : decode cX5_least 61 = .ok (.astore_n 3, 1) := by decide +kernel
theorem dX5_least_62 : decode cX5_least 62 = .ok (.iinc 4 1, 3) := by decide +kernel
theorem dX5_least_65 : decode cX5_least 65 = .ok (.goto (-48), 3) := by decide +kernel
theorem dX5_least_68 : decode cX5_least 68 = .ok (.aload_n 3, 1) := by decide +kernel
theorem dX5_least_69 : decode cX5_least 69 = .ok (.areturn, 1) := by decide +kernel
set_option maxRecDepth 20000 in
theorem ggX5_write_X5_least : GoodIn wsX5_write wsX5_least := goodIn_r _ [7, 8, 9, 10, 11, 12, 13, 14, 15, 16, 17, 18, 19, 20, 21, 22, 23, 24, 25, 26, 27, 28, 29, 30, 31, 32, 33, 34, 35, 36, 37, 38, 39, 40, 41, 42] (by decide +kernel) (by decide +kernel)
set_option maxRecDepth 20000 in
theorem gX5_write_X5_least : GoodIn wsX5_write (wsV RX5 40 RX5 yX5_least wsX5_least) := goodIn_app (goodIn_of _ (by decide +kernel)) ggX5_write_X5_least
theorem dX5_write_0 : decode cX5_write 0 = .ok (.iconst 1, 1) := by decide +kernel
theorem dX5_write_1 : decode cX5_write 1 = .ok (.istore_n 3, 1) := by decide +kernel
theorem dX5_write_2 : decode cX5_write 2 = .ok (.iconst 0, 1) := by decide +kernel
theorem dX5_write_3 : decode cX5_write 3 = .ok (.istore 4, 2) := by decide +kernel
theorem dX5_write_5 : decode cX5_write 5 = .ok (.iload 4, 2) := by decide +kernel
theorem dX5_write_7 : decode cX5_write 7 = .ok (.iload_n 1, 1) := by decide +kernel
theorem dX5_write_8 : decode cX5_write 8 = .ok (.if_icmp .ge 13, 3) := by decide +kernel
theorem dX5_write_11 : decode cX5_write 11 = .ok (.iload_n 3, 1) := by decide +kernel
theorem dX5_write_12 : decode cX5_write 12 = .ok (.iconst 2, 1) := by decide +kernel
theorem dX5_write_13 : decode cX5_write 13 = .ok (.imul, 1) := by decide +kernel
theorem dX5_write_14 : decode cX5_write 14 = .ok (.istore_n 3, 1) := by decide +kernel
theorem dX5_write_15 : decode cX5_write 15 = .ok (.iinc 4 1, 3) := by decide +kernel
theorem dX5_write_18 : decode cX5_write 18 = .ok (.goto (-13), 3) := by decide +kernel
theorem dX5_write_21 : decode cX5_write 21 = .ok (.aload_n 0, 1) := by decide +kernel
theorem dX5_write_22 : decode cX5_write 22 = .ok (.getfield 21, 3) := by decide +kernel
theorem dX5_write_25 : decode cX5_write 25 = .ok (.iload_n 1, 1) := by decide +kernel
theorem dX5_write_26 : decode cX5_write 26 = .ok (.aaload, 1) := by decide +kernel
theorem dX5_write_27 : decode cX5_write 27 = .ok (.iload_n 2, 1) := by decide +kernel
theorem dX5_write_28 : decode cX5_write 28 = .ok (.aload_n 0, 1) := by decide +kernel
theorem dX5_write_29 : decode cX5_write 29 = .ok (.iload_n 2, 1) := by decide +kernel
theorem dX5_write_30 : decode cX5_write 30 = .ok (.iload_n 2, 1) := by decide +kernel
theorem dX5_write_31 : decode cX5_write 31 = .ok (.iload_n 3, 1) := by decide +kernel
theorem dX5_write_32 : decode cX5_write 32 = .ok (.iadd, 1) := by decide +kernel
theorem dX5_write_33 : decode cX5_write 33 = .ok (.iconst 1, 1) := by decide +kernel
theorem dX5_write_34 : decode cX5_write 34 = .ok (.isub, 1) := by decide +kernel
theorem dX5_write_35 : decode cX5_write 35 = .ok (.invokevirtual 40, 3) := by decide +kernel
theorem dX5_write_38 : decode cX5_write 38 = .ok (.aastore, 1) := by decide +kernel
theorem dX5_write_39 : decode cX5_write 39 = .ok (.aload_n 0, 1) := by decide +kernel
theorem dX5_write_40 : decode cX5_write 40 = .ok (.dup, 1) := by decide +kernel
theorem dX5_write_41 : decode cX5_write 41 = .ok (.getfield 44, 3) := by decide +kernel
theorem dX5_write_44 : decode cX5_write 44 = .ok (.iconst 1, 1) := by decide +kernel
theorem dX5_write_45 : decode cX5_write 45 = .ok (.iadd, 1) := by decide +kernel
theorem dX5_write_46 : decode cX5_write 46 = .ok (.putfield 44, 3) := by decide +kernel
theorem dX5_write_49 : decode cX5_write 49 = .ok (.return_, 1) := by decide +kernel
set_option maxRecDepth 20000 in
theorem ggX5_build_Jx4a65c_size_8abf5 : GoodIn wsX5_build wsJx4a65c_size_8abf5 := goodIn_r _ [8, 9, 81, 82, 83] (by decide +kernel) (by decide +kernel)
set_option maxRecDepth 20000 in
theorem gX5_build_Jx4a65c_size_8abf5_f24Jx4a65c : GoodIn wsX5_build (va_wsF RX5 24 RJx4a65c ⟨"java/util/List", "size", "()I"⟩ yJx4a65c_size_8abf5 wsJx4a65c_size_8abf5) := goodIn_app (goodIn_of _ (by decide +kernel)) ggX5_build_Jx4a65c_size_8abf5
set_option maxRecDepth 20000 in
theorem ggX5_build_X5_write : GoodIn wsX5_build wsX5_write := goodIn_r _ [14, 15, 16, 17, 18, 19, 13, 20, 1, 2, 21, 22, 23, 7, 24, 9, 25, 26, 27, 28, 29, 30, 31, 32, 33, 34, 35, 36, 37, 70, 71, 72, 73, 74, 75, 76, 77, 78, 79, 80, 81, 82, 83] (by decide +kernel) (by decide +kernel)
set_option maxRecDepth 20000 in
theorem gX5_build_X5_write : GoodIn wsX5_build (wsV RX5 47 RX5 yX5_write wsX5_write) := goodIn_app (goodIn_of _ (by decide +kernel)) ggX5_build_X5_write
set_option maxRecDepth 20000 in
theorem ggX5_build_Jx4a65c_iterator_32c93 : GoodIn wsX5_build wsJx4a65c_iterator_32c93 := goodIn_r _ [41, 42, 43, 44, 45, 46, 47, 48, 49, 50, 51, 52, 53, 54, 55, 84, 85, 86, 87, 81, 82, 83] (by decide +kernel) (by decide +kernel)
set_option maxRecDepth 20000 in
theorem gX5_build_Jx4a65c_iterator_32c93_f51Jx4a65c : GoodIn wsX5_build (va_wsF RX5 51 RJx4a65c ⟨"java/util/List", "iterator", "()Ljava/util/Iterator;"⟩ yJx4a65c_iterator_32c93 wsJx4a65c_iterator_32c93) := goodIn_app (goodIn_of _ (by decide +kernel)) ggX5_build_Jx4a65c_iterator_32c93
set_option maxRecDepth 20000 in
theorem ggX5_build_Jx35411_hasNext_aae02 : GoodIn wsX5_build wsJx35411_hasNext_aae02 := goodIn_r _ [59, 60, 48, 84, 85, 86, 87, 81, 82, 83] (by decide +kernel) (by decide +kernel)
set_option maxRecDepth 20000 in
theorem gX5_build_Jx35411_hasNext_aae02_f55Jx35411 : GoodIn wsX5_build (va_wsF RX5 55 RJx35411 ⟨"java/util/Iterator", "hasNext", "()Z"⟩ yJx35411_hasNext_aae02 wsJx35411_hasNext_aae02) := goodIn_app (goodIn_of _ (by decide +kernel)) ggX5_build_Jx35411_hasNext_aae02
set_option maxRecDepth 20000 in
theorem ggX5_build_Jx35411_next_0502b : GoodIn wsX5_build wsJx35411_next_0502b := goodIn_r _ [64, 60, 48, 65, 52, 66, 67, 68, 44, 69, 53, 54, 55, 84, 85, 86, 87, 81, 82, 83] (by decide +kernel) (by decide +kernel)
set_option maxRecDepth 20000 in
theorem gX5_build_Jx35411_next_0502b_f61Jx35411 : GoodIn wsX5_build (va_wsF RX5 61 RJx35411 ⟨"java/util/Iterator", "next", "()Ljava/lang/Object;"⟩ yJx35411_next_0502b wsJx35411_next_0502b) := goodIn_app (goodIn_of _ (by decide +kernel)) ggX5_build_Jx35411_next_0502b
theorem dX5_build_0 : decode cX5_build 0 = .ok (.iconst 2, 1) := by decide +kernel
theorem dX5_build_1 : decode cX5_build 1 = .ok (.istore_n 1, 1) := by decide +kernel
theorem dX5_build_2 : decode cX5_build 2 = .ok (.iconst 1, 1) := by decide +kernel
theorem dX5_build_3 : decode cX5_build 3 = .ok (.istore_n 2, 1) := by decide +kernel
theorem dX5_build_4 : decode cX5_build 4 = .ok (.iload_n 1, 1) := by decide +kernel
theorem dX5_build_5 : decode cX5_build 5 = .ok (.aload_n 0, 1) := by decide +kernel
theorem dX5_build_6 : decode cX5_build 6 = .ok (.getfield 10, 3) := by decide +kernel
theorem dX5_build_9 : decode cX5_build 9 = .ok (.invokeinterface 24 1, 5) := by decide +kernel
theorem dX5_build_14 : decode cX5_build 14 = .ok (.if_icmp .gt 42, 3) := by decide +kernel
theorem dX5_build_17 : decode cX5_build 17 = .ok (.iconst 0, 1) := by decide +kernel
theorem dX5_build_18 : decode cX5_build 18 = .ok (.istore_n 3, 1) := by decide +kernel
theorem dX5_build_19 : decode cX5_build 19 = .ok (.iload_n 3, 1) := by decide +kernel
theorem dX5_build_20 : decode cX5_build 20 = .ok (.iload_n 1, 1) := by decide +kernel
theorem dX5_build_21 : decode cX5_build 21 = .ok (.iadd, 1) := by decide +kernel
theorem dX5_build_22 : decode cX5_build 22 = .ok (.aload_n 0, 1) := by decide +kernel
theorem dX5_build_23 : decode cX5_build 23 = .ok (.getfield 10, 3) := by decide +kernel
theorem dX5_build_26 : decode cX5_build 26 = .ok (.invokeinterface 24 1, 5) := by decide +kernel
theorem dX5_build_31 : decode cX5_build 31 = .ok (.if_icmp .gt 15, 3) := by decide +kernel
theorem dX5_build_34 : decode cX5_build 34 = .ok (.aload_n 0, 1) := by decide +kernel
theorem dX5_build_35 : decode cX5_build 35 = .ok (.iload_n 2, 1) := by decide +kernel
theorem dX5_build_36 : decode cX5_build 36 = .ok (.iload_n 3, 1) := by decide +kernel
theorem dX5_build_37 : decode cX5_build 37 = .ok (.invokevirtual 47, 3) := by decide +kernel
theorem dX5_build_40 : decode cX5_build 40 = .ok (.iinc 3 1, 3) := by decide +kernel
theorem dX5_build_43 : decode cX5_build 43 = .ok (.goto (-24), 3) := by decide +kernel
theorem dX5_build_46 : decode cX5_build 46 = .ok (.iload_n 1, 1) := by decide +kernel
theorem dX5_build_47 : decode cX5_build 47 = .ok (.iconst 2, 1) := by decide +kernel
theorem dX5_build_48 : decode cX5_build 48 = .ok (.imul, 1) := by decide +kernel
theorem dX5_build_49 : decode cX5_build 49 = .ok (.istore_n 1, 1) := by decide +kernel
theorem dX5_build_50 : decode cX5_build 50 = .ok (.iinc 2 1, 3) := by decide +kernel
theorem dX5_build_53 : decode cX5_build 53 = .ok (.goto (-49), 3) := by decide +kernel
theorem dX5_build_56 : decode cX5_build 56 = .ok (.aload_n 0, 1) := by decide +kernel
theorem dX5_build_57 : decode cX5_build 57 = .ok (.getfield 10, 3) := by decide +kernel
theorem dX5_build_60 : decode cX5_build 60 = .ok (.invokeinterface 51 1, 5) := by decide +kernel
theorem dX5_build_65 : decode cX5_build 65 = .ok (.astore_n 2, 1) := by decide +kernel
theorem dX5_build_66 : decode cX5_build 66 = .ok (.aload_n 2, 1) := by decide +kernel
theorem dX5_build_67 : decode cX5_build 67 = .ok (.invokeinterface 55 1, 5) := by decide +kernel
theorem dX5_build_72 : decode cX5_build 72 = .ok (.ifCond .eq 21, 3) := by decide +kernel
theorem dX5_build_75 : decode cX5_build 75 = .ok (.aload_n 2, 1) := by decide +kernel
theorem dX5_build_76 : decode cX5_build 76 = .ok (.invokeinterface 61 1, 5) := by decide +kernel
theorem dX5_build_81 : decode cX5_build 81 = .ok (.checkcast 34, 3) := by decide +kernel
theorem dX5_build_84 : decode cX5_build 84 = .ok (.astore_n 3, 1) := by decide +kernel
theorem dX5_build_85 : decode cX5_build 85 = .ok (.aload_n 3, 1) := by decide +kernel
theorem dX5_build_86 : decode cX5_build 86 = .ok (.iconst 0, 1) := by decide +kernel
theorem dX5_build_87 : decode cX5_build 87 = .ok (.putfield 65, 3) := by decide +kernel
theorem dX5_build_90 : decode cX5_build 90 = .ok (.goto (-24), 3) := by decide +kernel
theorem dX5_build_93 : decode cX5_build 93 = .ok (.aload_n 0, 1) := by decide +kernel
theorem dX5_build_94 : decode cX5_build 94 = .ok (.dup, 1) := by decide +kernel
theorem dX5_build_95 : decode cX5_build 95 = .ok (.getfield 69, 3) := by decide +kernel
theorem dX5_build_98 : decode cX5_build 98 = .ok (.iconst 1, 1) := by decide +kernel
theorem dX5_build_99 : decode cX5_build 99 = .ok (.iadd, 1) := by decide +kernel
theorem dX5_build_100 : decode cX5_build 100 = .ok (.putfield 69, 3) := by decide +kernel
theorem dX5_build_103 : decode cX5_build 103 = .ok (.return_, 1) := by decide +kernel
set_option maxRecDepth 20000 in
theorem ggX5_waiting_Jx4a65c_iterator_32c93 : GoodIn wsX5_waiting wsJx4a65c_iterator_32c93 := goodIn_r _ [7, 8, 9, 10, 11, 12, 13, 14, 15, 16, 17, 18, 19, 20, 21, 47, 48, 49, 50, 51, 52, 53] (by decide +kernel) (by decide +kernel)
set_option maxRecDepth 20000 in
theorem gX5_waiting_Jx4a65c_iterator_32c93_f51Jx4a65c : GoodIn wsX5_waiting (va_wsF RX5 51 RJx4a65c ⟨"java/util/List", "iterator", "()Ljava/util/Iterator;"⟩ yJx4a65c_iterator_32c93 wsJx4a65c_iterator_32c93) := goodIn_app (goodIn_of _ (by decide +kernel)) ggX5_waiting_Jx4a65c_iterator_32c93
set_option maxRecDepth 20000 in
theorem ggX5_waiting_Jx35411_hasNext_aae02 : GoodIn wsX5_waiting wsJx35411_hasNext_aae02 := goodIn_r _ [25, 26, 14, 47, 48, 49, 50, 51, 52, 53] (by decide +kernel) (by decide +kernel)
set_option maxRecDepth 20000 in
theorem gX5_waiting_Jx35411_hasNext_aae02_f55Jx35411 : GoodIn wsX5_waiting (va_wsF RX5 55 RJx35411 ⟨"java/util/Iterator", "hasNext", "()Z"⟩ yJx35411_hasNext_aae02 wsJx35411_hasNext_aae02) := goodIn_app (goodIn_of _ (by decide +kernel)) ggX5_waiting_Jx35411_hasNext_aae02
set_option maxRecDepth 20000 in
theorem ggX5_waiting_Jx35411_next_0502b : GoodIn wsX5_waiting wsJx35411_next_0502b := goodIn_r _ [30, 26, 14, 31, 18, 32, 33, 34, 10, 35, 19, 20, 21, 47, 48, 49, 50, 51, 52, 53] (by decide +kernel) (by decide +kernel)
set_option maxRecDepth 20000 in
theorem gX5_waiting_Jx35411_next_0502b_f61Jx35411 : GoodIn wsX5_waiting (va_wsF RX5 61 RJx35411 ⟨"java/util/Iterator", "next", "()Ljava/lang/Object;"⟩ yJx35411_next_0502b wsJx35411_next_0502b) := goodIn_app (goodIn_of _ (by decide +kernel)) ggX5_waiting_Jx35411_next_0502b
theorem dX5_waiting_0 : decode cX5_waiting 0 = .ok (.iconst 0, 1) := by decide +kernel
theorem dX5_waiting_1 : decode cX5_waiting 1 = .ok (.istore_n 1, 1) := by decide +kernel
theorem dX5_waiting_2 : decode cX5_waiting 2 = .ok (.aload_n 0, 1) := by decide +kernel
theorem dX5_waiting_3 : decode cX5_waiting 3 = .ok (.getfield 10, 3) := by decide +kernel
theorem dX5_waiting_6 : decode cX5_waiting 6 = .ok (.invokeinterface 51 1, 5) := by decide +kernel
theorem dX5_waiting_11 : decode cX5_waiting 11 = .ok (.astore_n 2, 1) := by decide +kernel
theorem dX5_waiting_12 : decode cX5_waiting 12 = .ok (.aload_n 2, 1) := by decide +kernel
theorem dX5_waiting_13 : decode cX5_waiting 13 = .ok (.invokeinterface 55 1, 5) := by decide +kernel
theorem dX5_waiting_18 : decode cX5_waiting 18 = .ok (.ifCond .eq 31, 3) := by decide +kernel
theorem dX5_waiting_21 : decode cX5_waiting 21 = .ok (.aload_n 2, 1) := by decide +kernel
theorem dX5_waiting_22 : decode cX5_waiting 22 = .ok (.invokeinterface 61 1, 5) := by decide +kernel
theorem dX5_waiting_27 : decode cX5_waiting 27 = .ok (.checkcast 34, 3) := by decide +kernel
theorem dX5_waiting_30 : decode cX5_waiting 30 = .ok (.astore_n 3, 1) := by decide +kernel
theorem dX5_waiting_31 : decode cX5_waiting 31 = .ok (.iload_n 1, 1) := by decide +kernel
theorem dX5_waiting_32 : decode cX5_waiting 32 = .ok (.aload_n 3, 1) := by decide +kernel
theorem dX5_waiting_33 : decode cX5_waiting 33 = .ok (.getfield 65, 3) := by decide +kernel
theorem dX5_waiting_36 : decode cX5_waiting 36 = .ok (.ifCond .eq 7, 3) := by decide +kernel
theorem dX5_waiting_39 : decode cX5_waiting 39 = .ok (.iconst 1, 1) := by decide +kernel
theorem dX5_waiting_40 : decode cX5_waiting 40 = .ok (.goto 4, 3) := by decide +kernel
theorem dX5_waiting_43 : decode cX5_waiting 43 = .ok (.iconst 0, 1) := by decide +kernel
theorem dX5_waiting_44 : decode cX5_waiting 44 = .ok (.iadd, 1) := by decide +kernel
theorem dX5_waiting_45 : decode cX5_waiting 45 = .ok (.istore_n 1, 1) := by decide +kernel
theorem dX5_waiting_46 : decode cX5_waiting 46 = .ok (.goto (-34), 3) := by decide +kernel
theorem dX5_waiting_49 : decode cX5_waiting 49 = .ok (.iload_n 1, 1) := by decide +kernel
theorem dX5_waiting_50 : decode cX5_waiting 50 = .ok (.ireturn, 1) := by decide +kernel
set_option maxRecDepth 20000 in
theorem ggX5_set_Jx4a65c_get_915e3 : GoodIn wsX5_set wsJx4a65c_get_915e3 := goodIn_r _ [13, 14, 15, 16, 17, 18, 19, 20, 21, 22, 23, 24, 25, 12, 26, 27, 95, 96, 97] (by decide +kernel) (by decide +kernel)
set_option maxRecDepth 20000 in
theorem gX5_set_Jx4a65c_get_915e3_f30Jx4a65c : GoodIn wsX5_set (va_wsF RX5 30 RJx4a65c ⟨"java/util/List", "get", "(I)Ljava/lang/Object;"⟩ yJx4a65c_get_915e3 wsJx4a65c_get_915e3) := goodIn_app (goodIn_of _ (by decide +kernel)) ggX5_set_Jx4a65c_get_915e3
set_option maxRecDepth 20000 in
theorem ggX5_set_Jx4a65c_size_8abf5 : GoodIn wsX5_set wsJx4a65c_size_8abf5 := goodIn_r _ [31, 14, 95, 96, 97] (by decide +kernel) (by decide +kernel)
set_option maxRecDepth 20000 in
theorem gX5_set_Jx4a65c_size_8abf5_f24Jx4a65c : GoodIn wsX5_set (va_wsF RX5 24 RJx4a65c ⟨"java/util/List", "size", "()I"⟩ yJx4a65c_size_8abf5 wsJx4a65c_size_8abf5) := goodIn_app (goodIn_of _ (by decide +kernel)) ggX5_set_Jx4a65c_size_8abf5
set_option maxRecDepth 20000 in
theorem ggX5_set_X5_write : GoodIn wsX5_set wsX5_write := goodIn_r _ [36, 37, 38, 39, 40, 41, 35, 42, 1, 2, 9, 10, 11, 12, 13, 14, 15, 16, 17, 18, 19, 20, 21, 22, 23, 24, 25, 26, 27, 84, 85, 86, 87, 88, 89, 90, 91, 92, 93, 94, 95, 96, 97] (by decide +kernel) (by decide +kernel)
set_option maxRecDepth 20000 in
theorem gX5_set_X5_write : GoodIn wsX5_set (wsV RX5 47 RX5 yX5_write wsX5_write) := goodIn_app (goodIn_of _ (by decide +kernel)) ggX5_set_X5_write
set_option maxRecDepth 20000 in
theorem ggX5_set_X5_waiting : GoodIn wsX5_set wsX5_waiting := goodIn_r _ [46, 1, 2, 47, 48, 49, 12, 50, 51, 52, 53, 54, 55, 56, 57, 58, 59, 60, 61, 62, 63, 64, 65, 66, 67, 68, 69, 70, 71, 72, 73, 74, 75, 76, 77, 78, 84, 85, 86, 87, 88, 89, 90, 91, 92, 93, 94, 98, 99, 100, 101, 95, 96, 97] (by decide +kernel) (by decide +kernel)
set_option maxRecDepth 20000 in
theorem gX5_set_X5_waiting : GoodIn wsX5_set (wsV RX5 81 RX5 yX5_waiting wsX5_waiting) := goodIn_app (goodIn_of _ (by decide +kernel)) ggX5_set_X5_waiting
set_option maxRecDepth 20000 in
theorem ggX5_set_X5_build : GoodIn wsX5_set wsX5_build := goodIn_r _ [82, 1, 2, 83, 28, 29, 30, 12, 31, 14, 32, 33, 34, 35, 36, 37, 38, 39, 40, 41, 42, 9, 10, 11, 13, 15, 16, 17, 18, 19, 20, 21, 22, 23, 24, 25, 26, 27, 47, 48, 49, 50, 51, 52, 53, 54, 55, 56, 57, 58, 59, 60, 61, 62, 63, 64, 65, 66, 67, 68, 69, 70, 71, 72, 73, 74, 75, 76, 77, 78, 84, 85, 86, 87, 88, 89, 90, 91, 92, 93, 94, 95, 96, 97, 98, 99, 100, 101] (by decide +kernel) (by decide +kernel)
set_option maxRecDepth 20000 in
theorem gX5_set_X5_build : GoodIn wsX5_set (wsV RX5 87 RX5 yX5_build wsX5_build) := goodIn_app (goodIn_of _ (by decide +kernel)) ggX5_set_X5_build
theorem dX5_set_0 : decode cX5_set 0 = .ok (.aload_n 0, 1) := by decide +kernel
theorem dX5_set_1 : decode cX5_set 1 = .ok (.getfield 10, 3) := by decide +kernel
theorem dX5_set_4 : decode cX5_set 4 = .ok (.iload_n 1, 1) := by decide +kernel
theorem dX5_set_5 : decode cX5_set 5 = .ok (.invokeinterface 30 2, 5) := by decide +kernel
theorem dX5_set_10 : decode cX5_set 10 = .ok (.checkcast 34, 3) := by decide +kernel
theorem dX5_set_13 : decode cX5_set 13 = .ok (.getfield 36, 3) := by decide +kernel
theorem dX5_set_16 : decode cX5_set 16 = .ok (.istore_n 3, 1) := by decide +kernel
theorem dX5_set_17 : decode cX5_set 17 = .ok (.aload_n 0, 1) := by decide +kernel
theorem dX5_set_18 : decode cX5_set 18 = .ok (.getfield 10, 3) := by decide +kernel
theorem dX5_set_21 : decode cX5_set 21 = .ok (.iload_n 1, 1) := by decide +kernel
theorem dX5_set_22 : decode cX5_set 22 = .ok (.invokeinterface 30 2, 5) := by decide +kernel
theorem dX5_set_27 : decode cX5_set 27 = .ok (.checkcast 34, 3) := by decide +kernel
theorem dX5_set_30 : decode cX5_set 30 = .ok (.iload_n 2, 1) := by decide +kernel
theorem dX5_set_31 : decode cX5_set 31 = .ok (.putfield 36, 3) := by decide +kernel
theorem dX5_set_34 : decode cX5_set 34 = .ok (.aload_n 0, 1) := by decide +kernel
theorem dX5_set_35 : decode cX5_set 35 = .ok (.getfield 72, 3) := by decide +kernel
theorem dX5_set_38 : decode cX5_set 38 = .ok (.iconst 1, 1) := by decide +kernel
theorem dX5_set_39 : decode cX5_set 39 = .ok (.if_icmp .ne 86, 3) := by decide +kernel
theorem dX5_set_42 : decode cX5_set 42 = .ok (.iconst 2, 1) := by decide +kernel
theorem dX5_set_43 : decode cX5_set 43 = .ok (.istore 4, 2) := by decide +kernel
theorem dX5_set_45 : decode cX5_set 45 = .ok (.iconst 1, 1) := by decide +kernel
theorem dX5_set_46 : decode cX5_set 46 = .ok (.istore 5, 2) := by decide +kernel
theorem dX5_set_48 : decode cX5_set 48 = .ok (.iload 4, 2) := by decide +kernel
theorem dX5_set_50 : decode cX5_set 50 = .ok (.aload_n 0, 1) := by decide +kernel
theorem dX5_set_51 : decode cX5_set 51 = .ok (.getfield 10, 3) := by decide +kernel
theorem dX5_set_54 : decode cX5_set 54 = .ok (.invokeinterface 24 1, 5) := by decide +kernel
theorem dX5_set_59 : decode cX5_set 59 = .ok (.if_icmp .gt 64, 3) := by decide +kernel
theorem dX5_set_62 : decode cX5_set 62 = .ok (.iconst 0, 1) := by decide +kernel
theorem dX5_set_63 : decode cX5_set 63 = .ok (.iload_n 1, 1) := by decide +kernel
theorem dX5_set_64 : decode cX5_set 64 = .ok (.iload 4, 2) := by decide +kernel
theorem dX5_set_66 : decode cX5_set 66 = .ok (.isub, 1) := by decide +kernel
theorem dX5_set_67 : decode cX5_set 67 = .ok (.iconst 1, 1) := by decide +kernel
theorem dX5_set_68 : decode cX5_set 68 = .ok (.iadd, 1) := by decide +kernel
theorem dX5_set_69 : decode cX5_set 69 = .ok (.invokestatic 75, 3) := by decide +kernel
theorem dX5_set_72 : decode cX5_set 72 = .ok (.istore 6, 2) := by decide +kernel
theorem dX5_set_74 : decode cX5_set 74 = .ok (.iload 6, 2) := by decide +kernel
theorem dX5_set_76 : decode cX5_set 76 = .ok (.iload_n 1, 1) := by decide +kernel
theorem dX5_set_77 : decode cX5_set 77 = .ok (.if_icmp .gt 34, 3) := by decide +kernel
theorem dX5_set_80 : decode cX5_set 80 = .ok (.iload 6, 2) := by decide +kernel
theorem dX5_set_82 : decode cX5_set 82 = .ok (.iload 4, 2) := by decide +kernel
theorem dX5_set_84 : decode cX5_set 84 = .ok (.iadd, 1) := by decide +kernel
theorem dX5_set_85 : decode cX5_set 85 = .ok (.aload_n 0, 1) := by decide +kernel
theorem dX5_set_86 : decode cX5_set 86 = .ok (.getfield 10, 3) := by decide +kernel
theorem dX5_set_89 : decode cX5_set 89 = .ok (.invokeinterface 24 1, 5) := by decide +kernel
theorem dX5_set_94 : decode cX5_set 94 = .ok (.if_icmp .gt 17, 3) := by decide +kernel
theorem dX5_set_97 : decode cX5_set 97 = .ok (.aload_n 0, 1) := by decide +kernel
theorem dX5_set_98 : decode cX5_set 98 = .ok (.iload 5, 2) := by decide +kernel
theorem dX5_set_100 : decode cX5_set 100 = .ok (.iload 6, 2) := by decide +kernel
theorem dX5_set_102 : decode cX5_set 102 = .ok (.invokevirtual 47, 3) := by decide +kernel
theorem dX5_set_105 : decode cX5_set 105 = .ok (.iinc 6 1, 3) := by decide +kernel
theorem dX5_set_108 : decode cX5_set 108 = .ok (.goto (-34), 3) := by decide +kernel
theorem dX5_set_111 : decode cX5_set 111 = .ok (.iload 4, 2) := by decide +kernel
theorem dX5_set_113 : decode cX5_set 113 = .ok (.iconst 2, 1) := by decide +kernel
theorem dX5_set_114 : decode cX5_set 114 = .ok (.imul, 1) := by decide +kernel
theorem dX5_set_115 : decode cX5_set 115 = .ok (.istore 4, 2) := by decide +kernel
theorem dX5_set_117 : decode cX5_set 117 = .ok (.iinc 5 1, 3) := by decide +kernel
theorem dX5_set_120 : decode cX5_set 120 = .ok (.goto (-72), 3) := by decide +kernel
theorem dX5_set_123 : decode cX5_set 123 = .ok (.iload_n 3, 1) := by decide +kernel
theorem dX5_set_124 : decode cX5_set 124 = .ok (.ireturn, 1) := by decide +kernel
theorem dX5_set_125 : decode cX5_set 125 = .ok (.aload_n 0, 1) := by decide +kernel
theorem dX5_set_126 : decode cX5_set 126 = .ok (.getfield 10, 3) := by decide +kernel
theorem dX5_set_129 : decode cX5_set 129 = .ok (.iload_n 1, 1) := by decide +kernel
theorem dX5_set_130 : decode cX5_set 130 = .ok (.invokeinterface 30 2, 5) := by decide +kernel
theorem dX5_set_135 : decode cX5_set 135 = .ok (.checkcast 34, 3) := by decide +kernel
theorem dX5_set_138 : decode cX5_set 138 = .ok (.iconst 1, 1) := by decide +kernel
theorem dX5_set_139 : decode cX5_set 139 = .ok (.putfield 65, 3) := by decide +kernel
theorem dX5_set_142 : decode cX5_set 142 = .ok (.aload_n 0, 1) := by decide +kernel
theorem dX5_set_143 : decode cX5_set 143 = .ok (.getfield 72, 3) := by decide +kernel
theorem dX5_set_146 : decode cX5_set 146 = .ok (.iconst 2, 1) := by decide +kernel
theorem dX5_set_147 : decode cX5_set 147 = .ok (.if_icmp .ne 18, 3) := by decide +kernel
theorem dX5_set_150 : decode cX5_set 150 = .ok (.aload_n 0, 1) := by decide +kernel
theorem dX5_set_151 : decode cX5_set 151 = .ok (.invokevirtual 81, 3) := by decide +kernel
theorem dX5_set_154 : decode cX5_set 154 = .ok (.aload_n 0, 1) := by decide +kernel
theorem dX5_set_155 : decode cX5_set 155 = .ok (.getfield 84, 3) := by decide +kernel
theorem dX5_set_158 : decode cX5_set 158 = .ok (.if_icmp .le 7, 3) := by decide +kernel
theorem dX5_set_161 : decode cX5_set 161 = .ok (.aload_n 0, 1) := by decide +kernel
theorem dX5_set_162 : decode cX5_set 162 = .ok (.invokevirtual 87, 3) := by decide +kernel
theorem dX5_set_165 : decode cX5_set 165 = .ok (.iload_n 3, 1) := by decide +kernel
theorem dX5_set_166 : decode cX5_set 166 = .ok (.ireturn, 1) := by decide +kernel
set_option maxRecDepth 20000 in
theorem ggX5_ask_X5_waiting : GoodIn wsX5_ask wsX5_waiting := goodIn_r _ [11, 3, 4, 12, 13, 14, 15, 16, 17, 18, 19, 20, 21, 22, 23, 24, 25, 26, 27, 28, 29, 30, 31, 32, 33, 34, 35, 36, 37, 38, 39, 40, 41, 42, 43, 44, 85, 86, 87, 88, 89, 90, 91, 92, 93, 94, 95, 96, 97, 98, 99, 100, 101, 102] (by decide +kernel) (by decide +kernel)
set_option maxRecDepth 20000 in
theorem gX5_ask_X5_waiting : GoodIn wsX5_ask (wsV RX5 81 RX5 yX5_waiting wsX5_waiting) := goodIn_app (goodIn_of _ (by decide +kernel)) ggX5_ask_X5_waiting
set_option maxRecDepth 20000 in
theorem ggX5_ask_X5_build : GoodIn wsX5_ask wsX5_build := goodIn_r _ [48, 3, 4, 49, 50, 51, 52, 15, 53, 54, 55, 56, 57, 10, 58, 5, 59, 60, 61, 62, 63, 64, 65, 66, 67, 68, 69, 70, 71, 72, 73, 74, 75, 76, 77, 78, 79, 80, 12, 13, 14, 16, 17, 18, 19, 20, 21, 22, 23, 24, 25, 26, 27, 28, 29, 30, 31, 32, 33, 34, 35, 36, 37, 38, 39, 40, 41, 42, 43, 44, 85, 86, 87, 88, 89, 90, 91, 92, 93, 94, 95, 100, 101, 102, 96, 97, 98, 99] (by decide +kernel) (by decide +kernel)
set_option maxRecDepth 20000 in
theorem gX5_ask_X5_build : GoodIn wsX5_ask (wsV RX5 87 RX5 yX5_build wsX5_build) := goodIn_app (goodIn_of _ (by decide +kernel)) ggX5_ask_X5_build
set_option maxRecDepth 20000 in
theorem ggX5_ask_Jx4a65c_get_915e3 : GoodIn wsX5_ask wsJx4a65c_get_915e3 := goodIn_r _ [67, 54, 68, 69, 70, 71, 72, 73, 74, 75, 76, 77, 78, 15, 79, 80, 100, 101, 102] (by decide +kernel) (by decide +kernel)
set_option maxRecDepth 20000 in
theorem gX5_ask_Jx4a65c_get_915e3_f30Jx4a65c : GoodIn wsX5_ask (va_wsF RX5 30 RJx4a65c ⟨"java/util/List", "get", "(I)Ljava/lang/Object;"⟩ yJx4a65c_get_915e3 wsJx4a65c_get_915e3) := goodIn_app (goodIn_of _ (by decide +kernel)) ggX5_ask_Jx4a65c_get_915e3
set_option maxRecDepth 20000 in
theorem ggX5_ask_X5_placeOf : GoodIn wsX5_ask wsX5_placeOf := goodIn_r _ [84, 3, 50, 51, 52, 15, 53, 54, 64, 65, 66, 67, 68, 69, 70, 71, 72, 73, 74, 75, 76, 77, 78, 79, 80, 85, 86, 87, 88, 89, 90, 91, 92, 93, 100, 101, 102] (by decide +kernel) (by decide +kernel)
set_option maxRecDepth 20000 in
theorem gX5_ask_X5_placeOf : GoodIn wsX5_ask (wsV RX5 96 RX5 yX5_placeOf wsX5_placeOf) := goodIn_app (goodIn_of _ (by decide +kernel)) ggX5_ask_X5_placeOf
theorem dX5_ask_0 : decode cX5_ask 0 = .ok (.aload_n 0, 1) := by decide +kernel
theorem dX5_ask_1 : decode cX5_ask 1 = .ok (.getfield 72, 3) := by decide +kernel
theorem dX5_ask_4 : decode cX5_ask 4 = .ok (.ifCond .ne 14, 3) := by decide +kernel
theorem dX5_ask_7 : decode cX5_ask 7 = .ok (.aload_n 0, 1) := by decide +kernel
theorem dX5_ask_8 : decode cX5_ask 8 = .ok (.invokevirtual 81, 3) := by decide +kernel
theorem dX5_ask_11 : decode cX5_ask 11 = .ok (.ifCond .le 7, 3) := by decide +kernel
theorem dX5_ask_14 : decode cX5_ask 14 = .ok (.aload_n 0, 1) := by decide +kernel
theorem dX5_ask_15 : decode cX5_ask 15 = .ok (.invokevirtual 87, 3) := by decide +kernel
theorem dX5_ask_18 : decode cX5_ask 18 = .ok (.aload_n 0, 1) := by decide +kernel
theorem dX5_ask_19 : decode cX5_ask 19 = .ok (.dup, 1) := by decide +kernel
theorem dX5_ask_20 : decode cX5_ask 20 = .ok (.getfield 90, 3) := by decide +kernel
theorem dX5_ask_23 : decode cX5_ask 23 = .ok (.iconst 1, 1) := by decide +kernel
theorem dX5_ask_24 : decode cX5_ask 24 = .ok (.iadd, 1) := by decide +kernel
theorem dX5_ask_25 : decode cX5_ask 25 = .ok (.putfield 90, 3) := by decide +kernel
theorem dX5_ask_28 : decode cX5_ask 28 = .ok (.aconst_null, 1) := by decide +kernel
theorem dX5_ask_29 : decode cX5_ask 29 = .ok (.astore_n 3, 1) := by decide +kernel
theorem dX5_ask_30 : decode cX5_ask 30 = .ok (.iload_n 1, 1) := by decide +kernel
theorem dX5_ask_31 : decode cX5_ask 31 = .ok (.istore 4, 2) := by decide +kernel
theorem dX5_ask_33 : decode cX5_ask 33 = .ok (.iload 4, 2) := by decide +kernel
theorem dX5_ask_35 : decode cX5_ask 35 = .ok (.iload_n 2, 1) := by decide +kernel
theorem dX5_ask_36 : decode cX5_ask 36 = .ok (.if_icmp .gt 235, 3) := by decide +kernel
theorem dX5_ask_39 : decode cX5_ask 39 = .ok (.iload 4, 2) := by decide +kernel
theorem dX5_ask_41 : decode cX5_ask 41 = .ok (.istore 5, 2) := by decide +kernel
theorem dX5_ask_43 : decode cX5_ask 43 = .ok (.aload_n 0, 1) := by decide +kernel
theorem dX5_ask_44 : decode cX5_ask 44 = .ok (.getfield 10, 3) := by decide +kernel
theorem dX5_ask_47 : decode cX5_ask 47 = .ok (.iload 4, 2) := by decide +kernel
theorem dX5_ask_49 : decode cX5_ask 49 = .ok (.invokeinterface 30 2, 5) := by decide +kernel
theorem dX5_ask_54 : decode cX5_ask 54 = .ok (.checkcast 34, 3) := by decide +kernel
theorem dX5_ask_57 : decode cX5_ask 57 = .ok (.getfield 65, 3) := by decide +kernel
theorem dX5_ask_60 : decode cX5_ask 60 = .ok (.ifCond .ne 37, 3) := by decide +kernel
theorem dX5_ask_63 : decode cX5_ask 63 = .ok (.iload 5, 2) := by decide +kernel
theorem dX5_ask_65 : decode cX5_ask 65 = .ok (.iload_n 2, 1) := by decide +kernel
theorem dX5_ask_66 : decode cX5_ask 66 = .ok (.if_icmp .ge 31, 3) := by decide +kernel
theorem dX5_ask_69 : decode cX5_ask 69 = .ok (.aload_n 0, 1) := by decide +kernel
theorem dX5_ask_70 : decode cX5_ask 70 = .ok (.getfield 10, 3) := by decide +kernel
theorem dX5_ask_73 : decode cX5_ask 73 = .ok (.iload 5, 2) := by decide +kernel
theorem dX5_ask_75 : decode cX5_ask 75 = .ok (.iconst 1, 1) := by decide +kernel
theorem dX5_ask_76 : decode cX5_ask 76 = .ok (.iadd, 1) := by decide +kernel
theorem dX5_ask_77 : decode cX5_ask 77 = .ok (.invokeinterface 30 2, 5) := by decide +kernel
theorem dX5_ask_82 : decode cX5_ask 82 = .ok (.checkcast 34, 3) := by decide +kernel
theorem dX5_ask_85 : decode cX5_ask 85 = .ok (.getfield 65, 3) := by decide +kernel
theorem dX5_ask_88 : decode cX5_ask 88 = .ok (.ifCond .ne 9, 3) := by decide +kernel
theorem dX5_ask_91 : decode cX5_ask 91 = .ok (.iinc 5 1, 3) := by decide +kernel
theorem dX5_ask_94 : decode cX5_ask 94 = .ok (.goto (-31), 3) := by decide +kernel
theorem dX5_ask_97 : decode cX5_ask 97 = .ok (.iconst 0, 1) := by decide +kernel
theorem dX5_ask_98 : decode cX5_ask 98 = .ok (.istore 6, 2) := by decide +kernel
theorem dX5_ask_100 : decode cX5_ask 100 = .ok (.iconst 1, 1) := by decide +kernel
theorem dX5_ask_101 : decode cX5_ask 101 = .ok (.istore 7, 2) := by decide +kernel
theorem dX5_ask_103 : decode cX5_ask 103 = .ok (.iconst 2, 1) := by decide +kernel
theorem dX5_ask_104 : decode cX5_ask 104 = .ok (.iload 7, 2) := by decide +kernel
theorem dX5_ask_106 : decode cX5_ask 106 = .ok (.imul, 1) := by decide +kernel
theorem dX5_ask_107 : decode cX5_ask 107 = .ok (.iload 5, 2) := by decide +kernel
theorem dX5_ask_109 : decode cX5_ask 109 = .ok (.iload 4, 2) := by decide +kernel
theorem dX5_ask_111 : decode cX5_ask 111 = .ok (.isub, 1) := by decide +kernel
theorem dX5_ask_112 : decode cX5_ask 112 = .ok (.iconst 1, 1) := by decide +kernel
theorem dX5_ask_113 : decode cX5_ask 113 = .ok (.iadd, 1) := by decide +kernel
theorem dX5_ask_114 : decode cX5_ask 114 = .ok (.if_icmp .gt 15, 3) := by decide +kernel
theorem dX5_ask_117 : decode cX5_ask 117 = .ok (.iload 7, 2) := by decide +kernel
theorem dX5_ask_119 : decode cX5_ask 119 = .ok (.iconst 2, 1) := by decide +kernel
theorem dX5_ask_120 : decode cX5_ask 120 = .ok (.imul, 1) := by decide +kernel
theorem dX5_ask_121 : decode cX5_ask 121 = .ok (.istore 7, 2) := by decide +kernel
theorem dX5_ask_123 : decode cX5_ask 123 = .ok (.iinc 6 1, 3) := by decide +kernel
theorem dX5_ask_126 : decode cX5_ask 126 = .ok (.goto (-23), 3) := by decide +kernel
theorem dX5_ask_129 : decode cX5_ask 129 = .ok (.iload 6, 2) := by decide +kernel
theorem dX5_ask_131 : decode cX5_ask 131 = .ok (.ifCond .ne 20, 3) := by decide +kernel
theorem dX5_ask_134 : decode cX5_ask 134 = .ok (.aload_n 0, 1) := by decide +kernel
theorem dX5_ask_135 : decode cX5_ask 135 = .ok (.getfield 10, 3) := by decide +kernel
theorem dX5_ask_138 : decode cX5_ask 138 = .ok (.iload 4, 2) := by decide +kernel
theorem dX5_ask_140 : decode cX5_ask 140 = .ok (.invokeinterface 30 2, 5) := by decide +kernel
theorem dX5_ask_145 : decode cX5_ask 145 = .ok (.checkcast 34, 3) := by decide +kernel
theorem dX5_ask_148 : decode cX5_ask 148 = .ok (.goto 13, 3) := by decide +kernel
theorem dX5_ask_151 : decode cX5_ask 151 = .ok (.aload_n 0, 1) := by decide +kernel
theorem dX5_ask_152 : decode cX5_ask 152 = .ok (.getfield 21, 3) := by decide +kernel
theorem dX5_ask_155 : decode cX5_ask 155 = .ok (.iload 6, 2) := by decide +kernel
theorem dX5_ask_157 : decode cX5_ask 157 = .ok (.aaload, 1) := by decide +kernel
theorem dX5_ask_158 : decode cX5_ask 158 = .ok (.iload 4, 2) := by decide +kernel
theorem dX5_ask_160 : decode cX5_ask 160 = .ok (.aaload, 1) := by decide +kernel
theorem dX5_ask_161 : decode cX5_ask 161 = .ok (.astore 8, 2) := by decide +kernel
theorem dX5_ask_163 : decode cX5_ask 163 = .ok (.iload 6, 2) := by decide +kernel
theorem dX5_ask_165 : decode cX5_ask 165 = .ok (.ifCond .ne 20, 3) := by decide +kernel
theorem dX5_ask_168 : decode cX5_ask 168 = .ok (.aload_n 0, 1) := by decide +kernel
theorem dX5_ask_169 : decode cX5_ask 169 = .ok (.getfield 10, 3) := by decide +kernel
theorem dX5_ask_172 : decode cX5_ask 172 = .ok (.iload 5, 2) := by decide +kernel
theorem dX5_ask_174 : decode cX5_ask 174 = .ok (.invokeinterface 30 2, 5) := by decide +kernel
theorem dX5_ask_179 : decode cX5_ask 179 = .ok (.checkcast 34, 3) := by decide +kernel
theorem dX5_ask_182 : decode cX5_ask 182 = .ok (.goto 18, 3) := by decide +kernel
theorem dX5_ask_185 : decode cX5_ask 185 = .ok (.aload_n 0, 1) := by decide +kernel
theorem dX5_ask_186 : decode cX5_ask 186 = .ok (.getfield 21, 3) := by decide +kernel
theorem dX5_ask_189 : decode cX5_ask 189 = .ok (.iload 6, 2) := by decide +kernel
theorem dX5_ask_191 : decode cX5_ask 191 = .ok (.aaload, 1) := by decide +kernel
theorem dX5_ask_192 : decode cX5_ask 192 = .ok (.iload 5, 2) := by decide +kernel
theorem dX5_ask_194 : decode cX5_ask 194 = .ok (.iload 7, 2) := by decide +kernel
theorem dX5_ask_196 : decode cX5_ask 196 = .ok (.isub, 1) := by decide +kernel
theorem dX5_ask_197 : decode cX5_ask 197 = .ok (.iconst 1, 1) := by decide +kernel
theorem dX5_ask_198 : decode cX5_ask 198 = .ok (.iadd, 1) := by decide +kernel
theorem dX5_ask_199 : decode cX5_ask 199 = .ok (.aaload, 1) := by decide +kernel
theorem dX5_ask_200 : decode cX5_ask 200 = .ok (.astore 9, 2) := by decide +kernel
theorem dX5_ask_202 : decode cX5_ask 202 = .ok (.aload_n 0, 1) := by decide +kernel
theorem dX5_ask_203 : decode cX5_ask 203 = .ok (.dup, 1) := by decide +kernel
theorem dX5_ask_204 : decode cX5_ask 204 = .ok (.getfield 93, 3) := by decide +kernel
theorem dX5_ask_207 : decode cX5_ask 207 = .ok (.iload 7, 2) := by decide +kernel
theorem dX5_ask_209 : decode cX5_ask 209 = .ok (.iload 5, 2) := by decide +kernel
theorem dX5_ask_211 : decode cX5_ask 211 = .ok (.iload 4, 2) := by decide +kernel
theorem dX5_ask_213 : decode cX5_ask 213 = .ok (.isub, 1) := by decide +kernel
theorem dX5_ask_214 : decode cX5_ask 214 = .ok (.iconst 1, 1) := by decide +kernel
theorem dX5_ask_215 : decode cX5_ask 215 = .ok (.iadd, 1) := by decide +kernel
theorem dX5_ask_216 : decode cX5_ask 216 = .ok (.if_icmp .ne 7, 3) := by decide +kernel
theorem dX5_ask_219 : decode cX5_ask 219 = .ok (.iconst 1, 1) := by decide +kernel
theorem dX5_ask_220 : decode cX5_ask 220 = .ok (.goto 4, 3) := by decide +kernel
theorem dX5_ask_223 : decode cX5_ask 223 = .ok (.iconst 2, 1) := by decide +kernel
theorem dX5_ask_224 : decode cX5_ask 224 = .ok (.iadd, 1) := by decide +kernel
theorem dX5_ask_225 : decode cX5_ask 225 = .ok (.putfield 93, 3) := by decide +kernel
theorem dX5_ask_228 : decode cX5_ask 228 = .ok (.aload_n 3, 1) := by decide +kernel
theorem dX5_ask_229 : decode cX5_ask 229 = .ok (.ifnull 15, 3) := by decide +kernel
theorem dX5_ask_232 : decode cX5_ask 232 = .ok (.aload 8, 2) := by decide +kernel
theorem dX5_ask_234 : decode cX5_ask 234 = .ok (.getfield 36, 3) := by decide +kernel
theorem dX5_ask_237 : decode cX5_ask 237 = .ok (.aload_n 3, 1) := by decide +kernel
theorem dX5_ask_238 : decode cX5_ask 238 = .ok (.getfield 36, 3) := by decide +kernel
theorem dX5_ask_241 : decode cX5_ask 241 = .ok (.if_icmp .ge 6, 3) := by decide +kernel
theorem dX5_ask_244 : decode cX5_ask 244 = .ok (.aload 8, 2) := by decide +kernel
theorem dX5_ask_246 : decode cX5_ask 246 = .ok (.astore_n 3, 1) := by decide +kernel
theorem dX5_ask_247 : decode cX5_ask 247 = .ok (.aload 9, 2) := by decide +kernel
theorem dX5_ask_249 : decode cX5_ask 249 = .ok (.getfield 36, 3) := by decide +kernel
theorem dX5_ask_252 : decode cX5_ask 252 = .ok (.aload_n 3, 1) := by decide +kernel
theorem dX5_ask_253 : decode cX5_ask 253 = .ok (.getfield 36, 3) := by decide +kernel
theorem dX5_ask_256 : decode cX5_ask 256 = .ok (.if_icmp .ge 6, 3) := by decide +kernel
theorem dX5_ask_259 : decode cX5_ask 259 = .ok (.aload 9, 2) := by decide +kernel
theorem dX5_ask_261 : decode cX5_ask 261 = .ok (.astore_n 3, 1) := by decide +kernel
theorem dX5_ask_262 : decode cX5_ask 262 = .ok (.iload 5, 2) := by decide +kernel
theorem dX5_ask_264 : decode cX5_ask 264 = .ok (.iconst 1, 1) := by decide +kernel
theorem dX5_ask_265 : decode cX5_ask 265 = .ok (.iadd, 1) := by decide +kernel
theorem dX5_ask_266 : decode cX5_ask 266 = .ok (.istore 4, 2) := by decide +kernel
theorem dX5_ask_268 : decode cX5_ask 268 = .ok (.goto (-235), 3) := by decide +kernel
theorem dX5_ask_271 : decode cX5_ask 271 = .ok (.aload_n 0, 1) := by decide +kernel
theorem dX5_ask_272 : decode cX5_ask 272 = .ok (.aload_n 3, 1) := by decide +kernel
theorem dX5_ask_273 : decode cX5_ask 273 = .ok (.invokevirtual 96, 3) := by decide +kernel
theorem dX5_ask_276 : decode cX5_ask 276 = .ok (.ireturn, 1) := by decide +kernel
set_option maxRecDepth 20000 in
theorem ggX5_put_X7_init : GoodIn wsX5_put wsX7_init := goodIn_r _ [7, 8, 9, 10, 11, 135, 136] (by decide +kernel) (by decide +kernel)
set_option maxRecDepth 20000 in
theorem gX5_put_X7_init : GoodIn wsX5_put (wsX7_init) := ggX5_put_X7_init
set_option maxRecDepth 20000 in
theorem ggX5_put_Jx4a65c_add_7a177 : GoodIn wsX5_put wsJx4a65c_add_7a177 := goodIn_r _ [16, 17, 18, 19, 20, 21, 22, 23, 24, 25, 26, 27, 15, 28, 29, 30, 31, 32, 33, 34, 35, 36, 37, 38, 39, 40, 41, 42, 43, 44, 45, 46, 47, 48, 49, 50, 51, 52, 53, 54, 55, 56, 57, 58, 59, 60, 61, 62, 63, 64, 65, 66, 67, 68, 146, 147, 148] (by decide +kernel) (by decide +kernel)
set_option maxRecDepth 20000 in
theorem gX5_put_Jx4a65c_add_7a177_f103Jx4a65c : GoodIn wsX5_put (va_wsF RX5 103 RJx4a65c ⟨"java/util/List", "add", "(ILjava/lang/Object;)V"⟩ yJx4a65c_add_7a177 wsJx4a65c_add_7a177) := goodIn_app (goodIn_of _ (by decide +kernel)) ggX5_put_Jx4a65c_add_7a177
set_option maxRecDepth 20000 in
theorem ggX5_put_X5_build : GoodIn wsX5_put wsX5_build := goodIn_r _ [73, 4, 74, 75, 76, 77, 78, 15, 79, 19, 80, 81, 82, 72, 83, 84, 85, 86, 87, 88, 89, 90, 91, 92, 93, 94, 95, 96, 97, 98, 99, 100, 101, 102, 103, 104, 105, 20, 106, 107, 108, 109, 110, 111, 112, 113, 114, 115, 116, 117, 9, 10, 118, 119, 18, 120, 121, 122, 123, 124, 125, 126, 127, 128, 129, 130, 131, 132, 133, 134, 137, 138, 139, 140, 141, 142, 143, 144, 145, 135, 136, 146, 147, 148, 149, 150, 151, 152] (by decide +kernel) (by decide +kernel)
set_option maxRecDepth 20000 in
theorem gX5_put_X5_build : GoodIn wsX5_put (wsV RX5 87 RX5 yX5_build wsX5_build) := goodIn_app (goodIn_of _ (by decide +kernel)) ggX5_put_X5_build
set_option maxRecDepth 20000 in
theorem ggX5_put_Jx4a65c_size_8abf5 : GoodIn wsX5_put wsJx4a65c_size_8abf5 := goodIn_r _ [79, 19, 146, 147, 148] (by decide +kernel) (by decide +kernel)
set_option maxRecDepth 20000 in
theorem gX5_put_Jx4a65c_size_8abf5_f24Jx4a65c : GoodIn wsX5_put (va_wsF RX5 24 RJx4a65c ⟨"java/util/List", "size", "()I"⟩ yJx4a65c_size_8abf5 wsJx4a65c_size_8abf5) := goodIn_app (goodIn_of _ (by decide +kernel)) ggX5_put_Jx4a65c_size_8abf5
theorem dX5_put_0 : decode cX5_put 0 = .ok (.new 34, 3) := by decide +kernel
theorem dX5_put_3 : decode cX5_put 3 = .ok (.dup, 1) := by decide +kernel
theorem dX5_put_4 : decode cX5_put 4 = .ok (.iload_n 2, 1) := by decide +kernel
theorem dX5_put_5 : decode cX5_put 5 = .ok (.invokespecial 100, 3) := by decide +kernel
theorem dX5_put_8 : decode cX5_put 8 = .ok (.astore_n 3, 1) := by decide +kernel
theorem dX5_put_9 : decode cX5_put 9 = .ok (.aload_n 0, 1) := by decide +kernel
theorem dX5_put_10 : decode cX5_put 10 = .ok (.getfield 10, 3) := by decide +kernel
theorem dX5_put_13 : decode cX5_put 13 = .ok (.iload_n 1, 1) := by decide +kernel
theorem dX5_put_14 : decode cX5_put 14 = .ok (.aload_n 3, 1) := by decide +kernel
theorem dX5_put_15 : decode cX5_put 15 = .ok (.invokeinterface 103 3, 5) := by decide +kernel
theorem dX5_put_20 : decode cX5_put 20 = .ok (.aload_n 0, 1) := by decide +kernel
theorem dX5_put_21 : decode cX5_put 21 = .ok (.invokevirtual 87, 3) := by decide +kernel
theorem dX5_put_24 : decode cX5_put 24 = .ok (.aload_n 0, 1) := by decide +kernel
theorem dX5_put_25 : decode cX5_put 25 = .ok (.getfield 10, 3) := by decide +kernel
theorem dX5_put_28 : decode cX5_put 28 = .ok (.invokeinterface 24 1, 5) := by decide +kernel
theorem dX5_put_33 : decode cX5_put 33 = .ok (.ireturn, 1) := by decide +kernel
set_option maxRecDepth 20000 in
theorem ggX5_take_Jx4a65c_get_915e3 : GoodIn wsX5_take wsJx4a65c_get_915e3 := goodIn_r _ [11, 12, 13, 14, 15, 16, 17, 18, 19, 20, 21, 22, 23, 5, 24, 25, 165, 166, 167] (by decide +kernel) (by decide +kernel)
set_option maxRecDepth 20000 in
theorem gX5_take_Jx4a65c_get_915e3_f30Jx4a65c : GoodIn wsX5_take (va_wsF RX5 30 RJx4a65c ⟨"java/util/List", "get", "(I)Ljava/lang/Object;"⟩ yJx4a65c_get_915e3 wsJx4a65c_get_915e3) := goodIn_app (goodIn_of _ (by decide +kernel)) ggX5_take_Jx4a65c_get_915e3
set_option maxRecDepth 20000 in
theorem ggX5_take_Jx4a65c_init_da8c8 : GoodIn wsX5_take wsJx4a65c_init_da8c8 := goodIn_r _ [28, 29, 25, 30, 31, 32, 33, 34, 35, 36, 37, 38, 39, 40, 41, 165, 166, 167] (by decide +kernel) (by decide +kernel)
set_option maxRecDepth 20000 in
theorem gX5_take_Jx4a65c_init_da8c8 : GoodIn wsX5_take (wsJx4a65c_init_da8c8) := ggX5_take_Jx4a65c_init_da8c8
set_option maxRecDepth 20000 in
theorem ggX5_take_Jx4a65c_iterator_32c93 : GoodIn wsX5_take wsJx4a65c_iterator_32c93 := goodIn_r _ [45, 46, 47, 48, 49, 50, 51, 52, 53, 40, 41, 54, 55, 56, 57, 172, 173, 174, 175, 165, 166, 167] (by decide +kernel) (by decide +kernel)
set_option maxRecDepth 20000 in
theorem gX5_take_Jx4a65c_iterator_32c93_f51Jx4a65c : GoodIn wsX5_take (va_wsF RX5 51 RJx4a65c ⟨"java/util/List", "iterator", "()Ljava/util/Iterator;"⟩ yJx4a65c_iterator_32c93 wsJx4a65c_iterator_32c93) := goodIn_app (goodIn_of _ (by decide +kernel)) ggX5_take_Jx4a65c_iterator_32c93
set_option maxRecDepth 20000 in
theorem ggX5_take_Jx35411_hasNext_aae02 : GoodIn wsX5_take wsJx35411_hasNext_aae02 := goodIn_r _ [61, 62, 52, 172, 173, 174, 175, 165, 166, 167] (by decide +kernel) (by decide +kernel)
set_option maxRecDepth 20000 in
theorem gX5_take_Jx35411_hasNext_aae02_f55Jx35411 : GoodIn wsX5_take (va_wsF RX5 55 RJx35411 ⟨"java/util/Iterator", "hasNext", "()Z"⟩ yJx35411_hasNext_aae02 wsJx35411_hasNext_aae02) := goodIn_app (goodIn_of _ (by decide +kernel)) ggX5_take_Jx35411_hasNext_aae02
set_option maxRecDepth 20000 in
theorem ggX5_take_Jx35411_next_0502b : GoodIn wsX5_take wsJx35411_next_0502b := goodIn_r _ [66, 62, 52, 67, 54, 68, 69, 70, 48, 71, 55, 56, 57, 172, 173, 174, 175, 165, 166, 167] (by decide +kernel) (by decide +kernel)
set_option maxRecDepth 20000 in
theorem gX5_take_Jx35411_next_0502b_f61Jx35411 : GoodIn wsX5_take (va_wsF RX5 61 RJx35411 ⟨"java/util/Iterator", "next", "()Ljava/lang/Object;"⟩ yJx35411_next_0502b wsJx35411_next_0502b) := goodIn_app (goodIn_of _ (by decide +kernel)) ggX5_take_Jx35411_next_0502b
set_option maxRecDepth 20000 in
theorem ggX5_take_Jx4a65c_add_9ea2d : GoodIn wsX5_take wsJx4a65c_add_9ea2d := goodIn_r _ [75, 76, 56, 25, 12, 77, 78, 79, 5, 80, 81, 82, 83, 84, 85, 86, 87, 88, 29, 89, 90, 91, 92, 93, 94, 95, 96, 97, 98, 99, 100, 101, 102, 103, 104, 105, 106, 107, 108, 109, 110, 111, 112, 113, 114, 115, 116, 117, 118, 119, 120, 121, 122, 165, 166, 167] (by decide +kernel) (by decide +kernel)
set_option maxRecDepth 20000 in
theorem gX5_take_Jx4a65c_add_9ea2d_f116Jx4a65c : GoodIn wsX5_take (va_wsF RX5 116 RJx4a65c ⟨"java/util/List", "add", "(Ljava/lang/Object;)Z"⟩ yJx4a65c_add_9ea2d wsJx4a65c_add_9ea2d) := goodIn_app (goodIn_of _ (by decide +kernel)) ggX5_take_Jx4a65c_add_9ea2d
set_option maxRecDepth 20000 in
theorem ggX5_take_Jx4a65c_clear_da8c8 : GoodIn wsX5_take wsJx4a65c_clear_da8c8 := goodIn_r _ [126, 76, 56, 25, 12, 165, 166, 167] (by decide +kernel) (by decide +kernel)
set_option maxRecDepth 20000 in
theorem gX5_take_Jx4a65c_clear_da8c8_f119Jx4a65c : GoodIn wsX5_take (va_wsF RX5 119 RJx4a65c ⟨"java/util/List", "clear", "()V"⟩ yJx4a65c_clear_da8c8 wsJx4a65c_clear_da8c8) := goodIn_app (goodIn_of _ (by decide +kernel)) ggX5_take_Jx4a65c_clear_da8c8
set_option maxRecDepth 20000 in
theorem ggX5_take_Jx4a65c_remove_915e3 : GoodIn wsX5_take wsJx4a65c_remove_915e3 := goodIn_r _ [130, 12, 25, 13, 14, 15, 16, 17, 18, 19, 20, 131, 132, 133, 5, 134, 76, 56, 135, 120, 121, 122, 165, 166, 167] (by decide +kernel) (by decide +kernel)
set_option maxRecDepth 20000 in
theorem gX5_take_Jx4a65c_remove_915e3_f122Jx4a65c : GoodIn wsX5_take (va_wsF RX5 122 RJx4a65c ⟨"java/util/List", "remove", "(I)Ljava/lang/Object;"⟩ yJx4a65c_remove_915e3 wsJx4a65c_remove_915e3) := goodIn_app (goodIn_of _ (by decide +kernel)) ggX5_take_Jx4a65c_remove_915e3
set_option maxRecDepth 20000 in
theorem ggX5_take_X5_build : GoodIn wsX5_take wsX5_build := goodIn_r _ [140, 1, 2, 141, 142, 143, 144, 5, 145, 12, 146, 147, 148, 139, 149, 150, 151, 152, 153, 154, 155, 8, 9, 10, 11, 13, 14, 15, 16, 17, 18, 19, 20, 21, 22, 23, 24, 25, 42, 43, 44, 45, 46, 47, 48, 49, 50, 51, 52, 53, 40, 41, 54, 55, 56, 57, 58, 59, 60, 61, 62, 63, 64, 65, 66, 67, 68, 69, 70, 71, 156, 157, 158, 159, 160, 161, 162, 163, 164, 170, 171, 165, 166, 167, 172, 173, 174, 175] (by decide +kernel) (by decide +kernel)
set_option maxRecDepth 20000 in
theorem gX5_take_X5_build : GoodIn wsX5_take (wsV RX5 87 RX5 yX5_build wsX5_build) := goodIn_app (goodIn_of _ (by decide +kernel)) ggX5_take_X5_build
theorem dX5_take_0 : decode cX5_take 0 = .ok (.aload_n 0, 1) := by decide +kernel
theorem dX5_take_1 : decode cX5_take 1 = .ok (.getfield 10, 3) := by decide +kernel
theorem dX5_take_4 : decode cX5_take 4 = .ok (.iload_n 1, 1) := by decide +kernel
theorem dX5_take_5 : decode cX5_take 5 = .ok (.invokeinterface 30 2, 5) := by decide +kernel
theorem dX5_take_10 : decode cX5_take 10 = .ok (.checkcast 34, 3) := by decide +kernel
theorem dX5_take_13 : decode cX5_take 13 = .ok (.astore_n 2, 1) := by decide +kernel
theorem dX5_take_14 : decode cX5_take 14 = .ok (.new 7, 3) := by decide +kernel
theorem dX5_take_17 : decode cX5_take 17 = .ok (.dup, 1) := by decide +kernel
theorem dX5_take_18 : decode cX5_take 18 = .ok (.invokespecial 9, 3) := by decide +kernel
theorem dX5_take_21 : decode cX5_take 21 = .ok (.astore_n 3, 1) := by decide +kernel
theorem dX5_take_22 : decode cX5_take 22 = .ok (.aload_n 0, 1) := by decide +kernel
theorem dX5_take_23 : decode cX5_take 23 = .ok (.getfield 16, 3) := by decide +kernel
theorem dX5_take_26 : decode cX5_take 26 = .ok (.invokeinterface 51 1, 5) := by decide +kernel
theorem dX5_take_31 : decode cX5_take 31 = .ok (.astore 4, 2) := by decide +kernel
theorem dX5_take_33 : decode cX5_take 33 = .ok (.aload 4, 2) := by decide +kernel
theorem dX5_take_35 : decode cX5_take 35 = .ok (.invokeinterface 55 1, 5) := by decide +kernel
theorem dX5_take_40 : decode cX5_take 40 = .ok (.ifCond .eq 106, 3) := by decide +kernel
theorem dX5_take_43 : decode cX5_take 43 = .ok (.aload 4, 2) := by decide +kernel
theorem dX5_take_45 : decode cX5_take 45 = .ok (.invokeinterface 61 1, 5) := by decide +kernel
theorem dX5_take_50 : decode cX5_take 50 = .ok (.checkcast 107, 3) := by decide +kernel
theorem dX5_take_53 : decode cX5_take 53 = .ok (.astore 5, 2) := by decide +kernel
theorem dX5_take_55 : decode cX5_take 55 = .ok (.aload 5, 2) := by decide +kernel
theorem dX5_take_57 : decode cX5_take 57 = .ok (.getfield 109, 3) := by decide +kernel
theorem dX5_take_60 : decode cX5_take 60 = .ok (.aload_n 2, 1) := by decide +kernel
theorem dX5_take_61 : decode cX5_take 61 = .ok (.if_acmp .ne 15, 3) := by decide +kernel
theorem dX5_take_64 : decode cX5_take 64 = .ok (.aload 5, 2) := by decide +kernel
theorem dX5_take_66 : decode cX5_take 66 = .ok (.getfield 113, 3) := by decide +kernel
theorem dX5_take_69 : decode cX5_take 69 = .ok (.aload_n 2, 1) := by decide +kernel
theorem dX5_take_70 : decode cX5_take 70 = .ok (.if_acmp .ne 6, 3) := by decide +kernel
theorem dX5_take_73 : decode cX5_take 73 = .ok (.goto (-40), 3) := by decide +kernel
theorem dX5_take_76 : decode cX5_take 76 = .ok (.aload 5, 2) := by decide +kernel
theorem dX5_take_78 : decode cX5_take 78 = .ok (.getfield 109, 3) := by decide +kernel
theorem dX5_take_81 : decode cX5_take 81 = .ok (.aload_n 2, 1) := by decide +kernel
theorem dX5_take_82 : decode cX5_take 82 = .ok (.if_acmp .ne 23, 3) := by decide +kernel
theorem dX5_take_85 : decode cX5_take 85 = .ok (.aload 5, 2) := by decide +kernel
theorem dX5_take_87 : decode cX5_take 87 = .ok (.aload_n 0, 1) := by decide +kernel
theorem dX5_take_88 : decode cX5_take 88 = .ok (.getfield 10, 3) := by decide +kernel
theorem dX5_take_91 : decode cX5_take 91 = .ok (.iload_n 1, 1) := by decide +kernel
theorem dX5_take_92 : decode cX5_take 92 = .ok (.iconst 1, 1) := by decide +kernel
theorem dX5_take_93 : decode cX5_take 93 = .ok (.iadd, 1) := by decide +kernel
theorem dX5_take_94 : decode cX5_take 94 = .ok (.invokeinterface 30 2, 5) := by decide +kernel
theorem dX5_take_99 : decode cX5_take 99 = .ok (.checkcast 34, 3) := by decide +kernel
theorem dX5_take_102 : decode cX5_take 102 = .ok (.putfield 109, 3) := by decide +kernel
theorem dX5_take_105 : decode cX5_take 105 = .ok (.aload 5, 2) := by decide +kernel
theorem dX5_take_107 : decode cX5_take 107 = .ok (.getfield 113, 3) := by decide +kernel
theorem dX5_take_110 : decode cX5_take 110 = .ok (.aload_n 2, 1) := by decide +kernel
theorem dX5_take_111 : decode cX5_take 111 = .ok (.if_acmp .ne 23, 3) := by decide +kernel
theorem dX5_take_114 : decode cX5_take 114 = .ok (.aload 5, 2) := by decide +kernel
theorem dX5_take_116 : decode cX5_take 116 = .ok (.aload_n 0, 1) := by decide +kernel
theorem dX5_take_117 : decode cX5_take 117 = .ok (.getfield 10, 3) := by decide +kernel
theorem dX5_take_120 : decode cX5_take 120 = .ok (.iload_n 1, 1) := by decide +kernel
theorem dX5_take_121 : decode cX5_take 121 = .ok (.iconst 1, 1) := by decide +kernel
theorem dX5_take_122 : decode cX5_take 122 = .ok (.isub, 1) := by decide +kernel
theorem dX5_take_123 : decode cX5_take 123 = .ok (.invokeinterface 30 2, 5) := by decide +kernel
theorem dX5_take_128 : decode cX5_take 128 = .ok (.checkcast 34, 3) := by decide +kernel
theorem dX5_take_131 : decode cX5_take 131 = .ok (.putfield 113, 3) := by decide +kernel
theorem dX5_take_134 : decode cX5_take 134 = .ok (.aload_n 3, 1) := by decide +kernel
theorem dX5_take_135 : decode cX5_take 135 = .ok (.aload 5, 2) := by decide +kernel
theorem dX5_take_137 : decode cX5_take 137 = .ok (.invokeinterface 116 2, 5) := by decide +kernel
theorem dX5_take_142 : decode cX5_take 142 = .ok (.pop, 1) := by decide +kernel
theorem dX5_take_143 : decode cX5_take 143 = .ok (.goto (-110), 3) := by decide +kernel
theorem dX5_take_146 : decode cX5_take 146 = .ok (.aload_n 0, 1) := by decide +kernel
theorem dX5_take_147 : decode cX5_take 147 = .ok (.getfield 16, 3) := by decide +kernel
theorem dX5_take_150 : decode cX5_take 150 = .ok (.invokeinterface 119 1, 5) := by decide +kernel
theorem dX5_take_155 : decode cX5_take 155 = .ok (.aload_n 3, 1) := by decide +kernel
theorem dX5_take_156 : decode cX5_take 156 = .ok (.invokeinterface 51 1, 5) := by decide +kernel
theorem dX5_take_161 : decode cX5_take 161 = .ok (.astore 4, 2) := by decide +kernel
theorem dX5_take_163 : decode cX5_take 163 = .ok (.aload 4, 2) := by decide +kernel
theorem dX5_take_165 : decode cX5_take 165 = .ok (.invokeinterface 55 1, 5) := by decide +kernel
theorem dX5_take_170 : decode cX5_take 170 = .ok (.ifCond .eq 30, 3) := by decide +kernel
theorem dX5_take_173 : decode cX5_take 173 = .ok (.aload 4, 2) := by decide +kernel
theorem dX5_take_175 : decode cX5_take 175 = .ok (.invokeinterface 61 1, 5) := by decide +kernel
theorem dX5_take_180 : decode cX5_take 180 = .ok (.checkcast 107, 3) := by decide +kernel
theorem dX5_take_183 : decode cX5_take 183 = .ok (.astore 5, 2) := by decide +kernel
theorem dX5_take_185 : decode cX5_take 185 = .ok (.aload_n 0, 1) := by decide +kernel
theorem dX5_take_186 : decode cX5_take 186 = .ok (.getfield 16, 3) := by decide +kernel
theorem dX5_take_189 : decode cX5_take 189 = .ok (.aload 5, 2) := by decide +kernel
theorem dX5_take_191 : decode cX5_take 191 = .ok (.invokeinterface 116 2, 5) := by decide +kernel
theorem dX5_take_196 : decode cX5_take 196 = .ok (.pop, 1) := by decide +kernel
theorem dX5_take_197 : decode cX5_take 197 = .ok (.goto (-34), 3) := by decide +kernel
theorem dX5_take_200 : decode cX5_take 200 = .ok (.aload_n 0, 1) := by decide +kernel
theorem dX5_take_201 : decode cX5_take 201 = .ok (.getfield 10, 3) := by decide +kernel
theorem dX5_take_204 : decode cX5_take 204 = .ok (.iload_n 1, 1) := by decide +kernel
theorem dX5_take_205 : decode cX5_take 205 = .ok (.invokeinterface 122 2, 5) := by decide +kernel
theorem dX5_take_210 : decode cX5_take 210 = .ok (.checkcast 34, 3) := by decide +kernel
theorem dX5_take_213 : decode cX5_take 213 = .ok (.astore 4, 2) := by decide +kernel
theorem dX5_take_215 : decode cX5_take 215 = .ok (.aload_n 0, 1) := by decide +kernel
theorem dX5_take_216 : decode cX5_take 216 = .ok (.invokevirtual 87, 3) := by decide +kernel
theorem dX5_take_219 : decode cX5_take 219 = .ok (.aload_n 2, 1) := by decide +kernel
theorem dX5_take_220 : decode cX5_take 220 = .ok (.getfield 36, 3) := by decide +kernel
theorem dX5_take_223 : decode cX5_take 223 = .ok (.ireturn, 1) := by decide +kernel
set_option maxRecDepth 20000 in
theorem ggX5_sweep_Jx4a65c_init_da8c8 : GoodIn wsX5_sweep wsJx4a65c_init_da8c8 := goodIn_r _ [10, 11, 12, 13, 14, 15, 16, 17, 18, 19, 20, 21, 22, 23, 24, 162, 163, 164] (by decide +kernel) (by decide +kernel)
set_option maxRecDepth 20000 in
theorem gX5_sweep_Jx4a65c_init_da8c8 : GoodIn wsX5_sweep (wsJx4a65c_init_da8c8) := ggX5_sweep_Jx4a65c_init_da8c8
set_option maxRecDepth 20000 in
theorem ggX5_sweep_Jx4a65c_iterator_32c93 : GoodIn wsX5_sweep wsJx4a65c_iterator_32c93 := goodIn_r _ [28, 29, 30, 31, 32, 33, 34, 35, 36, 23, 24, 37, 38, 39, 40, 178, 179, 180, 181, 162, 163, 164] (by decide +kernel) (by decide +kernel)
set_option maxRecDepth 20000 in
theorem gX5_sweep_Jx4a65c_iterator_32c93_f51Jx4a65c : GoodIn wsX5_sweep (va_wsF RX5 51 RJx4a65c ⟨"java/util/List", "iterator", "()Ljava/util/Iterator;"⟩ yJx4a65c_iterator_32c93 wsJx4a65c_iterator_32c93) := goodIn_app (goodIn_of _ (by decide +kernel)) ggX5_sweep_Jx4a65c_iterator_32c93
set_option maxRecDepth 20000 in
theorem ggX5_sweep_Jx35411_hasNext_aae02 : GoodIn wsX5_sweep wsJx35411_hasNext_aae02 := goodIn_r _ [44, 45, 35, 178, 179, 180, 181, 162, 163, 164] (by decide +kernel) (by decide +kernel)
set_option maxRecDepth 20000 in
theorem gX5_sweep_Jx35411_hasNext_aae02_f55Jx35411 : GoodIn wsX5_sweep (va_wsF RX5 55 RJx35411 ⟨"java/util/Iterator", "hasNext", "()Z"⟩ yJx35411_hasNext_aae02 wsJx35411_hasNext_aae02) := goodIn_app (goodIn_of _ (by decide +kernel)) ggX5_sweep_Jx35411_hasNext_aae02
set_option maxRecDepth 20000 in
theorem ggX5_sweep_Jx35411_next_0502b : GoodIn wsX5_sweep wsJx35411_next_0502b := goodIn_r _ [49, 45, 35, 50, 37, 51, 52, 53, 31, 54, 38, 39, 40, 178, 179, 180, 181, 162, 163, 164] (by decide +kernel) (by decide +kernel)
set_option maxRecDepth 20000 in
theorem gX5_sweep_Jx35411_next_0502b_f61Jx35411 : GoodIn wsX5_sweep (va_wsF RX5 61 RJx35411 ⟨"java/util/Iterator", "next", "()Ljava/lang/Object;"⟩ yJx35411_next_0502b wsJx35411_next_0502b) := goodIn_app (goodIn_of _ (by decide +kernel)) ggX5_sweep_Jx35411_next_0502b
set_option maxRecDepth 20000 in
theorem ggX5_sweep_X5_placeOf : GoodIn wsX5_sweep wsX5_placeOf := goodIn_r _ [59, 6, 60, 61, 62, 3, 63, 64, 65, 66, 67, 68, 69, 70, 71, 72, 73, 74, 75, 76, 77, 78, 79, 80, 12, 165, 166, 167, 168, 169, 170, 171, 172, 173, 162, 163, 164] (by decide +kernel) (by decide +kernel)
set_option maxRecDepth 20000 in
theorem gX5_sweep_X5_placeOf : GoodIn wsX5_sweep (wsV RX5 96 RX5 yX5_placeOf wsX5_placeOf) := goodIn_app (goodIn_of _ (by decide +kernel)) ggX5_sweep_X5_placeOf
set_option maxRecDepth 20000 in
theorem ggX5_sweep_X5_ask : GoodIn wsX5_sweep wsX5_ask := goodIn_r _ [84, 85, 86, 6, 7, 87, 88, 89, 90, 91, 58, 92, 25, 26, 27, 3, 28, 29, 30, 31, 32, 33, 34, 35, 36, 23, 24, 37, 38, 39, 40, 41, 42, 43, 44, 45, 46, 47, 48, 49, 50, 51, 52, 53, 54, 93, 94, 95, 96, 97, 60, 61, 62, 63, 64, 98, 99, 100, 101, 102, 103, 104, 105, 106, 65, 66, 67, 68, 69, 70, 71, 72, 73, 74, 75, 76, 77, 78, 79, 80, 12, 55, 56, 57, 59, 165, 166, 167, 168, 169, 170, 171, 172, 173, 176, 177, 178, 179, 180, 181, 162, 163, 164] (by decide +kernel) (by decide +kernel)
set_option maxRecDepth 20000 in
theorem gX5_sweep_X5_ask : GoodIn wsX5_sweep (wsV RX5 125 RX5 yX5_ask wsX5_ask) := goodIn_app (goodIn_of _ (by decide +kernel)) ggX5_sweep_X5_ask
set_option maxRecDepth 20000 in
theorem ggX5_sweep_Jx4a65c_get_915e3 : GoodIn wsX5_sweep wsJx4a65c_get_915e3 := goodIn_r _ [68, 64, 69, 70, 71, 72, 73, 74, 75, 76, 77, 78, 79, 3, 80, 12, 162, 163, 164] (by decide +kernel) (by decide +kernel)
set_option maxRecDepth 20000 in
theorem gX5_sweep_Jx4a65c_get_915e3_f30Jx4a65c : GoodIn wsX5_sweep (va_wsF RX5 30 RJx4a65c ⟨"java/util/List", "get", "(I)Ljava/lang/Object;"⟩ yJx4a65c_get_915e3 wsJx4a65c_get_915e3) := goodIn_app (goodIn_of _ (by decide +kernel)) ggX5_sweep_Jx4a65c_get_915e3
set_option maxRecDepth 20000 in
theorem ggX5_sweep_Jx4a65c_add_9ea2d : GoodIn wsX5_sweep wsJx4a65c_add_9ea2d := goodIn_r _ [110, 111, 39, 12, 64, 112, 113, 114, 3, 115, 116, 117, 118, 119, 120, 121, 122, 123, 11, 124, 125, 126, 127, 128, 129, 130, 131, 132, 133, 134, 135, 136, 137, 138, 139, 140, 141, 142, 143, 144, 145, 146, 147, 148, 149, 150, 151, 152, 153, 154, 155, 156, 157, 162, 163, 164] (by decide +kernel) (by decide +kernel)
set_option maxRecDepth 20000 in
theorem gX5_sweep_Jx4a65c_add_9ea2d_f116Jx4a65c : GoodIn wsX5_sweep (va_wsF RX5 116 RJx4a65c ⟨"java/util/List", "add", "(Ljava/lang/Object;)Z"⟩ yJx4a65c_add_9ea2d wsJx4a65c_add_9ea2d) := goodIn_app (goodIn_of _ (by decide +kernel)) ggX5_sweep_Jx4a65c_add_9ea2d
set_option maxRecDepth 20000 in
theorem ggX5_sweep_Jx4a65c_size_8abf5 : GoodIn wsX5_sweep wsJx4a65c_size_8abf5 := goodIn_r _ [63, 64, 162, 163, 164] (by decide +kernel) (by decide +kernel)
set_option maxRecDepth 20000 in
theorem gX5_sweep_Jx4a65c_size_8abf5_f24Jx4a65c : GoodIn wsX5_sweep (va_wsF RX5 24 RJx4a65c ⟨"java/util/List", "size", "()I"⟩ yJx4a65c_size_8abf5 wsJx4a65c_size_8abf5) := goodIn_app (goodIn_of _ (by decide +kernel)) ggX5_sweep_Jx4a65c_size_8abf5
set_option maxRecDepth 20000 in
theorem ggX5_sweep_Jx4a65c_clear_da8c8 : GoodIn wsX5_sweep wsJx4a65c_clear_da8c8 := goodIn_r _ [161, 111, 39, 12, 64, 162, 163, 164] (by decide +kernel) (by decide +kernel)
set_option maxRecDepth 20000 in
theorem gX5_sweep_Jx4a65c_clear_da8c8_f119Jx4a65c : GoodIn wsX5_sweep (va_wsF RX5 119 RJx4a65c ⟨"java/util/List", "clear", "()V"⟩ yJx4a65c_clear_da8c8 wsJx4a65c_clear_da8c8) := goodIn_app (goodIn_of _ (by decide +kernel)) ggX5_sweep_Jx4a65c_clear_da8c8
theorem dX5_sweep_0 : decode cX5_sweep 0 = .ok (.new 7, 3) := by decide +kernel
theorem dX5_sweep_3 : decode cX5_sweep 3 = .ok (.dup, 1) := by decide +kernel
theorem dX5_sweep_4 : decode cX5_sweep 4 = .ok (.invokespecial 9, 3) := by decide +kernel
theorem dX5_sweep_7 : decode cX5_sweep 7 = .ok (.astore_n 2, 1) := by decide +kernel
theorem dX5_sweep_8 : decode cX5_sweep 8 = .ok (.aload_n 0, 1) := by decide +kernel
theorem dX5_sweep_9 : decode cX5_sweep 9 = .ok (.getfield 16, 3) := by decide +kernel
theorem dX5_sweep_12 : decode cX5_sweep 12 = .ok (.invokeinterface 51 1, 5) := by decide +kernel
theorem dX5_sweep_17 : decode cX5_sweep 17 = .ok (.astore_n 3, 1) := by decide +kernel
theorem dX5_sweep_18 : decode cX5_sweep 18 = .ok (.aload_n 3, 1) := by decide +kernel
theorem dX5_sweep_19 : decode cX5_sweep 19 = .ok (.invokeinterface 55 1, 5) := by decide +kernel
theorem dX5_sweep_24 : decode cX5_sweep 24 = .ok (.ifCond .eq 67, 3) := by decide +kernel
theorem dX5_sweep_27 : decode cX5_sweep 27 = .ok (.aload_n 3, 1) := by decide +kernel
theorem dX5_sweep_28 : decode cX5_sweep 28 = .ok (.invokeinterface 61 1, 5) := by decide +kernel
theorem dX5_sweep_33 : decode cX5_sweep 33 = .ok (.checkcast 107, 3) := by decide +kernel
theorem dX5_sweep_36 : decode cX5_sweep 36 = .ok (.astore 4, 2) := by decide +kernel
theorem dX5_sweep_38 : decode cX5_sweep 38 = .ok (.aload_n 0, 1) := by decide +kernel
theorem dX5_sweep_39 : decode cX5_sweep 39 = .ok (.getfield 10, 3) := by decide +kernel
theorem dX5_sweep_42 : decode cX5_sweep 42 = .ok (.aload_n 0, 1) := by decide +kernel
theorem dX5_sweep_43 : decode cX5_sweep 43 = .ok (.aload_n 0, 1) := by decide +kernel
theorem dX5_sweep_44 : decode cX5_sweep 44 = .ok (.aload 4, 2) := by decide +kernel
theorem dX5_sweep_46 : decode cX5_sweep 46 = .ok (.getfield 109, 3) := by decide +kernel
theorem dX5_sweep_49 : decode cX5_sweep 49 = .ok (.invokevirtual 96, 3) := by decide +kernel
theorem dX5_sweep_52 : decode cX5_sweep 52 = .ok (.aload_n 0, 1) := by decide +kernel
theorem dX5_sweep_53 : decode cX5_sweep 53 = .ok (.aload 4, 2) := by decide +kernel
theorem dX5_sweep_55 : decode cX5_sweep 55 = .ok (.getfield 113, 3) := by decide +kernel
theorem dX5_sweep_58 : decode cX5_sweep 58 = .ok (.invokevirtual 96, 3) := by decide +kernel
theorem dX5_sweep_61 : decode cX5_sweep 61 = .ok (.invokevirtual 125, 3) := by decide +kernel
theorem dX5_sweep_64 : decode cX5_sweep 64 = .ok (.invokeinterface 30 2, 5) := by decide +kernel
theorem dX5_sweep_69 : decode cX5_sweep 69 = .ok (.checkcast 34, 3) := by decide +kernel
theorem dX5_sweep_72 : decode cX5_sweep 72 = .ok (.getfield 36, 3) := by decide +kernel
theorem dX5_sweep_75 : decode cX5_sweep 75 = .ok (.iload_n 1, 1) := by decide +kernel
theorem dX5_sweep_76 : decode cX5_sweep 76 = .ok (.if_icmp .lt 12, 3) := by decide +kernel
theorem dX5_sweep_79 : decode cX5_sweep 79 = .ok (.aload_n 2, 1) := by decide +kernel
theorem dX5_sweep_80 : decode cX5_sweep 80 = .ok (.aload 4, 2) := by decide +kernel
theorem dX5_sweep_82 : decode cX5_sweep 82 = .ok (.invokeinterface 116 2, 5) := by decide +kernel
theorem dX5_sweep_87 : decode cX5_sweep 87 = .ok (.pop, 1) := by decide +kernel
theorem dX5_sweep_88 : decode cX5_sweep 88 = .ok (.goto (-70), 3) := by decide +kernel
theorem dX5_sweep_91 : decode cX5_sweep 91 = .ok (.aload_n 0, 1) := by decide +kernel
theorem dX5_sweep_92 : decode cX5_sweep 92 = .ok (.getfield 16, 3) := by decide +kernel
theorem dX5_sweep_95 : decode cX5_sweep 95 = .ok (.invokeinterface 24 1, 5) := by decide +kernel
theorem dX5_sweep_100 : decode cX5_sweep 100 = .ok (.aload_n 2, 1) := by decide +kernel
theorem dX5_sweep_101 : decode cX5_sweep 101 = .ok (.invokeinterface 24 1, 5) := by decide +kernel
theorem dX5_sweep_106 : decode cX5_sweep 106 = .ok (.isub, 1) := by decide +kernel
theorem dX5_sweep_107 : decode cX5_sweep 107 = .ok (.istore_n 3, 1) := by decide +kernel
theorem dX5_sweep_108 : decode cX5_sweep 108 = .ok (.aload_n 0, 1) := by decide +kernel
theorem dX5_sweep_109 : decode cX5_sweep 109 = .ok (.getfield 16, 3) := by decide +kernel
theorem dX5_sweep_112 : decode cX5_sweep 112 = .ok (.invokeinterface 119 1, 5) := by decide +kernel
theorem dX5_sweep_117 : decode cX5_sweep 117 = .ok (.aload_n 2, 1) := by decide +kernel
theorem dX5_sweep_118 : decode cX5_sweep 118 = .ok (.invokeinterface 51 1, 5) := by decide +kernel
theorem dX5_sweep_123 : decode cX5_sweep 123 = .ok (.astore 4, 2) := by decide +kernel
theorem dX5_sweep_125 : decode cX5_sweep 125 = .ok (.aload 4, 2) := by decide +kernel
theorem dX5_sweep_127 : decode cX5_sweep 127 = .ok (.invokeinterface 55 1, 5) := by decide +kernel
theorem dX5_sweep_132 : decode cX5_sweep 132 = .ok (.ifCond .eq 30, 3) := by decide +kernel
theorem dX5_sweep_135 : decode cX5_sweep 135 = .ok (.aload 4, 2) := by decide +kernel
theorem dX5_sweep_137 : decode cX5_sweep 137 = .ok (.invokeinterface 61 1, 5) := by decide +kernel
theorem dX5_sweep_142 : decode cX5_sweep 142 = .ok (.checkcast 107, 3) := by decide +kernel
theorem dX5_sweep_145 : decode cX5_sweep 145 = .ok (.astore 5, 2) := by decide +kernel
theorem dX5_sweep_147 : decode cX5_sweep 147 = .ok (.aload_n 0, 1) := by decide +kernel
theorem dX5_sweep_148 : decode cX5_sweep 148 = .ok (.getfield 16, 3) := by decide +kernel
theorem dX5_sweep_151 : decode cX5_sweep 151 = .ok (.aload 5, 2) := by decide +kernel
theorem dX5_sweep_153 : decode cX5_sweep 153 = .ok (.invokeinterface 116 2, 5) := by decide +kernel
theorem dX5_sweep_158 : decode cX5_sweep 158 = .ok (.pop, 1) := by decide +kernel
theorem dX5_sweep_159 : decode cX5_sweep 159 = .ok (.goto (-34), 3) := by decide +kernel
theorem dX5_sweep_162 : decode cX5_sweep 162 = .ok (.iload_n 3, 1) := by decide +kernel
theorem dX5_sweep_163 : decode cX5_sweep 163 = .ok (.ireturn, 1) := by decide +kernel
set_option maxRecDepth 20000 in
theorem ggX5_isSo_Jx4a65c_size_8abf5 : GoodIn wsX5_isSo wsJx4a65c_size_8abf5 := goodIn_r _ [14, 15, 201, 202, 203] (by decide +kernel) (by decide +kernel)
set_option maxRecDepth 20000 in
theorem gX5_isSo_Jx4a65c_size_8abf5_f24Jx4a65c : GoodIn wsX5_isSo (va_wsF RX5 24 RJx4a65c ⟨"java/util/List", "size", "()I"⟩ yJx4a65c_size_8abf5 wsJx4a65c_size_8abf5) := goodIn_app (goodIn_of _ (by decide +kernel)) ggX5_isSo_Jx4a65c_size_8abf5
set_option maxRecDepth 20000 in
theorem ggX5_isSo_X4_value : GoodIn wsX5_isSo wsX4_value := goodIn_ca (goodIn_r _ [20, 21, 22, 23, 24, 19, 25, 26, 27, 28, 29, 30, 31, 32, 33, 34, 35, 36, 37, 38, 204, 205, 206, 207, 208, 209, 210, 211, 212, 213, 214, 215, 216, 217, 218] (by decide +kernel) (by decide +kernel)) (goodIn_sub (fun _ h => List.mem_cons_of_mem _ (List.mem_append_left _ (List.mem_append_left _ (List.mem_append_right _ h)))) (by decide +kernel))
set_option maxRecDepth 20000 in
theorem gX5_isSo_X4_value : GoodIn wsX5_isSo (wsV RX5 128 RX4 yX4_value wsX4_value) := goodIn_app (goodIn_of _ (by decide +kernel)) ggX5_isSo_X4_value
set_option maxRecDepth 20000 in
theorem ggX5_isSo_Jx4a65c_get_915e3 : GoodIn wsX5_isSo wsJx4a65c_get_915e3 := goodIn_r _ [42, 15, 43, 44, 45, 46, 47, 48, 49, 50, 51, 52, 53, 13, 54, 55, 201, 202, 203] (by decide +kernel) (by decide +kernel)
set_option maxRecDepth 20000 in
theorem gX5_isSo_Jx4a65c_get_915e3_f30Jx4a65c : GoodIn wsX5_isSo (va_wsF RX5 30 RJx4a65c ⟨"java/util/List", "get", "(I)Ljava/lang/Object;"⟩ yJx4a65c_get_915e3 wsJx4a65c_get_915e3) := goodIn_app (goodIn_of _ (by decide +kernel)) ggX5_isSo_Jx4a65c_get_915e3
set_option maxRecDepth 20000 in
theorem ggX5_isSo_X4_waits : GoodIn wsX5_isSo wsX4_waits := goodIn_ca (goodIn_r _ [59, 21, 22, 23, 24, 19, 25, 26, 27, 28, 29, 30, 31, 32, 33, 60, 61, 62, 63, 64, 65, 66, 204, 205, 206, 207, 208, 209, 210, 211, 212, 213, 214, 215, 216, 217, 218] (by decide +kernel) (by decide +kernel)) (goodIn_sub (fun _ h => List.mem_cons_of_mem _ (List.mem_append_left _ (List.mem_append_left _ (List.mem_append_right _ h)))) (by decide +kernel))
set_option maxRecDepth 20000 in
theorem gX5_isSo_X4_waits : GoodIn wsX5_isSo (wsV RX5 134 RX4 yX4_waits wsX4_waits) := goodIn_app (goodIn_of _ (by decide +kernel)) ggX5_isSo_X4_waits
set_option maxRecDepth 20000 in
theorem ggX5_isSo_X4_cell : GoodIn wsX5_isSo wsX4_cell := goodIn_ca (goodIn_ca (goodIn_r _ [70, 71, 72, 21, 22, 23, 24, 19, 25, 26, 27, 28, 29, 30, 31, 32, 33, 73, 74, 75, 76, 77, 78, 79, 80, 81, 82, 83, 84, 85, 86, 87, 88, 89, 204, 205, 206, 207, 208, 209, 210, 211, 212, 213, 214, 215, 216, 217, 218] (by decide +kernel) (by decide +kernel)) (goodIn_sub (fun _ h => List.mem_cons_of_mem _ (List.mem_append_left _ (List.mem_append_right _ h))) (by decide +kernel))) (goodIn_sub (fun _ h => List.mem_cons_of_mem _ (List.mem_append_left _ (List.mem_append_left _ (List.mem_append_right _ h)))) (by decide +kernel))
set_option maxRecDepth 20000 in
theorem gX5_isSo_X4_cell : GoodIn wsX5_isSo (wsV RX5 138 RX4 yX4_cell wsX4_cell) := goodIn_app (goodIn_of _ (by decide +kernel)) ggX5_isSo_X4_cell
set_option maxRecDepth 20000 in
theorem ggX5_isSo_X5_placeOf : GoodIn wsX5_isSo wsX5_placeOf := goodIn_r _ [94, 1, 10, 11, 12, 13, 14, 15, 39, 40, 41, 42, 43, 44, 45, 46, 47, 48, 49, 50, 51, 52, 53, 54, 55, 188, 189, 190, 191, 192, 193, 194, 195, 196, 201, 202, 203] (by decide +kernel) (by decide +kernel)
set_option maxRecDepth 20000 in
theorem gX5_isSo_X5_placeOf : GoodIn wsX5_isSo (wsV RX5 96 RX5 yX5_placeOf wsX5_placeOf) := goodIn_app (goodIn_of _ (by decide +kernel)) ggX5_isSo_X5_placeOf
set_option maxRecDepth 20000 in
theorem ggX5_isSo_X4_kept : GoodIn wsX5_isSo wsX4_kept := goodIn_ca (goodIn_r _ [98, 99, 100, 101, 19, 102, 71, 72, 21, 103, 104, 105, 106, 107, 108, 109, 110, 111, 112, 113, 114, 115, 116, 117, 118, 119, 204, 205, 206, 207, 208, 209, 210, 211, 212, 213, 214, 215, 216, 217, 218, 219, 220, 221] (by decide +kernel) (by decide +kernel)) (goodIn_sub (fun _ h => List.mem_cons_of_mem _ (List.mem_append_left _ (List.mem_append_right _ h))) (by decide +kernel))
set_option maxRecDepth 20000 in
theorem gX5_isSo_X4_kept : GoodIn wsX5_isSo (wsV RX5 141 RX4 yX4_kept wsX4_kept) := goodIn_app (goodIn_of _ (by decide +kernel)) ggX5_isSo_X4_kept
set_option maxRecDepth 20000 in
theorem ggX5_isSo_X4_state : GoodIn wsX5_isSo wsX4_state := goodIn_ca (goodIn_r _ [123, 124, 125, 126, 127, 128, 19, 129, 21, 130, 131, 132, 133, 103, 104, 134, 135, 136, 137, 138, 139, 140, 141, 142, 143, 31, 144, 77, 78, 79, 80, 33, 81, 82, 83, 84, 145, 146, 147, 148, 149, 150, 151, 204, 205, 206, 207, 208, 209, 210, 211, 212, 213, 214, 215, 216, 217, 218, 219, 220, 221] (by decide +kernel) (by decide +kernel)) (goodIn_sub (fun _ h => List.mem_cons_of_mem _ (List.mem_append_right _ h)) (by decide +kernel))
set_option maxRecDepth 20000 in
theorem gX5_isSo_X4_state : GoodIn wsX5_isSo (wsV RX5 143 RX4 yX4_state wsX4_state) := goodIn_app (goodIn_of _ (by decide +kernel)) ggX5_isSo_X4_state
set_option maxRecDepth 20000 in
theorem ggX5_isSo_X5_waiting : GoodIn wsX5_isSo wsX5_waiting := goodIn_r _ [155, 1, 2, 156, 157, 158, 13, 159, 160, 161, 162, 163, 164, 165, 166, 167, 168, 169, 170, 171, 172, 173, 174, 175, 176, 177, 178, 179, 180, 181, 182, 183, 184, 185, 186, 187, 188, 189, 190, 191, 192, 193, 194, 195, 196, 197, 198, 222, 223, 224, 225, 201, 202, 203] (by decide +kernel) (by decide +kernel)
set_option maxRecDepth 20000 in
theorem gX5_isSo_X5_waiting : GoodIn wsX5_isSo (wsV RX5 81 RX5 yX5_waiting wsX5_waiting) := goodIn_app (goodIn_of _ (by decide +kernel)) ggX5_isSo_X5_waiting
theorem dX5_isSo_0 : decode cX5_isSo 0 = .ok (.iconst 0, 1) := by decide +kernel
theorem dX5_isSo_1 : decode cX5_isSo 1 = .ok (.istore_n 2, 1) := by decide +kernel
theorem dX5_isSo_2 : decode cX5_isSo 2 = .ok (.iconst 0, 1) := by decide +kernel
theorem dX5_isSo_3 : decode cX5_isSo 3 = .ok (.istore_n 3, 1) := by decide +kernel
theorem dX5_isSo_4 : decode cX5_isSo 4 = .ok (.iload_n 3, 1) := by decide +kernel
theorem dX5_isSo_5 : decode cX5_isSo 5 = .ok (.aload_n 0, 1) := by decide +kernel
theorem dX5_isSo_6 : decode cX5_isSo 6 = .ok (.getfield 10, 3) := by decide +kernel
theorem dX5_isSo_9 : decode cX5_isSo 9 = .ok (.invokeinterface 24 1, 5) := by decide +kernel
theorem dX5_isSo_14 : decode cX5_isSo 14 = .ok (.if_icmp .ge 59, 3) := by decide +kernel
theorem dX5_isSo_17 : decode cX5_isSo 17 = .ok (.aload_n 1, 1) := by decide +kernel
theorem dX5_isSo_18 : decode cX5_isSo 18 = .ok (.iload_n 3, 1) := by decide +kernel
theorem dX5_isSo_19 : decode cX5_isSo 19 = .ok (.invokevirtual 128, 3) := by decide +kernel
theorem dX5_isSo_22 : decode cX5_isSo 22 = .ok (.aload_n 0, 1) := by decide +kernel
theorem dX5_isSo_23 : decode cX5_isSo 23 = .ok (.getfield 10, 3) := by decide +kernel
theorem dX5_isSo_26 : decode cX5_isSo 26 = .ok (.iload_n 3, 1) := by decide +kernel
theorem dX5_isSo_27 : decode cX5_isSo 27 = .ok (.invokeinterface 30 2, 5) := by decide +kernel
theorem dX5_isSo_32 : decode cX5_isSo 32 = .ok (.checkcast 34, 3) := by decide +kernel
theorem dX5_isSo_35 : decode cX5_isSo 35 = .ok (.getfield 36, 3) := by decide +kernel
theorem dX5_isSo_38 : decode cX5_isSo 38 = .ok (.if_icmp .ne 27, 3) := by decide +kernel
theorem dX5_isSo_41 : decode cX5_isSo 41 = .ok (.aload_n 1, 1) := by decide +kernel
theorem dX5_isSo_42 : decode cX5_isSo 42 = .ok (.iload_n 3, 1) := by decide +kernel
theorem dX5_isSo_43 : decode cX5_isSo 43 = .ok (.invokevirtual 134, 3) := by decide +kernel
theorem dX5_isSo_46 : decode cX5_isSo 46 = .ok (.aload_n 0, 1) := by decide +kernel
theorem dX5_isSo_47 : decode cX5_isSo 47 = .ok (.getfield 10, 3) := by decide +kernel
theorem dX5_isSo_50 : decode cX5_isSo 50 = .ok (.iload_n 3, 1) := by decide +kernel
theorem dX5_isSo_51 : decode cX5_isSo 51 = .ok (.invokeinterface 30 2, 5) := by decide +kernel
theorem dX5_isSo_56 : decode cX5_isSo 56 = .ok (.checkcast 34, 3) := by decide +kernel
theorem dX5_isSo_59 : decode cX5_isSo 59 = .ok (.getfield 65, 3) := by decide +kernel
theorem dX5_isSo_62 : decode cX5_isSo 62 = .ok (.if_icmp .eq 5, 3) := by decide +kernel
theorem dX5_isSo_65 : decode cX5_isSo 65 = .ok (.iconst 0, 1) := by decide +kernel
theorem dX5_isSo_66 : decode cX5_isSo 66 = .ok (.ireturn, 1) := by decide +kernel
theorem dX5_isSo_67 : decode cX5_isSo 67 = .ok (.iinc 3 1, 3) := by decide +kernel
theorem dX5_isSo_70 : decode cX5_isSo 70 = .ok (.goto (-66), 3) := by decide +kernel
theorem dX5_isSo_73 : decode cX5_isSo 73 = .ok (.iconst 2, 1) := by decide +kernel
theorem dX5_isSo_74 : decode cX5_isSo 74 = .ok (.istore_n 3, 1) := by decide +kernel
theorem dX5_isSo_75 : decode cX5_isSo 75 = .ok (.iconst 1, 1) := by decide +kernel
theorem dX5_isSo_76 : decode cX5_isSo 76 = .ok (.istore 4, 2) := by decide +kernel
theorem dX5_isSo_78 : decode cX5_isSo 78 = .ok (.iload_n 3, 1) := by decide +kernel
theorem dX5_isSo_79 : decode cX5_isSo 79 = .ok (.aload_n 0, 1) := by decide +kernel
theorem dX5_isSo_80 : decode cX5_isSo 80 = .ok (.getfield 10, 3) := by decide +kernel
theorem dX5_isSo_83 : decode cX5_isSo 83 = .ok (.invokeinterface 24 1, 5) := by decide +kernel
theorem dX5_isSo_88 : decode cX5_isSo 88 = .ok (.if_icmp .gt 68, 3) := by decide +kernel
theorem dX5_isSo_91 : decode cX5_isSo 91 = .ok (.iconst 0, 1) := by decide +kernel
theorem dX5_isSo_92 : decode cX5_isSo 92 = .ok (.istore 5, 2) := by decide +kernel
theorem dX5_isSo_94 : decode cX5_isSo 94 = .ok (.iload 5, 2) := by decide +kernel
theorem dX5_isSo_96 : decode cX5_isSo 96 = .ok (.iload_n 3, 1) := by decide +kernel
theorem dX5_isSo_97 : decode cX5_isSo 97 = .ok (.iadd, 1) := by decide +kernel
theorem dX5_isSo_98 : decode cX5_isSo 98 = .ok (.aload_n 0, 1) := by decide +kernel
theorem dX5_isSo_99 : decode cX5_isSo 99 = .ok (.getfield 10, 3) := by decide +kernel
theorem dX5_isSo_102 : decode cX5_isSo 102 = .ok (.invokeinterface 24 1, 5) := by decide +kernel
theorem dX5_isSo_107 : decode cX5_isSo 107 = .ok (.if_icmp .gt 39, 3) := by decide +kernel
theorem dX5_isSo_110 : decode cX5_isSo 110 = .ok (.iinc 2 1, 3) := by decide +kernel
theorem dX5_isSo_113 : decode cX5_isSo 113 = .ok (.aload_n 1, 1) := by decide +kernel
theorem dX5_isSo_114 : decode cX5_isSo 114 = .ok (.iload 4, 2) := by decide +kernel
theorem dX5_isSo_116 : decode cX5_isSo 116 = .ok (.iload 5, 2) := by decide +kernel
theorem dX5_isSo_118 : decode cX5_isSo 118 = .ok (.invokevirtual 138, 3) := by decide +kernel
theorem dX5_isSo_121 : decode cX5_isSo 121 = .ok (.aload_n 0, 1) := by decide +kernel
theorem dX5_isSo_122 : decode cX5_isSo 122 = .ok (.aload_n 0, 1) := by decide +kernel
theorem dX5_isSo_123 : decode cX5_isSo 123 = .ok (.getfield 21, 3) := by decide +kernel
theorem dX5_isSo_126 : decode cX5_isSo 126 = .ok (.iload 4, 2) := by decide +kernel
theorem dX5_isSo_128 : decode cX5_isSo 128 = .ok (.aaload, 1) := by decide +kernel
theorem dX5_isSo_129 : decode cX5_isSo 129 = .ok (.iload 5, 2) := by decide +kernel
theorem dX5_isSo_131 : decode cX5_isSo 131 = .ok (.aaload, 1) := by decide +kernel
theorem dX5_isSo_132 : decode cX5_isSo 132 = .ok (.invokevirtual 96, 3) := by decide +kernel
theorem dX5_isSo_135 : decode cX5_isSo 135 = .ok (.if_icmp .eq 5, 3) := by decide +kernel
theorem dX5_isSo_138 : decode cX5_isSo 138 = .ok (.iconst 0, 1) := by decide +kernel
theorem dX5_isSo_139 : decode cX5_isSo 139 = .ok (.ireturn, 1) := by decide +kernel
theorem dX5_isSo_140 : decode cX5_isSo 140 = .ok (.iinc 5 1, 3) := by decide +kernel
theorem dX5_isSo_143 : decode cX5_isSo 143 = .ok (.goto (-49), 3) := by decide +kernel
theorem dX5_isSo_146 : decode cX5_isSo 146 = .ok (.iload_n 3, 1) := by decide +kernel
theorem dX5_isSo_147 : decode cX5_isSo 147 = .ok (.iconst 2, 1) := by decide +kernel
theorem dX5_isSo_148 : decode cX5_isSo 148 = .ok (.imul, 1) := by decide +kernel
theorem dX5_isSo_149 : decode cX5_isSo 149 = .ok (.istore_n 3, 1) := by decide +kernel
theorem dX5_isSo_150 : decode cX5_isSo 150 = .ok (.iinc 4 1, 3) := by decide +kernel
theorem dX5_isSo_153 : decode cX5_isSo 153 = .ok (.goto (-75), 3) := by decide +kernel
theorem dX5_isSo_156 : decode cX5_isSo 156 = .ok (.iconst 0, 1) := by decide +kernel
theorem dX5_isSo_157 : decode cX5_isSo 157 = .ok (.istore 4, 2) := by decide +kernel
theorem dX5_isSo_159 : decode cX5_isSo 159 = .ok (.iload 4, 2) := by decide +kernel
theorem dX5_isSo_161 : decode cX5_isSo 161 = .ok (.aload_n 0, 1) := by decide +kernel
theorem dX5_isSo_162 : decode cX5_isSo 162 = .ok (.getfield 16, 3) := by decide +kernel
theorem dX5_isSo_165 : decode cX5_isSo 165 = .ok (.invokeinterface 24 1, 5) := by decide +kernel
theorem dX5_isSo_170 : decode cX5_isSo 170 = .ok (.if_icmp .ge 66, 3) := by decide +kernel
theorem dX5_isSo_173 : decode cX5_isSo 173 = .ok (.aload_n 1, 1) := by decide +kernel
theorem dX5_isSo_174 : decode cX5_isSo 174 = .ok (.iload 4, 2) := by decide +kernel
theorem dX5_isSo_176 : decode cX5_isSo 176 = .ok (.invokevirtual 141, 3) := by decide +kernel
theorem dX5_isSo_179 : decode cX5_isSo 179 = .ok (.bipush 100, 2) := by decide +kernel
theorem dX5_isSo_181 : decode cX5_isSo 181 = .ok (.aload_n 0, 1) := by decide +kernel
theorem dX5_isSo_182 : decode cX5_isSo 182 = .ok (.aload_n 0, 1) := by decide +kernel
theorem dX5_isSo_183 : decode cX5_isSo 183 = .ok (.getfield 16, 3) := by decide +kernel
theorem dX5_isSo_186 : decode cX5_isSo 186 = .ok (.iload 4, 2) := by decide +kernel
theorem dX5_isSo_188 : decode cX5_isSo 188 = .ok (.invokeinterface 30 2, 5) := by decide +kernel
theorem dX5_isSo_193 : decode cX5_isSo 193 = .ok (.checkcast 107, 3) := by decide +kernel
theorem dX5_isSo_196 : decode cX5_isSo 196 = .ok (.getfield 109, 3) := by decide +kernel
theorem dX5_isSo_199 : decode cX5_isSo 199 = .ok (.invokevirtual 96, 3) := by decide +kernel
theorem dX5_isSo_202 : decode cX5_isSo 202 = .ok (.imul, 1) := by decide +kernel
theorem dX5_isSo_203 : decode cX5_isSo 203 = .ok (.aload_n 0, 1) := by decide +kernel
theorem dX5_isSo_204 : decode cX5_isSo 204 = .ok (.aload_n 0, 1) := by decide +kernel
theorem dX5_isSo_205 : decode cX5_isSo 205 = .ok (.getfield 16, 3) := by decide +kernel
theorem dX5_isSo_208 : decode cX5_isSo 208 = .ok (.iload 4, 2) := by decide +kernel
theorem dX5_isSo_210 : decode cX5_isSo 210 = .ok (.invokeinterface 30 2, 5) := by decide +kernel
theorem dX5_isSo_215 : decode cX5_isSo 215 = .ok (.checkcast 107, 3) := by decide +kernel
theorem dX5_isSo_218 : decode cX5_isSo 218 = .ok (.getfield 113, 3) := by decide +kernel
theorem dX5_isSo_221 : decode cX5_isSo 221 = .ok (.invokevirtual 96, 3) := by decide +kernel
theorem dX5_isSo_224 : decode cX5_isSo 224 = .ok (.iadd, 1) := by decide +kernel
theorem dX5_isSo_225 : decode cX5_isSo 225 = .ok (.if_icmp .eq 5, 3) := by decide +kernel
theorem dX5_isSo_228 : decode cX5_isSo 228 = .ok (.iconst 0, 1) := by decide +kernel
theorem dX5_isSo_229 : decode cX5_isSo 229 = .ok (.ireturn, 1) := by decide +kernel
theorem dX5_isSo_230 : decode cX5_isSo 230 = .ok (.iinc 4 1, 3) := by decide +kernel
theorem dX5_isSo_233 : decode cX5_isSo 233 = .ok (.goto (-74), 3) := by decide +kernel
theorem dX5_isSo_236 : decode cX5_isSo 236 = .ok (.aload_n 1, 1) := by decide +kernel
theorem dX5_isSo_237 : decode cX5_isSo 237 = .ok (.iconst 0, 1) := by decide +kernel
theorem dX5_isSo_238 : decode cX5_isSo 238 = .ok (.invokevirtual 143, 3) := by decide +kernel
theorem dX5_isSo_241 : decode cX5_isSo 241 = .ok (.aload_n 0, 1) := by decide +kernel
theorem dX5_isSo_242 : decode cX5_isSo 242 = .ok (.getfield 10, 3) := by decide +kernel
theorem dX5_isSo_245 : decode cX5_isSo 245 = .ok (.invokeinterface 24 1, 5) := by decide +kernel
theorem dX5_isSo_250 : decode cX5_isSo 250 = .ok (.if_icmp .ne 98, 3) := by decide +kernel
theorem dX5_isSo_253 : decode cX5_isSo 253 = .ok (.aload_n 1, 1) := by decide +kernel
theorem dX5_isSo_254 : decode cX5_isSo 254 = .ok (.iconst 4, 1) := by decide +kernel
theorem dX5_isSo_255 : decode cX5_isSo 255 = .ok (.invokevirtual 143, 3) := by decide +kernel
theorem dX5_isSo_258 : decode cX5_isSo 258 = .ok (.iload_n 2, 1) := by decide +kernel
theorem dX5_isSo_259 : decode cX5_isSo 259 = .ok (.if_icmp .ne 89, 3) := by decide +kernel
theorem dX5_isSo_262 : decode cX5_isSo 262 = .ok (.aload_n 1, 1) := by decide +kernel
theorem dX5_isSo_263 : decode cX5_isSo 263 = .ok (.iconst 5, 1) := by decide +kernel
theorem dX5_isSo_264 : decode cX5_isSo 264 = .ok (.invokevirtual 143, 3) := by decide +kernel
theorem dX5_isSo_267 : decode cX5_isSo 267 = .ok (.aload_n 0, 1) := by decide +kernel
theorem dX5_isSo_268 : decode cX5_isSo 268 = .ok (.invokevirtual 81, 3) := by decide +kernel
theorem dX5_isSo_271 : decode cX5_isSo 271 = .ok (.if_icmp .ne 77, 3) := by decide +kernel
theorem dX5_isSo_274 : decode cX5_isSo 274 = .ok (.aload_n 1, 1) := by decide +kernel
theorem dX5_isSo_275 : decode cX5_isSo 275 = .ok (.bipush 6, 2) := by decide +kernel
theorem dX5_isSo_277 : decode cX5_isSo 277 = .ok (.invokevirtual 143, 3) := by decide +kernel
theorem dX5_isSo_280 : decode cX5_isSo 280 = .ok (.aload_n 0, 1) := by decide +kernel
theorem dX5_isSo_281 : decode cX5_isSo 281 = .ok (.getfield 16, 3) := by decide +kernel
theorem dX5_isSo_284 : decode cX5_isSo 284 = .ok (.invokeinterface 24 1, 5) := by decide +kernel
theorem dX5_isSo_289 : decode cX5_isSo 289 = .ok (.if_icmp .ne 59, 3) := by decide +kernel
theorem dX5_isSo_292 : decode cX5_isSo 292 = .ok (.aload_n 1, 1) := by decide +kernel
theorem dX5_isSo_293 : decode cX5_isSo 293 = .ok (.bipush 7, 2) := by decide +kernel
theorem dX5_isSo_295 : decode cX5_isSo 295 = .ok (.invokevirtual 143, 3) := by decide +kernel
theorem dX5_isSo_298 : decode cX5_isSo 298 = .ok (.aload_n 0, 1) := by decide +kernel
theorem dX5_isSo_299 : decode cX5_isSo 299 = .ok (.getfield 93, 3) := by decide +kernel
theorem dX5_isSo_302 : decode cX5_isSo 302 = .ok (.if_icmp .ne 46, 3) := by decide +kernel
theorem dX5_isSo_305 : decode cX5_isSo 305 = .ok (.aload_n 1, 1) := by decide +kernel
theorem dX5_isSo_306 : decode cX5_isSo 306 = .ok (.bipush 8, 2) := by decide +kernel
theorem dX5_isSo_308 : decode cX5_isSo 308 = .ok (.invokevirtual 143, 3) := by decide +kernel
theorem dX5_isSo_311 : decode cX5_isSo 311 = .ok (.aload_n 0, 1) := by decide +kernel
theorem dX5_isSo_312 : decode cX5_isSo 312 = .ok (.getfield 44, 3) := by decide +kernel
theorem dX5_isSo_315 : decode cX5_isSo 315 = .ok (.if_icmp .ne 33, 3) := by decide +kernel
theorem dX5_isSo_318 : decode cX5_isSo 318 = .ok (.aload_n 1, 1) := by decide +kernel
theorem dX5_isSo_319 : decode cX5_isSo 319 = .ok (.bipush 9, 2) := by decide +kernel
theorem dX5_isSo_321 : decode cX5_isSo 321 = .ok (.invokevirtual 143, 3) := by decide +kernel
theorem dX5_isSo_324 : decode cX5_isSo 324 = .ok (.aload_n 0, 1) := by decide +kernel
theorem dX5_isSo_325 : decode cX5_isSo 325 = .ok (.getfield 90, 3) := by decide +kernel
theorem dX5_isSo_328 : decode cX5_isSo 328 = .ok (.if_icmp .ne 20, 3) := by decide +kernel
theorem dX5_isSo_331 : decode cX5_isSo 331 = .ok (.aload_n 1, 1) := by decide +kernel
theorem dX5_isSo_332 : decode cX5_isSo 332 = .ok (.bipush 10, 2) := by decide +kernel
theorem dX5_isSo_334 : decode cX5_isSo 334 = .ok (.invokevirtual 143, 3) := by decide +kernel
theorem dX5_isSo_337 : decode cX5_isSo 337 = .ok (.aload_n 0, 1) := by decide +kernel
theorem dX5_isSo_338 : decode cX5_isSo 338 = .ok (.getfield 69, 3) := by decide +kernel
theorem dX5_isSo_341 : decode cX5_isSo 341 = .ok (.if_icmp .ne 7, 3) := by decide +kernel
theorem dX5_isSo_344 : decode cX5_isSo 344 = .ok (.iconst 1, 1) := by decide +kernel
theorem dX5_isSo_345 : decode cX5_isSo 345 = .ok (.goto 4, 3) := by decide +kernel
theorem dX5_isSo_348 : decode cX5_isSo 348 = .ok (.iconst 0, 1) := by decide +kernel
theorem dX5_isSo_349 : decode cX5_isSo 349 = .ok (.ireturn, 1) := by decide +kernel
theorem dX6_init_0 : decode cX6_init 0 = .ok (.aload_n 0, 1) := by decide +kernel
theorem dX6_init_1 : decode cX6_init 1 = .ok (.invokespecial 1, 3) := by decide +kernel
theorem dX6_init_4 : decode cX6_init 4 = .ok (.aload_n 0, 1) := by decide +kernel
theorem dX6_init_5 : decode cX6_init 5 = .ok (.aload_n 1, 1) := by decide +kernel
theorem dX6_init_6 : decode cX6_init 6 = .ok (.putfield 7, 3) := by decide +kernel
theorem dX6_init_9 : decode cX6_init 9 = .ok (.aload_n 0, 1) := by decide +kernel
theorem dX6_init_10 : decode cX6_init 10 = .ok (.aload_n 2, 1) := by decide +kernel
theorem dX6_init_11 : decode cX6_init 11 = .ok (.putfield 13, 3) := by decide +kernel
theorem dX6_init_14 : decode cX6_init 14 = .ok (.return_, 1) := by decide +kernel
theorem dX7_init_0 : decode cX7_init 0 = .ok (.aload_n 0, 1) := by decide +kernel
theorem dX7_init_1 : decode cX7_init 1 = .ok (.invokespecial 1, 3) := by decide +kernel
theorem dX7_init_4 : decode cX7_init 4 = .ok (.aload_n 0, 1) := by decide +kernel
theorem dX7_init_5 : decode cX7_init 5 = .ok (.iload_n 1, 1) := by decide +kernel
theorem dX7_init_6 : decode cX7_init 6 = .ok (.putfield 7, 3) := by decide +kernel
theorem dX7_init_9 : decode cX7_init 9 = .ok (.return_, 1) := by decide +kernel
