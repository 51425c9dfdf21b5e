set_option maxRecDepth 20000 in
theorem ggX2_init_X1_init : GoodIn wsX2_init wsX1_init := goodIn_r _ [12, 13, 2, 3, 4, 14, 15, 16, 17, 18, 19, 20, 21, 22, 23, 24, 25, 37, 38, 39, 40, 41, 42, 43, 44, 45, 46, 47, 48, 49, 50] (by decide +kernel) (by decide +kernel)
set_option maxRecDepth 20000 in
theorem gX2_init_X1_init : GoodIn wsX2_init (wsX1_init) := ggX2_init_X1_init
theorem dX2_init_0 : decode cX2_init 0 = .ok (.aload_n 0, 1) := by decide +kernel
theorem dX2_init_1 : decode cX2_init 1 = .ok (.invokespecial 3, 3) := by decide +kernel
theorem dX2_init_4 : decode cX2_init 4 = .ok (.aload_n 0, 1) := by decide +kernel
theorem dX2_init_5 : decode cX2_init 5 = .ok (.sipush 500, 3) := by decide +kernel
theorem dX2_init_8 : decode cX2_init 8 = .ok (.newarray .int, 2) := by decide +kernel
theorem dX2_init_10 : decode cX2_init 10 = .ok (.putfield 9, 3) := by decide +kernel
theorem dX2_init_13 : decode cX2_init 13 = .ok (.aload_n 0, 1) := by decide +kernel
theorem dX2_init_14 : decode cX2_init 14 = .ok (.new 15, 3) := by decide +kernel
theorem dX2_init_17 : decode cX2_init 17 = .ok (.dup, 1) := by decide +kernel
theorem dX2_init_18 : decode cX2_init 18 = .ok (.invokespecial 17, 3) := by decide +kernel
theorem dX2_init_21 : decode cX2_init 21 = .ok (.putfield 18, 3) := by decide +kernel
theorem dX2_init_24 : decode cX2_init 24 = .ok (.return_, 1) := by decide +kernel
theorem dX2_addWord_0 : decode cX2_addWord 0 = .ok (.bipush 24, 2) := by decide +kernel
theorem dX2_addWord_2 : decode cX2_addWord 2 = .ok (.istore_n 2, 1) := by decide +kernel
theorem dX2_addWord_3 : decode cX2_addWord 3 = .ok (.iload_n 2, 1) := by decide +kernel
theorem dX2_addWord_4 : decode cX2_addWord 4 = .ok (.ifCond .lt 54, 3) := by decide +kernel
theorem dX2_addWord_7 : decode cX2_addWord 7 = .ok (.aload_n 0, 1) := by decide +kernel
theorem dX2_addWord_8 : decode cX2_addWord 8 = .ok (.getfield 22, 3) := by decide +kernel
theorem dX2_addWord_11 : decode cX2_addWord 11 = .ok (.ifCond .lt 41, 3) := by decide +kernel
theorem dX2_addWord_14 : decode cX2_addWord 14 = .ok (.aload_n 0, 1) := by decide +kernel
theorem dX2_addWord_15 : decode cX2_addWord 15 = .ok (.getfield 22, 3) := by decide +kernel
theorem dX2_addWord_18 : decode cX2_addWord 18 = .ok (.aload_n 0, 1) := by decide +kernel
theorem dX2_addWord_19 : decode cX2_addWord 19 = .ok (.getfield 9, 3) := by decide +kernel
theorem dX2_addWord_22 : decode cX2_addWord 22 = .ok (.arraylength, 1) := by decide +kernel
theorem dX2_addWord_23 : decode cX2_addWord 23 = .ok (.if_icmp .ge 29, 3) := by decide +kernel
theorem dX2_addWord_26 : decode cX2_addWord 26 = .ok (.aload_n 0, 1) := by decide +kernel
theorem dX2_addWord_27 : decode cX2_addWord 27 = .ok (.getfield 9, 3) := by decide +kernel
theorem dX2_addWord_30 : decode cX2_addWord 30 = .ok (.aload_n 0, 1) := by decide +kernel
theorem dX2_addWord_31 : decode cX2_addWord 31 = .ok (.getfield 22, 3) := by decide +kernel
theorem dX2_addWord_34 : decode cX2_addWord 34 = .ok (.iload_n 1, 1) := by decide +kernel
theorem dX2_addWord_35 : decode cX2_addWord 35 = .ok (.iload_n 2, 1) := by decide +kernel
theorem dX2_addWord_36 : decode cX2_addWord 36 = .ok (.iushr, 1) := by decide +kernel
theorem dX2_addWord_37 : decode cX2_addWord 37 = .ok (.sipush 255, 3) := by decide +kernel
theorem dX2_addWord_40 : decode cX2_addWord 40 = .ok (.iand, 1) := by decide +kernel
theorem dX2_addWord_41 : decode cX2_addWord 41 = .ok (.iastore, 1) := by decide +kernel
theorem dX2_addWord_42 : decode cX2_addWord 42 = .ok (.aload_n 0, 1) := by decide +kernel
theorem dX2_addWord_43 : decode cX2_addWord 43 = .ok (.dup, 1) := by decide +kernel
theorem dX2_addWord_44 : decode cX2_addWord 44 = .ok (.getfield 22, 3) := by decide +kernel
theorem dX2_addWord_47 : decode cX2_addWord 47 = .ok (.iconst 1, 1) := by decide +kernel
theorem dX2_addWord_48 : decode cX2_addWord 48 = .ok (.iadd, 1) := by decide +kernel
theorem dX2_addWord_49 : decode cX2_addWord 49 = .ok (.putfield 22, 3) := by decide +kernel
theorem dX2_addWord_52 : decode cX2_addWord 52 = .ok (.iinc 2 (-8), 3) := by decide +kernel
theorem dX2_addWord_55 : decode cX2_addWord 55 = .ok (.goto (-52), 3) := by decide +kernel
theorem dX2_addWord_58 : decode cX2_addWord 58 = .ok (.return_, 1) := by decide +kernel
set_option maxRecDepth 20000 in
theorem ggX2_read_X2_goTo : GoodIn wsX2_read wsX2_goTo := goodIn_r _ [11, 4, 1, 12, 13, 14, 10, 15, 16, 277, 278, 279, 280, 281, 282, 283, 284, 285, 286, 287] (by decide +kernel) (by decide +kernel)
set_option maxRecDepth 20000 in
theorem gX2_read_X2_goTo : GoodIn wsX2_read (wsV RX2 35 RX2 yX2_goTo wsX2_goTo) := goodIn_app (goodIn_of _ (by decide +kernel)) ggX2_read_X2_goTo
set_option maxRecDepth 20000 in
theorem ggX2_read_X2_readRule : GoodIn wsX2_read wsX2_readRule := goodIn_r _ [20, 4, 21, 22, 5, 23, 24, 25, 10, 26, 27, 28, 29, 30, 31, 32, 33, 34, 35, 36, 37, 38, 12, 13, 14, 15, 1, 16, 39, 40, 41, 42, 43, 44, 45, 46, 47, 48, 49, 50, 51, 52, 53, 54, 55, 56, 57, 58, 59, 60, 61, 62, 63, 64, 65, 66, 67, 68, 69, 70, 71, 72, 73, 74, 75, 76, 77, 78, 7, 8, 9, 11, 79, 80, 81, 82, 2, 3, 83, 84, 85, 86, 87, 88, 89, 90, 91, 92, 93, 94, 95, 96, 97, 98, 99, 100, 101, 102, 103, 104, 105, 106, 107, 108, 109, 110, 111, 112, 113, 114, 115, 116, 117, 118, 119, 120, 121, 277, 278, 279, 280, 281, 282, 283, 284, 285, 286, 287, 299, 300, 301, 302, 288, 289, 290, 291, 292, 293, 294, 295, 296, 297, 298, 303, 304, 305] (by decide +kernel) (by decide +kernel)
set_option maxRecDepth 20000 in
theorem gX2_read_X2_readRule : GoodIn wsX2_read (wsV RX2 39 RX2 yX2_readRule wsX2_readRule) := goodIn_app (goodIn_of _ (by decide +kernel)) ggX2_read_X2_readRule
set_option maxRecDepth 20000 in
theorem ggX2_read_X2_readValues : GoodIn wsX2_read wsX2_readValues := goodIn_r _ [125, 5, 21, 118, 119, 120, 10, 121, 4, 12, 13, 14, 15, 1, 16, 126, 127, 128, 129, 114, 115, 116, 117, 7, 8, 9, 11, 83, 84, 85, 86, 87, 88, 89, 90, 91, 92, 93, 94, 79, 80, 81, 82, 2, 3, 130, 131, 132, 98, 133, 100, 134, 135, 136, 137, 138, 139, 140, 141, 142, 143, 144, 145, 146, 103, 107, 147, 148, 149, 150, 151, 105, 152, 153, 154, 155, 156, 157, 158, 159, 160, 161, 162, 163, 164, 165, 166, 167, 168, 169, 170, 277, 278, 279, 280, 281, 282, 283, 284, 285, 286, 287, 288, 289, 290, 291, 292, 293, 294, 295, 296, 297, 298] (by decide +kernel) (by decide +kernel)
set_option maxRecDepth 20000 in
theorem gX2_read_X2_readValues : GoodIn wsX2_read (wsV RX2 43 RX2 yX2_readValues wsX2_readValues) := goodIn_app (goodIn_of _ (by decide +kernel)) ggX2_read_X2_readValues
set_option maxRecDepth 20000 in
theorem ggX2_read_X2_readKind : GoodIn wsX2_read wsX2_readKind := goodIn_r _ [174, 4, 23, 24, 25, 10, 26, 27, 28, 29, 30, 31, 32, 33, 34, 35, 36, 37, 38, 12, 13, 14, 15, 1, 16, 39, 40, 41, 42, 43, 44, 45, 46, 47, 48, 49, 50, 51, 52, 53, 54, 55, 56, 57, 58, 59, 60, 61, 62, 63, 64, 65, 66, 67, 68, 69, 70, 71, 72, 73, 74, 75, 76, 77, 78, 7, 8, 9, 11, 79, 80, 81, 82, 2, 3, 277, 278, 279, 280, 281, 282, 283, 284, 285, 286, 287, 299, 300, 301, 302] (by decide +kernel) (by decide +kernel)
set_option maxRecDepth 20000 in
theorem gX2_read_X2_readKind : GoodIn wsX2_read (wsV RX2 49 RX2 yX2_readKind wsX2_readKind) := goodIn_app (goodIn_of _ (by decide +kernel)) ggX2_read_X2_readKind
set_option maxRecDepth 20000 in
theorem ggX2_read_X2_readArguments : GoodIn wsX2_read wsX2_readArguments := goodIn_r _ [178, 22, 5, 6, 21, 179, 180, 181, 182, 10, 183, 184, 185, 87, 83, 84, 85, 86, 4, 1, 88, 89, 90, 91, 12, 13, 14, 15, 16, 92, 93, 94, 79, 80, 81, 82, 2, 3, 7, 8, 9, 11, 126, 127, 128, 129, 114, 115, 116, 117, 118, 119, 120, 121, 277, 278, 279, 280, 281, 282, 283, 284, 285, 286, 287, 288, 289, 290, 291, 292, 293, 294, 295, 296, 297, 298, 303, 304, 305] (by decide +kernel) (by decide +kernel)
set_option maxRecDepth 20000 in
theorem gX2_read_X2_readArguments : GoodIn wsX2_read (wsV RX2 53 RX2 yX2_readArguments wsX2_readArguments) := goodIn_app (goodIn_of _ (by decide +kernel)) ggX2_read_X2_readArguments
set_option maxRecDepth 20000 in
theorem ggX2_read_X2_readSign : GoodIn wsX2_read wsX2_readSign := goodIn_r _ [113, 4, 114, 115, 116, 10, 117, 118, 119, 120, 121, 12, 13, 14, 15, 1, 16, 7, 8, 9, 11, 79, 80, 81, 82, 2, 3, 277, 278, 279, 280, 281, 282, 283, 284, 285, 286, 287] (by decide +kernel) (by decide +kernel)
set_option maxRecDepth 20000 in
theorem gX2_read_X2_readSign : GoodIn wsX2_read (wsV RX2 57 RX2 yX2_readSign wsX2_readSign) := goodIn_app (goodIn_of _ (by decide +kernel)) ggX2_read_X2_readSign
set_option maxRecDepth 20000 in
theorem ggX2_read_X2_carryOut : GoodIn wsX2_read wsX2_carryOut := goodIn_r _ [189, 5, 22, 179, 184, 190, 191, 192, 98, 193, 101, 103, 102, 194, 195, 196, 197, 138, 134, 135, 136, 137, 147, 148, 149, 150, 151, 105, 152, 153, 154, 155, 100, 156, 89, 90, 91, 157, 158, 159, 160, 161, 162, 163, 164, 165, 166, 167, 168, 169, 170, 198, 199, 200, 201, 202, 203, 204, 205, 144, 145, 146, 107, 206, 207, 208, 209, 106, 104, 210, 211, 212, 213, 214, 215, 216, 217, 218, 219, 220, 221, 222, 223, 224, 225, 226, 227, 228, 229, 230, 231, 232, 233, 234, 235, 236, 237, 238, 239, 240, 241, 242, 243, 244, 245, 246, 247, 248, 249, 250, 251, 252, 108, 253, 254, 255, 256, 257, 258, 259, 260, 261, 262, 263, 264, 265, 266, 267, 268, 269, 270, 271, 272, 273, 274, 275, 276, 277, 278, 279, 280, 281, 282, 283, 284, 285, 286, 287, 288, 289, 290, 291, 292, 293, 294, 295, 296, 297, 298, 303, 304, 305] (by decide +kernel) (by decide +kernel)
set_option maxRecDepth 20000 in
theorem gX2_read_X2_carryOut : GoodIn wsX2_read (wsV RX2 61 RX2 yX2_carryOut wsX2_carryOut) := goodIn_app (goodIn_of _ (by decide +kernel)) ggX2_read_X2_carryOut
theorem dX2_read_0 : decode cX2_read 0 = .ok (.aload_n 0, 1) := by decide +kernel
theorem dX2_read_1 : decode cX2_read 1 = .ok (.iload_n 1, 1) := by decide +kernel
theorem dX2_read_2 : decode cX2_read 2 = .ok (.putfield 26, 3) := by decide +kernel
theorem dX2_read_5 : decode cX2_read 5 = .ok (.aload_n 0, 1) := by decide +kernel
theorem dX2_read_6 : decode cX2_read 6 = .ok (.iconst 0, 1) := by decide +kernel
theorem dX2_read_7 : decode cX2_read 7 = .ok (.putfield 29, 3) := by decide +kernel
theorem dX2_read_10 : decode cX2_read 10 = .ok (.aload_n 0, 1) := by decide +kernel
theorem dX2_read_11 : decode cX2_read 11 = .ok (.iconst (-1), 1) := by decide +kernel
theorem dX2_read_12 : decode cX2_read 12 = .ok (.putfield 32, 3) := by decide +kernel
theorem dX2_read_15 : decode cX2_read 15 = .ok (.aload_n 0, 1) := by decide +kernel
theorem dX2_read_16 : decode cX2_read 16 = .ok (.iconst 0, 1) := by decide +kernel
theorem dX2_read_17 : decode cX2_read 17 = .ok (.invokevirtual 35, 3) := by decide +kernel
theorem dX2_read_20 : decode cX2_read 20 = .ok (.aload_n 0, 1) := by decide +kernel
theorem dX2_read_21 : decode cX2_read 21 = .ok (.invokevirtual 39, 3) := by decide +kernel
theorem dX2_read_24 : decode cX2_read 24 = .ok (.ifCond .eq 10, 3) := by decide +kernel
theorem dX2_read_27 : decode cX2_read 27 = .ok (.aload_n 0, 1) := by decide +kernel
theorem dX2_read_28 : decode cX2_read 28 = .ok (.invokevirtual 43, 3) := by decide +kernel
theorem dX2_read_31 : decode cX2_read 31 = .ok (.ifCond .ne 8, 3) := by decide +kernel
theorem dX2_read_34 : decode cX2_read 34 = .ok (.aload_n 0, 1) := by decide +kernel
theorem dX2_read_35 : decode cX2_read 35 = .ok (.getfield 29, 3) := by decide +kernel
theorem dX2_read_38 : decode cX2_read 38 = .ok (.ireturn, 1) := by decide +kernel
theorem dX2_read_39 : decode cX2_read 39 = .ok (.iconst 0, 1) := by decide +kernel
theorem dX2_read_40 : decode cX2_read 40 = .ok (.istore_n 2, 1) := by decide +kernel
theorem dX2_read_41 : decode cX2_read 41 = .ok (.iload_n 2, 1) := by decide +kernel
theorem dX2_read_42 : decode cX2_read 42 = .ok (.sipush 500, 3) := by decide +kernel
theorem dX2_read_45 : decode cX2_read 45 = .ok (.if_icmp .ge 52, 3) := by decide +kernel
theorem dX2_read_48 : decode cX2_read 48 = .ok (.aload_n 0, 1) := by decide +kernel
theorem dX2_read_49 : decode cX2_read 49 = .ok (.getfield 46, 3) := by decide +kernel
theorem dX2_read_52 : decode cX2_read 52 = .ok (.aload_n 0, 1) := by decide +kernel
theorem dX2_read_53 : decode cX2_read 53 = .ok (.getfield 26, 3) := by decide +kernel
theorem dX2_read_56 : decode cX2_read 56 = .ok (.if_icmp .ge 41, 3) := by decide +kernel
theorem dX2_read_59 : decode cX2_read 59 = .ok (.aload_n 0, 1) := by decide +kernel
theorem dX2_read_60 : decode cX2_read 60 = .ok (.invokevirtual 49, 3) := by decide +kernel
theorem dX2_read_63 : decode cX2_read 63 = .ok (.istore_n 3, 1) := by decide +kernel
theorem dX2_read_64 : decode cX2_read 64 = .ok (.aload_n 0, 1) := by decide +kernel
theorem dX2_read_65 : decode cX2_read 65 = .ok (.iload_n 3, 1) := by decide +kernel
theorem dX2_read_66 : decode cX2_read 66 = .ok (.invokevirtual 53, 3) := by decide +kernel
theorem dX2_read_69 : decode cX2_read 69 = .ok (.ifCond .eq 12, 3) := by decide +kernel
theorem dX2_read_72 : decode cX2_read 72 = .ok (.aload_n 0, 1) := by decide +kernel
theorem dX2_read_73 : decode cX2_read 73 = .ok (.bipush 59, 2) := by decide +kernel
theorem dX2_read_75 : decode cX2_read 75 = .ok (.invokevirtual 57, 3) := by decide +kernel
theorem dX2_read_78 : decode cX2_read 78 = .ok (.ifCond .ne 8, 3) := by decide +kernel
theorem dX2_read_81 : decode cX2_read 81 = .ok (.aload_n 0, 1) := by decide +kernel
theorem dX2_read_82 : decode cX2_read 82 = .ok (.getfield 29, 3) := by decide +kernel
theorem dX2_read_85 : decode cX2_read 85 = .ok (.ireturn, 1) := by decide +kernel
theorem dX2_read_86 : decode cX2_read 86 = .ok (.aload_n 0, 1) := by decide +kernel
theorem dX2_read_87 : decode cX2_read 87 = .ok (.iload_n 3, 1) := by decide +kernel
theorem dX2_read_88 : decode cX2_read 88 = .ok (.invokevirtual 61, 3) := by decide +kernel
theorem dX2_read_91 : decode cX2_read 91 = .ok (.iinc 2 1, 3) := by decide +kernel
theorem dX2_read_94 : decode cX2_read 94 = .ok (.goto (-53), 3) := by decide +kernel
theorem dX2_read_97 : decode cX2_read 97 = .ok (.aload_n 0, 1) := by decide +kernel
theorem dX2_read_98 : decode cX2_read 98 = .ok (.getfield 18, 3) := by decide +kernel
theorem dX2_read_101 : decode cX2_read 101 = .ok (.getfield 64, 3) := by decide +kernel
theorem dX2_read_104 : decode cX2_read 104 = .ok (.ireturn, 1) := by decide +kernel
set_option maxRecDepth 20000 in
theorem ggX2_readRule_X2_hasWord : GoodIn wsX2_readRule wsX2_hasWord := goodIn_r _ [9, 1, 10, 11, 12, 13, 14, 15, 16, 17, 18, 19, 20, 21, 22, 23, 24, 8, 25, 26, 27, 28, 29, 30, 31, 32, 33, 34, 35, 36, 37, 38, 39, 40, 41, 42, 43, 44, 45, 46, 47, 48, 49, 50, 51, 52, 53, 54, 55, 56, 57, 58, 59, 60, 61, 62, 63, 64, 65, 66, 67, 68, 69, 70, 71, 117, 118, 119, 120, 121, 122, 123, 124, 125, 126, 127, 128, 129, 130, 131] (by decide +kernel) (by decide +kernel)
set_option maxRecDepth 20000 in
theorem gX2_readRule_X2_hasWord : GoodIn wsX2_readRule (wsV RX2 69 RX2 yX2_hasWord wsX2_hasWord) := goodIn_app (goodIn_of _ (by decide +kernel)) ggX2_readRule_X2_hasWord
set_option maxRecDepth 20000 in
theorem ggX2_readRule_X2_fail : GoodIn wsX2_readRule wsX2_fail := goodIn_r _ [75, 76, 77, 117, 118, 119, 120, 121, 122, 123, 124, 125, 126, 127] (by decide +kernel) (by decide +kernel)
set_option maxRecDepth 20000 in
theorem gX2_readRule_X2_fail : GoodIn wsX2_readRule (wsV RX2 73 RX2 yX2_fail wsX2_fail) := goodIn_app (goodIn_of _ (by decide +kernel)) ggX2_readRule_X2_fail
set_option maxRecDepth 20000 in
theorem ggX2_readRule_X2_readNumber : GoodIn wsX2_readRule wsX2_readNumber := goodIn_r _ [81, 1, 82, 2, 26, 83, 84, 85, 86, 22, 23, 24, 8, 25, 27, 87, 88, 89, 72, 73, 74, 75, 76, 77, 68, 69, 70, 71, 117, 118, 119, 120, 121, 122, 123, 124, 125, 126, 127] (by decide +kernel) (by decide +kernel)
set_option maxRecDepth 20000 in
theorem gX2_readRule_X2_readNumber : GoodIn wsX2_readRule (wsV RX2 77 RX2 yX2_readNumber wsX2_readNumber) := goodIn_app (goodIn_of _ (by decide +kernel)) ggX2_readRule_X2_readNumber
set_option maxRecDepth 20000 in
theorem ggX2_readRule_X1_start : GoodIn wsX2_readRule wsX1_start := goodIn_r _ [94, 95, 96, 97, 98, 99, 100, 101, 102, 103, 104, 132, 133, 134, 135, 136, 137, 138, 139, 140, 141, 142, 143, 144, 145] (by decide +kernel) (by decide +kernel)
set_option maxRecDepth 20000 in
theorem gX2_readRule_X1_start : GoodIn wsX2_readRule (wsV RX2 86 RX1 yX1_start wsX1_start) := goodIn_app (goodIn_of _ (by decide +kernel)) ggX2_readRule_X1_start
set_option maxRecDepth 20000 in
theorem ggX2_readRule_X2_readSign : GoodIn wsX2_readRule wsX2_readSign := goodIn_r _ [108, 1, 109, 110, 111, 8, 112, 113, 114, 115, 116, 22, 23, 24, 25, 26, 27, 68, 69, 70, 71, 72, 73, 74, 75, 76, 77, 117, 118, 119, 120, 121, 122, 123, 124, 125, 126, 127] (by decide +kernel) (by decide +kernel)
set_option maxRecDepth 20000 in
theorem gX2_readRule_X2_readSign : GoodIn wsX2_readRule (wsV RX2 57 RX2 yX2_readSign wsX2_readSign) := goodIn_app (goodIn_of _ (by decide +kernel)) ggX2_readRule_X2_readSign
theorem dX2_readRule_0 : decode cX2_readRule 0 = .ok (.aload_n 0, 1) := by decide +kernel
theorem dX2_readRule_1 : decode cX2_readRule 1 = .ok (.ldc 67, 2) := by decide +kernel
theorem dX2_readRule_3 : decode cX2_readRule 3 = .ok (.invokevirtual 69, 3) := by decide +kernel
theorem dX2_readRule_6 : decode cX2_readRule 6 = .ok (.ifCond .ne 14, 3) := by decide +kernel
theorem dX2_readRule_9 : decode cX2_readRule 9 = .ok (.aload_n 0, 1) := by decide +kernel
theorem dX2_readRule_10 : decode cX2_readRule 10 = .ok (.bipush (-2), 2) := by decide +kernel
theorem dX2_readRule_12 : decode cX2_readRule 12 = .ok (.aload_n 0, 1) := by decide +kernel
theorem dX2_readRule_13 : decode cX2_readRule 13 = .ok (.getfield 46, 3) := by decide +kernel
theorem dX2_readRule_16 : decode cX2_readRule 16 = .ok (.invokevirtual 73, 3) := by decide +kernel
theorem dX2_readRule_19 : decode cX2_readRule 19 = .ok (.ireturn, 1) := by decide +kernel
theorem dX2_readRule_20 : decode cX2_readRule 20 = .ok (.aload_n 0, 1) := by decide +kernel
theorem dX2_readRule_21 : decode cX2_readRule 21 = .ok (.iconst 0, 1) := by decide +kernel
theorem dX2_readRule_22 : decode cX2_readRule 22 = .ok (.iconst 2, 1) := by decide +kernel
theorem dX2_readRule_23 : decode cX2_readRule 23 = .ok (.invokevirtual 77, 3) := by decide +kernel
theorem dX2_readRule_26 : decode cX2_readRule 26 = .ok (.ifCond .ne 5, 3) := by decide +kernel
theorem dX2_readRule_29 : decode cX2_readRule 29 = .ok (.iconst 0, 1) := by decide +kernel
theorem dX2_readRule_30 : decode cX2_readRule 30 = .ok (.ireturn, 1) := by decide +kernel
theorem dX2_readRule_31 : decode cX2_readRule 31 = .ok (.aload_n 0, 1) := by decide +kernel
theorem dX2_readRule_32 : decode cX2_readRule 32 = .ok (.aload_n 0, 1) := by decide +kernel
theorem dX2_readRule_33 : decode cX2_readRule 33 = .ok (.getfield 80, 3) := by decide +kernel
theorem dX2_readRule_36 : decode cX2_readRule 36 = .ok (.putfield 83, 3) := by decide +kernel
theorem dX2_readRule_39 : decode cX2_readRule 39 = .ok (.aload_n 0, 1) := by decide +kernel
theorem dX2_readRule_40 : decode cX2_readRule 40 = .ok (.iconst 1, 1) := by decide +kernel
theorem dX2_readRule_41 : decode cX2_readRule 41 = .ok (.bipush 8, 2) := by decide +kernel
theorem dX2_readRule_43 : decode cX2_readRule 43 = .ok (.invokevirtual 77, 3) := by decide +kernel
theorem dX2_readRule_46 : decode cX2_readRule 46 = .ok (.ifCond .ne 5, 3) := by decide +kernel
theorem dX2_readRule_49 : decode cX2_readRule 49 = .ok (.iconst 0, 1) := by decide +kernel
theorem dX2_readRule_50 : decode cX2_readRule 50 = .ok (.ireturn, 1) := by decide +kernel
theorem dX2_readRule_51 : decode cX2_readRule 51 = .ok (.aload_n 0, 1) := by decide +kernel
theorem dX2_readRule_52 : decode cX2_readRule 52 = .ok (.getfield 18, 3) := by decide +kernel
theorem dX2_readRule_55 : decode cX2_readRule 55 = .ok (.aload_n 0, 1) := by decide +kernel
theorem dX2_readRule_56 : decode cX2_readRule 56 = .ok (.getfield 83, 3) := by decide +kernel
theorem dX2_readRule_59 : decode cX2_readRule 59 = .ok (.aload_n 0, 1) := by decide +kernel
theorem dX2_readRule_60 : decode cX2_readRule 60 = .ok (.getfield 80, 3) := by decide +kernel
theorem dX2_readRule_63 : decode cX2_readRule 63 = .ok (.invokevirtual 86, 3) := by decide +kernel
theorem dX2_readRule_66 : decode cX2_readRule 66 = .ok (.aload_n 0, 1) := by decide +kernel
theorem dX2_readRule_67 : decode cX2_readRule 67 = .ok (.bipush 58, 2) := by decide +kernel
theorem dX2_readRule_69 : decode cX2_readRule 69 = .ok (.invokevirtual 57, 3) := by decide +kernel
theorem dX2_readRule_72 : decode cX2_readRule 72 = .ok (.ireturn, 1) := by decide +kernel
set_option maxRecDepth 20000 in
theorem ggX2_readValues_X2_isNext : GoodIn wsX2_readValues wsX2_isNext := goodIn_r _ [7, 8, 9, 10, 11, 6, 12, 13, 14, 91, 92, 93, 94, 95, 96, 97, 98, 99, 100, 101] (by decide +kernel) (by decide +kernel)
set_option maxRecDepth 20000 in
theorem gX2_readValues_X2_isNext : GoodIn wsX2_readValues (wsV RX2 90 RX2 yX2_isNext wsX2_isNext) := goodIn_app (goodIn_of _ (by decide +kernel)) ggX2_readValues_X2_isNext
set_option maxRecDepth 20000 in
theorem ggX2_readValues_X2_readValue : GoodIn wsX2_readValues wsX2_readValue := goodIn_r _ [18, 2, 19, 20, 21, 6, 22, 8, 3, 4, 5, 7, 9, 10, 11, 12, 13, 14, 23, 24, 25, 26, 27, 28, 29, 30, 31, 32, 33, 34, 35, 36, 37, 38, 39, 40, 41, 42, 43, 44, 91, 92, 93, 94, 95, 96, 97, 98, 99, 100, 101] (by decide +kernel) (by decide +kernel)
set_option maxRecDepth 20000 in
theorem gX2_readValues_X2_readValue : GoodIn wsX2_readValues (wsV RX2 93 RX2 yX2_readValue wsX2_readValue) := goodIn_app (goodIn_of _ (by decide +kernel)) ggX2_readValues_X2_readValue
set_option maxRecDepth 20000 in
theorem ggX2_readValues_X1_addAtEnd : GoodIn wsX2_readValues wsX1_addAtEnd := goodIn_r _ [49, 50, 51, 52, 53, 48, 54, 55, 102, 103, 104, 105, 106, 107, 108, 109, 110, 111, 112] (by decide +kernel) (by decide +kernel)
set_option maxRecDepth 20000 in
theorem gX2_readValues_X1_addAtEnd : GoodIn wsX2_readValues (wsV RX2 96 RX1 yX1_addAtEnd wsX1_addAtEnd) := goodIn_app (goodIn_of _ (by decide +kernel)) ggX2_readValues_X1_addAtEnd
set_option maxRecDepth 20000 in
theorem ggX2_readValues_X2_hasSign : GoodIn wsX2_readValues wsX2_hasSign := goodIn_r _ [22, 8, 3, 4, 5, 6, 7, 9, 10, 11, 12, 13, 14, 23, 24, 25, 26, 91, 92, 93, 94, 95, 96, 97, 98, 99, 100, 101] (by decide +kernel) (by decide +kernel)
set_option maxRecDepth 20000 in
theorem gX2_readValues_X2_hasSign : GoodIn wsX2_readValues (wsV RX2 99 RX2 yX2_hasSign wsX2_hasSign) := goodIn_app (goodIn_of _ (by decide +kernel)) ggX2_readValues_X2_hasSign
set_option maxRecDepth 20000 in
theorem ggX2_readValues_X2_refuseSurplusValue : GoodIn wsX2_readValues wsX2_refuseSurplusValue := goodIn_r _ [59, 8, 3, 4, 5, 6, 7, 9, 10, 11, 12, 13, 14, 39, 40, 41, 42, 43, 44, 27, 28, 29, 30, 31, 2, 32, 33, 34, 35, 36, 37, 38, 23, 24, 25, 26, 91, 92, 93, 94, 95, 96, 97, 98, 99, 100, 101] (by decide +kernel) (by decide +kernel)
set_option maxRecDepth 20000 in
theorem gX2_readValues_X2_refuseSurplusValue : GoodIn wsX2_readValues (wsV RX2 102 RX2 yX2_refuseSurplusValue wsX2_refuseSurplusValue) := goodIn_app (goodIn_of _ (by decide +kernel)) ggX2_readValues_X2_refuseSurplusValue
set_option maxRecDepth 20000 in
theorem ggX2_readValues_X1_buildAll : GoodIn wsX2_readValues wsX1_buildAll := goodIn_r _ [63, 50, 64, 65, 66, 67, 68, 48, 69, 70, 71, 72, 73, 74, 75, 76, 33, 34, 35, 77, 78, 79, 80, 81, 82, 83, 84, 85, 86, 87, 88, 89, 90, 55, 102, 103, 104, 105, 106, 107, 108, 109, 110, 111, 112] (by decide +kernel) (by decide +kernel)
set_option maxRecDepth 20000 in
theorem gX2_readValues_X1_buildAll : GoodIn wsX2_readValues (wsV RX2 105 RX1 yX1_buildAll wsX1_buildAll) := goodIn_app (goodIn_of _ (by decide +kernel)) ggX2_readValues_X1_buildAll
theorem dX2_readValues_0 : decode cX2_readValues 0 = .ok (.iconst 0, 1) := by decide +kernel
theorem dX2_readValues_1 : decode cX2_readValues 1 = .ok (.istore_n 1, 1) := by decide +kernel
theorem dX2_readValues_2 : decode cX2_readValues 2 = .ok (.iload_n 1, 1) := by decide +kernel
theorem dX2_readValues_3 : decode cX2_readValues 3 = .ok (.bipush 40, 2) := by decide +kernel
theorem dX2_readValues_5 : decode cX2_readValues 5 = .ok (.if_icmp .ge 42, 3) := by decide +kernel
theorem dX2_readValues_8 : decode cX2_readValues 8 = .ok (.iload_n 1, 1) := by decide +kernel
theorem dX2_readValues_9 : decode cX2_readValues 9 = .ok (.ifCond .eq 12, 3) := by decide +kernel
theorem dX2_readValues_12 : decode cX2_readValues 12 = .ok (.aload_n 0, 1) := by decide +kernel
theorem dX2_readValues_13 : decode cX2_readValues 13 = .ok (.bipush 59, 2) := by decide +kernel
theorem dX2_readValues_15 : decode cX2_readValues 15 = .ok (.invokevirtual 90, 3) := by decide +kernel
theorem dX2_readValues_18 : decode cX2_readValues 18 = .ok (.ifCond .ne 29, 3) := by decide +kernel
theorem dX2_readValues_21 : decode cX2_readValues 21 = .ok (.aload_n 0, 1) := by decide +kernel
theorem dX2_readValues_22 : decode cX2_readValues 22 = .ok (.invokevirtual 93, 3) := by decide +kernel
theorem dX2_readValues_25 : decode cX2_readValues 25 = .ok (.ifCond .ne 5, 3) := by decide +kernel
theorem dX2_readValues_28 : decode cX2_readValues 28 = .ok (.iconst 0, 1) := by decide +kernel
theorem dX2_readValues_29 : decode cX2_readValues 29 = .ok (.ireturn, 1) := by decide +kernel
theorem dX2_readValues_30 : decode cX2_readValues 30 = .ok (.aload_n 0, 1) := by decide +kernel
theorem dX2_readValues_31 : decode cX2_readValues 31 = .ok (.getfield 18, 3) := by decide +kernel
theorem dX2_readValues_34 : decode cX2_readValues 34 = .ok (.aload_n 0, 1) := by decide +kernel
theorem dX2_readValues_35 : decode cX2_readValues 35 = .ok (.getfield 80, 3) := by decide +kernel
theorem dX2_readValues_38 : decode cX2_readValues 38 = .ok (.invokevirtual 96, 3) := by decide +kernel
theorem dX2_readValues_41 : decode cX2_readValues 41 = .ok (.iinc 1 1, 3) := by decide +kernel
theorem dX2_readValues_44 : decode cX2_readValues 44 = .ok (.goto (-42), 3) := by decide +kernel
theorem dX2_readValues_47 : decode cX2_readValues 47 = .ok (.aload_n 0, 1) := by decide +kernel
theorem dX2_readValues_48 : decode cX2_readValues 48 = .ok (.bipush 59, 2) := by decide +kernel
theorem dX2_readValues_50 : decode cX2_readValues 50 = .ok (.invokevirtual 99, 3) := by decide +kernel
theorem dX2_readValues_53 : decode cX2_readValues 53 = .ok (.ifCond .ne 8, 3) := by decide +kernel
theorem dX2_readValues_56 : decode cX2_readValues 56 = .ok (.aload_n 0, 1) := by decide +kernel
theorem dX2_readValues_57 : decode cX2_readValues 57 = .ok (.invokevirtual 102, 3) := by decide +kernel
theorem dX2_readValues_60 : decode cX2_readValues 60 = .ok (.ireturn, 1) := by decide +kernel
theorem dX2_readValues_61 : decode cX2_readValues 61 = .ok (.aload_n 0, 1) := by decide +kernel
theorem dX2_readValues_62 : decode cX2_readValues 62 = .ok (.getfield 18, 3) := by decide +kernel
theorem dX2_readValues_65 : decode cX2_readValues 65 = .ok (.invokevirtual 105, 3) := by decide +kernel
theorem dX2_readValues_68 : decode cX2_readValues 68 = .ok (.iconst 1, 1) := by decide +kernel
theorem dX2_readValues_69 : decode cX2_readValues 69 = .ok (.ireturn, 1) := by decide +kernel
set_option maxRecDepth 20000 in
theorem ggX2_refuseSurplusValue_X2_isNext : GoodIn wsX2_refuseSurplusValue wsX2_isNext := goodIn_r _ [6, 1, 7, 8, 9, 5, 10, 11, 12, 36, 37, 38, 39, 40, 41, 42, 43, 44, 45, 46] (by decide +kernel) (by decide +kernel)
set_option maxRecDepth 20000 in
theorem gX2_refuseSurplusValue_X2_isNext : GoodIn wsX2_refuseSurplusValue (wsV RX2 90 RX2 yX2_isNext wsX2_isNext) := goodIn_app (goodIn_of _ (by decide +kernel)) ggX2_refuseSurplusValue_X2_isNext
set_option maxRecDepth 20000 in
theorem ggX2_refuseSurplusValue_X2_fail : GoodIn wsX2_refuseSurplusValue wsX2_fail := goodIn_r _ [16, 17, 18, 36, 37, 38, 39, 40, 41, 42, 43, 44, 45, 46] (by decide +kernel) (by decide +kernel)
set_option maxRecDepth 20000 in
theorem gX2_refuseSurplusValue_X2_fail : GoodIn wsX2_refuseSurplusValue (wsV RX2 73 RX2 yX2_fail wsX2_fail) := goodIn_app (goodIn_of _ (by decide +kernel)) ggX2_refuseSurplusValue_X2_fail
set_option maxRecDepth 20000 in
theorem ggX2_refuseSurplusValue_X2_readNumber : GoodIn wsX2_refuseSurplusValue wsX2_readNumber := goodIn_r _ [22, 1, 23, 24, 11, 25, 26, 27, 28, 7, 8, 9, 5, 10, 12, 29, 30, 31, 13, 14, 15, 16, 17, 18, 32, 33, 34, 35, 36, 37, 38, 39, 40, 41, 42, 43, 44, 45, 46] (by decide +kernel) (by decide +kernel)
set_option maxRecDepth 20000 in
theorem gX2_refuseSurplusValue_X2_readNumber : GoodIn wsX2_refuseSurplusValue (wsV RX2 77 RX2 yX2_readNumber wsX2_readNumber) := goodIn_app (goodIn_of _ (by decide +kernel)) ggX2_refuseSurplusValue_X2_readNumber
theorem dX2_refuseSurplusValue_0 : decode cX2_refuseSurplusValue 0 = .ok (.aload_n 0, 1) := by decide +kernel
theorem dX2_refuseSurplusValue_1 : decode cX2_refuseSurplusValue 1 = .ok (.getfield 46, 3) := by decide +kernel
theorem dX2_refuseSurplusValue_4 : decode cX2_refuseSurplusValue 4 = .ok (.istore_n 1, 1) := by decide +kernel
theorem dX2_refuseSurplusValue_5 : decode cX2_refuseSurplusValue 5 = .ok (.aload_n 0, 1) := by decide +kernel
theorem dX2_refuseSurplusValue_6 : decode cX2_refuseSurplusValue 6 = .ok (.bipush 45, 2) := by decide +kernel
theorem dX2_refuseSurplusValue_8 : decode cX2_refuseSurplusValue 8 = .ok (.invokevirtual 90, 3) := by decide +kernel
theorem dX2_refuseSurplusValue_11 : decode cX2_refuseSurplusValue 11 = .ok (.ifCond .eq 11, 3) := by decide +kernel
theorem dX2_refuseSurplusValue_14 : decode cX2_refuseSurplusValue 14 = .ok (.aload_n 0, 1) := by decide +kernel
theorem dX2_refuseSurplusValue_15 : decode cX2_refuseSurplusValue 15 = .ok (.bipush (-4), 2) := by decide +kernel
theorem dX2_refuseSurplusValue_17 : decode cX2_refuseSurplusValue 17 = .ok (.iload_n 1, 1) := by decide +kernel
theorem dX2_refuseSurplusValue_18 : decode cX2_refuseSurplusValue 18 = .ok (.invokevirtual 73, 3) := by decide +kernel
theorem dX2_refuseSurplusValue_21 : decode cX2_refuseSurplusValue 21 = .ok (.ireturn, 1) := by decide +kernel
theorem dX2_refuseSurplusValue_22 : decode cX2_refuseSurplusValue 22 = .ok (.aload_n 0, 1) := by decide +kernel
theorem dX2_refuseSurplusValue_23 : decode cX2_refuseSurplusValue 23 = .ok (.iconst 0, 1) := by decide +kernel
theorem dX2_refuseSurplusValue_24 : decode cX2_refuseSurplusValue 24 = .ok (.sipush 999, 3) := by decide +kernel
theorem dX2_refuseSurplusValue_27 : decode cX2_refuseSurplusValue 27 = .ok (.invokevirtual 77, 3) := by decide +kernel
theorem dX2_refuseSurplusValue_30 : decode cX2_refuseSurplusValue 30 = .ok (.ifCond .eq 17, 3) := by decide +kernel
theorem dX2_refuseSurplusValue_33 : decode cX2_refuseSurplusValue 33 = .ok (.aload_n 0, 1) := by decide +kernel
theorem dX2_refuseSurplusValue_34 : decode cX2_refuseSurplusValue 34 = .ok (.bipush (-4), 2) := by decide +kernel
theorem dX2_refuseSurplusValue_36 : decode cX2_refuseSurplusValue 36 = .ok (.iload_n 1, 1) := by decide +kernel
theorem dX2_refuseSurplusValue_37 : decode cX2_refuseSurplusValue 37 = .ok (.invokevirtual 73, 3) := by decide +kernel
theorem dX2_refuseSurplusValue_40 : decode cX2_refuseSurplusValue 40 = .ok (.ifCond .eq 7, 3) := by decide +kernel
theorem dX2_refuseSurplusValue_43 : decode cX2_refuseSurplusValue 43 = .ok (.iconst 1, 1) := by decide +kernel
theorem dX2_refuseSurplusValue_44 : decode cX2_refuseSurplusValue 44 = .ok (.goto 4, 3) := by decide +kernel
theorem dX2_refuseSurplusValue_47 : decode cX2_refuseSurplusValue 47 = .ok (.iconst 0, 1) := by decide +kernel
theorem dX2_refuseSurplusValue_48 : decode cX2_refuseSurplusValue 48 = .ok (.ireturn, 1) := by decide +kernel
set_option maxRecDepth 20000 in
theorem ggX2_readKind_X2_hasWord : GoodIn wsX2_readKind wsX2_hasWord := goodIn_r _ [6, 1, 7, 8, 9, 10, 11, 12, 13, 14, 15, 16, 17, 18, 19, 20, 21, 5, 22, 23, 24, 25, 26, 27, 28, 29, 30, 31, 32, 33, 34, 35, 36, 37, 38, 39, 40, 41, 42, 43, 44, 45, 46, 47, 48, 49, 50, 51, 52, 53, 54, 55, 56, 57, 58, 59, 60, 61, 62, 63, 64, 65, 66, 67, 68, 75, 76, 77, 78, 79, 80, 81, 82, 83, 84, 85, 86, 87, 88, 89] (by decide +kernel) (by decide +kernel)
set_option maxRecDepth 20000 in
theorem gX2_readKind_X2_hasWord : GoodIn wsX2_readKind (wsV RX2 69 RX2 yX2_hasWord wsX2_hasWord) := goodIn_app (goodIn_of _ (by decide +kernel)) ggX2_readKind_X2_hasWord
set_option maxRecDepth 20000 in
theorem ggX2_readKind_X2_fail : GoodIn wsX2_readKind wsX2_fail := goodIn_r _ [72, 73, 74, 75, 76, 77, 78, 79, 80, 81, 82, 83, 84, 85] (by decide +kernel) (by decide +kernel)
set_option maxRecDepth 20000 in
theorem gX2_readKind_X2_fail : GoodIn wsX2_readKind (wsV RX2 73 RX2 yX2_fail wsX2_fail) := goodIn_app (goodIn_of _ (by decide +kernel)) ggX2_readKind_X2_fail
theorem dX2_readKind_0 : decode cX2_readKind 0 = .ok (.aload_n 0, 1) := by decide +kernel
theorem dX2_readKind_1 : decode cX2_readKind 1 = .ok (.ldc 108, 2) := by decide +kernel
theorem dX2_readKind_3 : decode cX2_readKind 3 = .ok (.invokevirtual 69, 3) := by decide +kernel
theorem dX2_readKind_6 : decode cX2_readKind 6 = .ok (.ifCond .eq 5, 3) := by decide +kernel
theorem dX2_readKind_9 : decode cX2_readKind 9 = .ok (.iconst 1, 1) := by decide +kernel
theorem dX2_readKind_10 : decode cX2_readKind 10 = .ok (.ireturn, 1) := by decide +kernel
theorem dX2_readKind_11 : decode cX2_readKind 11 = .ok (.aload_n 0, 1) := by decide +kernel
theorem dX2_readKind_12 : decode cX2_readKind 12 = .ok (.ldc 110, 2) := by decide +kernel
theorem dX2_readKind_14 : decode cX2_readKind 14 = .ok (.invokevirtual 69, 3) := by decide +kernel
theorem dX2_readKind_17 : decode cX2_readKind 17 = .ok (.ifCond .eq 5, 3) := by decide +kernel
theorem dX2_readKind_20 : decode cX2_readKind 20 = .ok (.iconst 2, 1) := by decide +kernel
theorem dX2_readKind_21 : decode cX2_readKind 21 = .ok (.ireturn, 1) := by decide +kernel
theorem dX2_readKind_22 : decode cX2_readKind 22 = .ok (.aload_n 0, 1) := by decide +kernel
theorem dX2_readKind_23 : decode cX2_readKind 23 = .ok (.ldc 112, 2) := by decide +kernel
theorem dX2_readKind_25 : decode cX2_readKind 25 = .ok (.invokevirtual 69, 3) := by decide +kernel
theorem dX2_readKind_28 : decode cX2_readKind 28 = .ok (.ifCond .eq 5, 3) := by decide +kernel
theorem dX2_readKind_31 : decode cX2_readKind 31 = .ok (.iconst 3, 1) := by decide +kernel
theorem dX2_readKind_32 : decode cX2_readKind 32 = .ok (.ireturn, 1) := by decide +kernel
theorem dX2_readKind_33 : decode cX2_readKind 33 = .ok (.aload_n 0, 1) := by decide +kernel
theorem dX2_readKind_34 : decode cX2_readKind 34 = .ok (.ldc 114, 2) := by decide +kernel
theorem dX2_readKind_36 : decode cX2_readKind 36 = .ok (.invokevirtual 69, 3) := by decide +kernel
theorem dX2_readKind_39 : decode cX2_readKind 39 = .ok (.ifCond .eq 5, 3) := by decide +kernel
theorem dX2_readKind_42 : decode cX2_readKind 42 = .ok (.iconst 4, 1) := by decide +kernel
theorem dX2_readKind_43 : decode cX2_readKind 43 = .ok (.ireturn, 1) := by decide +kernel
theorem dX2_readKind_44 : decode cX2_readKind 44 = .ok (.aload_n 0, 1) := by decide +kernel
theorem dX2_readKind_45 : decode cX2_readKind 45 = .ok (.ldc 116, 2) := by decide +kernel
theorem dX2_readKind_47 : decode cX2_readKind 47 = .ok (.invokevirtual 69, 3) := by decide +kernel
theorem dX2_readKind_50 : decode cX2_readKind 50 = .ok (.ifCond .eq 5, 3) := by decide +kernel
theorem dX2_readKind_53 : decode cX2_readKind 53 = .ok (.iconst 5, 1) := by decide +kernel
theorem dX2_readKind_54 : decode cX2_readKind 54 = .ok (.ireturn, 1) := by decide +kernel
theorem dX2_readKind_55 : decode cX2_readKind 55 = .ok (.aload_n 0, 1) := by decide +kernel
theorem dX2_readKind_56 : decode cX2_readKind 56 = .ok (.bipush (-2), 2) := by decide +kernel
theorem dX2_readKind_58 : decode cX2_readKind 58 = .ok (.aload_n 0, 1) := by decide +kernel
theorem dX2_readKind_59 : decode cX2_readKind 59 = .ok (.getfield 46, 3) := by decide +kernel
theorem dX2_readKind_62 : decode cX2_readKind 62 = .ok (.invokevirtual 73, 3) := by decide +kernel
theorem dX2_readKind_65 : decode cX2_readKind 65 = .ok (.pop, 1) := by decide +kernel
theorem dX2_readKind_66 : decode cX2_readKind 66 = .ok (.iconst 0, 1) := by decide +kernel
theorem dX2_readKind_67 : decode cX2_readKind 67 = .ok (.ireturn, 1) := by decide +kernel
set_option maxRecDepth 20000 in
theorem ggX2_readArguments_X2_readFirst : GoodIn wsX2_readArguments wsX2_readFirst := goodIn_r _ [10, 2, 3, 4, 1, 11, 12, 13, 14, 15, 16, 9, 17, 18, 19, 20, 21, 22, 23, 24, 25, 26, 27, 28, 29, 30, 31, 32, 33, 34, 35, 36, 37, 38, 39, 40, 41, 54, 55, 56, 57, 58, 59, 60, 61, 62, 63, 64, 65, 66, 67, 68, 69, 70, 71, 72, 73, 74, 75, 76, 77, 78] (by decide +kernel) (by decide +kernel)
set_option maxRecDepth 20000 in
theorem gX2_readArguments_X2_readFirst : GoodIn wsX2_readArguments (wsV RX2 118 RX2 yX2_readFirst wsX2_readFirst) := goodIn_app (goodIn_of _ (by decide +kernel)) ggX2_readArguments_X2_readFirst
set_option maxRecDepth 20000 in
theorem ggX2_readArguments_X2_readNumber : GoodIn wsX2_readArguments wsX2_readNumber := goodIn_r _ [17, 18, 13, 4, 19, 20, 21, 22, 23, 24, 25, 26, 9, 27, 28, 29, 30, 31, 32, 33, 34, 35, 36, 37, 38, 39, 40, 41, 54, 55, 56, 57, 58, 59, 60, 61, 62, 63, 64] (by decide +kernel) (by decide +kernel)
set_option maxRecDepth 20000 in
theorem gX2_readArguments_X2_readNumber : GoodIn wsX2_readArguments (wsV RX2 77 RX2 yX2_readNumber wsX2_readNumber) := goodIn_app (goodIn_of _ (by decide +kernel)) ggX2_readArguments_X2_readNumber
set_option maxRecDepth 20000 in
theorem ggX2_readArguments_X2_readValue : GoodIn wsX2_readArguments wsX2_readValue := goodIn_r _ [45, 4, 46, 47, 48, 9, 49, 18, 50, 51, 52, 53, 24, 25, 26, 27, 19, 28, 38, 39, 40, 41, 14, 15, 16, 17, 13, 20, 21, 22, 23, 29, 30, 31, 32, 33, 34, 35, 36, 37, 54, 55, 56, 57, 58, 59, 60, 61, 62, 63, 64] (by decide +kernel) (by decide +kernel)
set_option maxRecDepth 20000 in
theorem gX2_readArguments_X2_readValue : GoodIn wsX2_readArguments (wsV RX2 93 RX2 yX2_readValue wsX2_readValue) := goodIn_app (goodIn_of _ (by decide +kernel)) ggX2_readArguments_X2_readValue
theorem dX2_readArguments_0 : decode cX2_readArguments 0 = .ok (.iload_n 1, 1) := by decide +kernel
theorem dX2_readArguments_1 : decode cX2_readArguments 1 = .ok (.ifCond .eq 11, 3) := by decide +kernel
theorem dX2_readArguments_4 : decode cX2_readArguments 4 = .ok (.aload_n 0, 1) := by decide +kernel
theorem dX2_readArguments_5 : decode cX2_readArguments 5 = .ok (.iload_n 1, 1) := by decide +kernel
theorem dX2_readArguments_6 : decode cX2_readArguments 6 = .ok (.invokevirtual 118, 3) := by decide +kernel
theorem dX2_readArguments_9 : decode cX2_readArguments 9 = .ok (.ifCond .ne 5, 3) := by decide +kernel
theorem dX2_readArguments_12 : decode cX2_readArguments 12 = .ok (.iconst 0, 1) := by decide +kernel
theorem dX2_readArguments_13 : decode cX2_readArguments 13 = .ok (.ireturn, 1) := by decide +kernel
theorem dX2_readArguments_14 : decode cX2_readArguments 14 = .ok (.iload_n 1, 1) := by decide +kernel
theorem dX2_readArguments_15 : decode cX2_readArguments 15 = .ok (.iconst 5, 1) := by decide +kernel
theorem dX2_readArguments_16 : decode cX2_readArguments 16 = .ok (.if_icmp .ne 5, 3) := by decide +kernel
theorem dX2_readArguments_19 : decode cX2_readArguments 19 = .ok (.iconst 1, 1) := by decide +kernel
theorem dX2_readArguments_20 : decode cX2_readArguments 20 = .ok (.ireturn, 1) := by decide +kernel
theorem dX2_readArguments_21 : decode cX2_readArguments 21 = .ok (.iload_n 1, 1) := by decide +kernel
theorem dX2_readArguments_22 : decode cX2_readArguments 22 = .ok (.iconst 2, 1) := by decide +kernel
theorem dX2_readArguments_23 : decode cX2_readArguments 23 = .ok (.if_icmp .eq 8, 3) := by decide +kernel
theorem dX2_readArguments_26 : decode cX2_readArguments 26 = .ok (.iload_n 1, 1) := by decide +kernel
theorem dX2_readArguments_27 : decode cX2_readArguments 27 = .ok (.iconst 3, 1) := by decide +kernel
theorem dX2_readArguments_28 : decode cX2_readArguments 28 = .ok (.if_icmp .ne 7, 3) := by decide +kernel
theorem dX2_readArguments_31 : decode cX2_readArguments 31 = .ok (.iconst 1, 1) := by decide +kernel
theorem dX2_readArguments_32 : decode cX2_readArguments 32 = .ok (.goto 4, 3) := by decide +kernel
theorem dX2_readArguments_35 : decode cX2_readArguments 35 = .ok (.iconst 0, 1) := by decide +kernel
theorem dX2_readArguments_36 : decode cX2_readArguments 36 = .ok (.istore_n 2, 1) := by decide +kernel
theorem dX2_readArguments_37 : decode cX2_readArguments 37 = .ok (.iload_n 2, 1) := by decide +kernel
theorem dX2_readArguments_38 : decode cX2_readArguments 38 = .ok (.ifCond .eq 26, 3) := by decide +kernel
theorem dX2_readArguments_41 : decode cX2_readArguments 41 = .ok (.aload_n 0, 1) := by decide +kernel
theorem dX2_readArguments_42 : decode cX2_readArguments 42 = .ok (.aload_n 0, 1) := by decide +kernel
theorem dX2_readArguments_43 : decode cX2_readArguments 43 = .ok (.getfield 83, 3) := by decide +kernel
theorem dX2_readArguments_46 : decode cX2_readArguments 46 = .ok (.aload_n 0, 1) := by decide +kernel
theorem dX2_readArguments_47 : decode cX2_readArguments 47 = .ok (.getfield 18, 3) := by decide +kernel
theorem dX2_readArguments_50 : decode cX2_readArguments 50 = .ok (.getfield 64, 3) := by decide +kernel
theorem dX2_readArguments_53 : decode cX2_readArguments 53 = .ok (.iconst 1, 1) := by decide +kernel
theorem dX2_readArguments_54 : decode cX2_readArguments 54 = .ok (.isub, 1) := by decide +kernel
theorem dX2_readArguments_55 : decode cX2_readArguments 55 = .ok (.invokevirtual 77, 3) := by decide +kernel
theorem dX2_readArguments_58 : decode cX2_readArguments 58 = .ok (.ifCond .eq 13, 3) := by decide +kernel
theorem dX2_readArguments_61 : decode cX2_readArguments 61 = .ok (.goto 12, 3) := by decide +kernel
theorem dX2_readArguments_64 : decode cX2_readArguments 64 = .ok (.aload_n 0, 1) := by decide +kernel
theorem dX2_readArguments_65 : decode cX2_readArguments 65 = .ok (.invokevirtual 93, 3) := by decide +kernel
theorem dX2_readArguments_68 : decode cX2_readArguments 68 = .ok (.ifCond .ne 5, 3) := by decide +kernel
theorem dX2_readArguments_71 : decode cX2_readArguments 71 = .ok (.iconst 0, 1) := by decide +kernel
theorem dX2_readArguments_72 : decode cX2_readArguments 72 = .ok (.ireturn, 1) := by decide +kernel
theorem dX2_readArguments_73 : decode cX2_readArguments 73 = .ok (.aload_n 0, 1) := by decide +kernel
theorem dX2_readArguments_74 : decode cX2_readArguments 74 = .ok (.aload_n 0, 1) := by decide +kernel
theorem dX2_readArguments_75 : decode cX2_readArguments 75 = .ok (.getfield 80, 3) := by decide +kernel
theorem dX2_readArguments_78 : decode cX2_readArguments 78 = .ok (.putfield 121, 3) := by decide +kernel
theorem dX2_readArguments_81 : decode cX2_readArguments 81 = .ok (.iconst 1, 1) := by decide +kernel
theorem dX2_readArguments_82 : decode cX2_readArguments 82 = .ok (.ireturn, 1) := by decide +kernel
set_option maxRecDepth 20000 in
theorem ggX2_readFirst_X2_readNumber : GoodIn wsX2_readFirst wsX2_readNumber := goodIn_r _ [12, 13, 7, 3, 14, 15, 16, 17, 18, 19, 20, 21, 11, 22, 23, 24, 25, 26, 27, 28, 29, 30, 31, 32, 33, 34, 35, 36, 37, 38, 39, 40, 41, 42, 43, 44, 45, 46, 47] (by decide +kernel) (by decide +kernel)
set_option maxRecDepth 20000 in
theorem gX2_readFirst_X2_readNumber : GoodIn wsX2_readFirst (wsV RX2 77 RX2 yX2_readNumber wsX2_readNumber) := goodIn_app (goodIn_of _ (by decide +kernel)) ggX2_readFirst_X2_readNumber
set_option maxRecDepth 20000 in
theorem ggX2_readFirst_X2_fail : GoodIn wsX2_readFirst wsX2_fail := goodIn_r _ [30, 31, 32, 37, 38, 39, 40, 41, 42, 43, 44, 45, 46, 47] (by decide +kernel) (by decide +kernel)
set_option maxRecDepth 20000 in
theorem gX2_readFirst_X2_fail : GoodIn wsX2_readFirst (wsV RX2 73 RX2 yX2_fail wsX2_fail) := goodIn_app (goodIn_of _ (by decide +kernel)) ggX2_readFirst_X2_fail
theorem dX2_readFirst_0 : decode cX2_readFirst 0 = .ok (.aload_n 0, 1) := by decide +kernel
theorem dX2_readFirst_1 : decode cX2_readFirst 1 = .ok (.iconst 0, 1) := by decide +kernel
theorem dX2_readFirst_2 : decode cX2_readFirst 2 = .ok (.iload_n 1, 1) := by decide +kernel
theorem dX2_readFirst_3 : decode cX2_readFirst 3 = .ok (.iconst 4, 1) := by decide +kernel
theorem dX2_readFirst_4 : decode cX2_readFirst 4 = .ok (.if_icmp .ne 13, 3) := by decide +kernel
theorem dX2_readFirst_7 : decode cX2_readFirst 7 = .ok (.aload_n 0, 1) := by decide +kernel
theorem dX2_readFirst_8 : decode cX2_readFirst 8 = .ok (.getfield 18, 3) := by decide +kernel
theorem dX2_readFirst_11 : decode cX2_readFirst 11 = .ok (.getfield 64, 3) := by decide +kernel
theorem dX2_readFirst_14 : decode cX2_readFirst 14 = .ok (.goto 12, 3) := by decide +kernel
theorem dX2_readFirst_17 : decode cX2_readFirst 17 = .ok (.aload_n 0, 1) := by decide +kernel
theorem dX2_readFirst_18 : decode cX2_readFirst 18 = .ok (.getfield 18, 3) := by decide +kernel
theorem dX2_readFirst_21 : decode cX2_readFirst 21 = .ok (.getfield 64, 3) := by decide +kernel
theorem dX2_readFirst_24 : decode cX2_readFirst 24 = .ok (.iconst 1, 1) := by decide +kernel
theorem dX2_readFirst_25 : decode cX2_readFirst 25 = .ok (.isub, 1) := by decide +kernel
theorem dX2_readFirst_26 : decode cX2_readFirst 26 = .ok (.invokevirtual 77, 3) := by decide +kernel
theorem dX2_readFirst_29 : decode cX2_readFirst 29 = .ok (.ifCond .ne 5, 3) := by decide +kernel
theorem dX2_readFirst_32 : decode cX2_readFirst 32 = .ok (.iconst 0, 1) := by decide +kernel
theorem dX2_readFirst_33 : decode cX2_readFirst 33 = .ok (.ireturn, 1) := by decide +kernel
theorem dX2_readFirst_34 : decode cX2_readFirst 34 = .ok (.aload_n 0, 1) := by decide +kernel
theorem dX2_readFirst_35 : decode cX2_readFirst 35 = .ok (.aload_n 0, 1) := by decide +kernel
theorem dX2_readFirst_36 : decode cX2_readFirst 36 = .ok (.getfield 80, 3) := by decide +kernel
theorem dX2_readFirst_39 : decode cX2_readFirst 39 = .ok (.putfield 83, 3) := by decide +kernel
theorem dX2_readFirst_42 : decode cX2_readFirst 42 = .ok (.iload_n 1, 1) := by decide +kernel
theorem dX2_readFirst_43 : decode cX2_readFirst 43 = .ok (.iconst 4, 1) := by decide +kernel
theorem dX2_readFirst_44 : decode cX2_readFirst 44 = .ok (.if_icmp .ne 19, 3) := by decide +kernel
theorem dX2_readFirst_47 : decode cX2_readFirst 47 = .ok (.aload_n 0, 1) := by decide +kernel
theorem dX2_readFirst_48 : decode cX2_readFirst 48 = .ok (.getfield 18, 3) := by decide +kernel
theorem dX2_readFirst_51 : decode cX2_readFirst 51 = .ok (.getfield 64, 3) := by decide +kernel
theorem dX2_readFirst_54 : decode cX2_readFirst 54 = .ok (.bipush 40, 2) := by decide +kernel
theorem dX2_readFirst_56 : decode cX2_readFirst 56 = .ok (.if_icmp .lt 7, 3) := by decide +kernel
theorem dX2_readFirst_59 : decode cX2_readFirst 59 = .ok (.iconst 1, 1) := by decide +kernel
theorem dX2_readFirst_60 : decode cX2_readFirst 60 = .ok (.goto 4, 3) := by decide +kernel
theorem dX2_readFirst_63 : decode cX2_readFirst 63 = .ok (.iconst 0, 1) := by decide +kernel
theorem dX2_readFirst_64 : decode cX2_readFirst 64 = .ok (.istore_n 2, 1) := by decide +kernel
theorem dX2_readFirst_65 : decode cX2_readFirst 65 = .ok (.iload_n 1, 1) := by decide +kernel
theorem dX2_readFirst_66 : decode cX2_readFirst 66 = .ok (.iconst 3, 1) := by decide +kernel
theorem dX2_readFirst_67 : decode cX2_readFirst 67 = .ok (.if_icmp .ne 22, 3) := by decide +kernel
theorem dX2_readFirst_70 : decode cX2_readFirst 70 = .ok (.aload_n 0, 1) := by decide +kernel
theorem dX2_readFirst_71 : decode cX2_readFirst 71 = .ok (.getfield 18, 3) := by decide +kernel
theorem dX2_readFirst_74 : decode cX2_readFirst 74 = .ok (.getfield 124, 3) := by decide +kernel
theorem dX2_readFirst_77 : decode cX2_readFirst 77 = .ok (.getfield 128, 3) := by decide +kernel
theorem dX2_readFirst_80 : decode cX2_readFirst 80 = .ok (.bipush 8, 2) := by decide +kernel
theorem dX2_readFirst_82 : decode cX2_readFirst 82 = .ok (.if_icmp .lt 7, 3) := by decide +kernel
theorem dX2_readFirst_85 : decode cX2_readFirst 85 = .ok (.iconst 1, 1) := by decide +kernel
theorem dX2_readFirst_86 : decode cX2_readFirst 86 = .ok (.goto 4, 3) := by decide +kernel
theorem dX2_readFirst_89 : decode cX2_readFirst 89 = .ok (.iconst 0, 1) := by decide +kernel
theorem dX2_readFirst_90 : decode cX2_readFirst 90 = .ok (.istore_n 3, 1) := by decide +kernel
theorem dX2_readFirst_91 : decode cX2_readFirst 91 = .ok (.iload_n 2, 1) := by decide +kernel
theorem dX2_readFirst_92 : decode cX2_readFirst 92 = .ok (.ifCond .ne 7, 3) := by decide +kernel
theorem dX2_readFirst_95 : decode cX2_readFirst 95 = .ok (.iload_n 3, 1) := by decide +kernel
theorem dX2_readFirst_96 : decode cX2_readFirst 96 = .ok (.ifCond .eq 14, 3) := by decide +kernel
theorem dX2_readFirst_99 : decode cX2_readFirst 99 = .ok (.aload_n 0, 1) := by decide +kernel
theorem dX2_readFirst_100 : decode cX2_readFirst 100 = .ok (.bipush (-4), 2) := by decide +kernel
theorem dX2_readFirst_102 : decode cX2_readFirst 102 = .ok (.aload_n 0, 1) := by decide +kernel
theorem dX2_readFirst_103 : decode cX2_readFirst 103 = .ok (.getfield 131, 3) := by decide +kernel
theorem dX2_readFirst_106 : decode cX2_readFirst 106 = .ok (.invokevirtual 73, 3) := by decide +kernel
theorem dX2_readFirst_109 : decode cX2_readFirst 109 = .ok (.ireturn, 1) := by decide +kernel
theorem dX2_readFirst_110 : decode cX2_readFirst 110 = .ok (.iload_n 1, 1) := by decide +kernel
theorem dX2_readFirst_111 : decode cX2_readFirst 111 = .ok (.iconst 5, 1) := by decide +kernel
theorem dX2_readFirst_112 : decode cX2_readFirst 112 = .ok (.if_icmp .ne 25, 3) := by decide +kernel
theorem dX2_readFirst_115 : decode cX2_readFirst 115 = .ok (.aload_n 0, 1) := by decide +kernel
theorem dX2_readFirst_116 : decode cX2_readFirst 116 = .ok (.getfield 18, 3) := by decide +kernel
theorem dX2_readFirst_119 : decode cX2_readFirst 119 = .ok (.getfield 64, 3) := by decide +kernel
theorem dX2_readFirst_122 : decode cX2_readFirst 122 = .ok (.iconst 1, 1) := by decide +kernel
theorem dX2_readFirst_123 : decode cX2_readFirst 123 = .ok (.if_icmp .ne 14, 3) := by decide +kernel
theorem dX2_readFirst_126 : decode cX2_readFirst 126 = .ok (.aload_n 0, 1) := by decide +kernel
theorem dX2_readFirst_127 : decode cX2_readFirst 127 = .ok (.bipush (-5), 2) := by decide +kernel
theorem dX2_readFirst_129 : decode cX2_readFirst 129 = .ok (.aload_n 0, 1) := by decide +kernel
theorem dX2_readFirst_130 : decode cX2_readFirst 130 = .ok (.getfield 131, 3) := by decide +kernel
theorem dX2_readFirst_133 : decode cX2_readFirst 133 = .ok (.invokevirtual 73, 3) := by decide +kernel
theorem dX2_readFirst_136 : decode cX2_readFirst 136 = .ok (.ireturn, 1) := by decide +kernel
theorem dX2_readFirst_137 : decode cX2_readFirst 137 = .ok (.iconst 1, 1) := by decide +kernel
theorem dX2_readFirst_138 : decode cX2_readFirst 138 = .ok (.ireturn, 1) := by decide +kernel
set_option maxRecDepth 20000 in
theorem ggX2_carryOut_X1_change : GoodIn wsX2_carryOut wsX1_change := goodIn_r _ [9, 10, 11, 12, 13, 14, 15, 8, 16, 17, 18, 19, 20, 21, 22, 23, 24, 25, 26, 27, 28, 29, 30, 31, 32, 33, 34, 35, 36, 37, 38, 39, 40, 41, 42, 43, 44, 45, 46, 47, 48, 49, 50, 51, 52, 53, 54, 55, 56, 57, 58, 59, 60, 61, 62, 148, 149, 150, 151, 152, 153, 154, 155, 156, 157, 158] (by decide +kernel) (by decide +kernel)
set_option maxRecDepth 20000 in
theorem gX2_carryOut_X1_change : GoodIn wsX2_carryOut (wsV RX2 134 RX1 yX1_change wsX1_change) := goodIn_app (goodIn_of _ (by decide +kernel)) ggX2_carryOut_X1_change
set_option maxRecDepth 20000 in
theorem ggX2_carryOut_X1_question : GoodIn wsX2_carryOut wsX1_question := goodIn_r _ [66, 67, 68, 11, 69, 70, 71, 8, 72, 10, 58, 59, 60, 61, 32, 62, 22, 23, 24, 25, 26, 27, 28, 29, 30, 31, 33, 34, 35, 36, 37, 38, 39, 40, 41, 42, 43, 44, 45, 46, 47, 48, 49, 50, 17, 73, 74, 75, 76, 77, 78, 79, 80, 81, 82, 83, 84, 85, 86, 87, 88, 89, 90, 91, 92, 93, 94, 95, 148, 149, 150, 151, 152, 153, 154, 155, 156, 157, 158] (by decide +kernel) (by decide +kernel)
set_option maxRecDepth 20000 in
theorem gX2_carryOut_X1_question : GoodIn wsX2_carryOut (wsV RX2 138 RX1 yX1_question wsX1_question) := goodIn_app (goodIn_of _ (by decide +kernel)) ggX2_carryOut_X1_question
set_option maxRecDepth 20000 in
theorem ggX2_carryOut_X3_add : GoodIn wsX2_carryOut wsX3_add := goodIn_r _ [100, 101, 102, 103, 104, 99, 105, 106, 107, 159, 160, 161] (by decide +kernel) (by decide +kernel)
set_option maxRecDepth 20000 in
theorem gX2_carryOut_X3_add : GoodIn wsX2_carryOut (wsV RX2 141 RX3 yX3_add wsX3_add) := goodIn_app (goodIn_of _ (by decide +kernel)) ggX2_carryOut_X3_add
set_option maxRecDepth 20000 in
theorem ggX2_carryOut_X1_insert : GoodIn wsX2_carryOut wsX1_insert := goodIn_r _ [111, 32, 112, 13, 14, 15, 8, 16, 17, 18, 19, 20, 21, 113, 114, 115, 99, 116, 101, 117, 118, 119, 120, 106, 121, 122, 123, 124, 107, 102, 103, 104, 105, 58, 59, 60, 61, 11, 62, 22, 23, 24, 25, 26, 27, 28, 29, 30, 31, 33, 34, 35, 36, 37, 38, 39, 40, 41, 42, 43, 44, 45, 46, 47, 48, 49, 50, 148, 149, 150, 151, 152, 153, 154, 155, 156, 157, 158, 159, 160, 161] (by decide +kernel) (by decide +kernel)
set_option maxRecDepth 20000 in
theorem gX2_carryOut_X1_insert : GoodIn wsX2_carryOut (wsV RX2 144 RX1 yX1_insert wsX1_insert) := goodIn_app (goodIn_of _ (by decide +kernel)) ggX2_carryOut_X1_insert
set_option maxRecDepth 20000 in
theorem ggX2_carryOut_X1_remove : GoodIn wsX2_carryOut wsX1_remove := goodIn_r _ [128, 32, 112, 13, 14, 15, 8, 16, 17, 18, 19, 20, 21, 129, 130, 131, 99, 132, 101, 117, 118, 119, 120, 106, 121, 122, 123, 124, 107, 133, 134, 135, 136, 102, 103, 104, 105, 58, 59, 60, 61, 11, 62, 22, 23, 24, 25, 26, 27, 28, 29, 30, 31, 33, 34, 35, 36, 37, 38, 39, 40, 41, 42, 43, 44, 45, 46, 47, 48, 49, 50, 148, 149, 150, 151, 152, 153, 154, 155, 156, 157, 158, 159, 160, 161] (by decide +kernel) (by decide +kernel)
set_option maxRecDepth 20000 in
theorem gX2_carryOut_X1_remove : GoodIn wsX2_carryOut (wsV RX2 147 RX1 yX1_remove wsX1_remove) := goodIn_app (goodIn_of _ (by decide +kernel)) ggX2_carryOut_X1_remove
theorem dX2_carryOut_0 : decode cX2_carryOut 0 = .ok (.iload_n 1, 1) := by decide +kernel
theorem dX2_carryOut_1 : decode cX2_carryOut 1 = .ok (.tableswitch 127 1 5 #[35, 54, 73, 94, 112], 35) := by decide +kernel
theorem dX2_carryOut_36 : decode cX2_carryOut 36 = .ok (.aload_n 0, 1) := by decide +kernel
theorem dX2_carryOut_37 : decode cX2_carryOut 37 = .ok (.getfield 18, 3) := by decide +kernel
theorem dX2_carryOut_40 : decode cX2_carryOut 40 = .ok (.aload_n 0, 1) := by decide +kernel
theorem dX2_carryOut_41 : decode cX2_carryOut 41 = .ok (.getfield 83, 3) := by decide +kernel
theorem dX2_carryOut_44 : decode cX2_carryOut 44 = .ok (.aload_n 0, 1) := by decide +kernel
theorem dX2_carryOut_45 : decode cX2_carryOut 45 = .ok (.getfield 121, 3) := by decide +kernel
theorem dX2_carryOut_48 : decode cX2_carryOut 48 = .ok (.invokevirtual 134, 3) := by decide +kernel
theorem dX2_carryOut_51 : decode cX2_carryOut 51 = .ok (.pop, 1) := by decide +kernel
theorem dX2_carryOut_52 : decode cX2_carryOut 52 = .ok (.goto 76, 3) := by decide +kernel
theorem dX2_carryOut_55 : decode cX2_carryOut 55 = .ok (.aload_n 0, 1) := by decide +kernel
theorem dX2_carryOut_56 : decode cX2_carryOut 56 = .ok (.getfield 18, 3) := by decide +kernel
theorem dX2_carryOut_59 : decode cX2_carryOut 59 = .ok (.aload_n 0, 1) := by decide +kernel
theorem dX2_carryOut_60 : decode cX2_carryOut 60 = .ok (.getfield 83, 3) := by decide +kernel
theorem dX2_carryOut_63 : decode cX2_carryOut 63 = .ok (.aload_n 0, 1) := by decide +kernel
theorem dX2_carryOut_64 : decode cX2_carryOut 64 = .ok (.getfield 121, 3) := by decide +kernel
theorem dX2_carryOut_67 : decode cX2_carryOut 67 = .ok (.invokevirtual 138, 3) := by decide +kernel
theorem dX2_carryOut_70 : decode cX2_carryOut 70 = .ok (.pop, 1) := by decide +kernel
theorem dX2_carryOut_71 : decode cX2_carryOut 71 = .ok (.goto 57, 3) := by decide +kernel
theorem dX2_carryOut_74 : decode cX2_carryOut 74 = .ok (.aload_n 0, 1) := by decide +kernel
theorem dX2_carryOut_75 : decode cX2_carryOut 75 = .ok (.getfield 18, 3) := by decide +kernel
theorem dX2_carryOut_78 : decode cX2_carryOut 78 = .ok (.getfield 124, 3) := by decide +kernel
theorem dX2_carryOut_81 : decode cX2_carryOut 81 = .ok (.aload_n 0, 1) := by decide +kernel
theorem dX2_carryOut_82 : decode cX2_carryOut 82 = .ok (.getfield 83, 3) := by decide +kernel
theorem dX2_carryOut_85 : decode cX2_carryOut 85 = .ok (.aload_n 0, 1) := by decide +kernel
theorem dX2_carryOut_86 : decode cX2_carryOut 86 = .ok (.getfield 121, 3) := by decide +kernel
theorem dX2_carryOut_89 : decode cX2_carryOut 89 = .ok (.invokevirtual 141, 3) := by decide +kernel
theorem dX2_carryOut_92 : decode cX2_carryOut 92 = .ok (.goto 36, 3) := by decide +kernel
theorem dX2_carryOut_95 : decode cX2_carryOut 95 = .ok (.aload_n 0, 1) := by decide +kernel
theorem dX2_carryOut_96 : decode cX2_carryOut 96 = .ok (.getfield 18, 3) := by decide +kernel
theorem dX2_carryOut_99 : decode cX2_carryOut 99 = .ok (.aload_n 0, 1) := by decide +kernel
theorem dX2_carryOut_100 : decode cX2_carryOut 100 = .ok (.getfield 83, 3) := by decide +kernel
theorem dX2_carryOut_103 : decode cX2_carryOut 103 = .ok (.aload_n 0, 1) := by decide +kernel
theorem dX2_carryOut_104 : decode cX2_carryOut 104 = .ok (.getfield 121, 3) := by decide +kernel
theorem dX2_carryOut_107 : decode cX2_carryOut 107 = .ok (.invokevirtual 144, 3) := by decide +kernel
theorem dX2_carryOut_110 : decode cX2_carryOut 110 = .ok (.goto 18, 3) := by decide +kernel
theorem dX2_carryOut_113 : decode cX2_carryOut 113 = .ok (.aload_n 0, 1) := by decide +kernel
theorem dX2_carryOut_114 : decode cX2_carryOut 114 = .ok (.getfield 18, 3) := by decide +kernel
theorem dX2_carryOut_117 : decode cX2_carryOut 117 = .ok (.aload_n 0, 1) := by decide +kernel
theorem dX2_carryOut_118 : decode cX2_carryOut 118 = .ok (.getfield 83, 3) := by decide +kernel
theorem dX2_carryOut_121 : decode cX2_carryOut 121 = .ok (.invokevirtual 147, 3) := by decide +kernel
theorem dX2_carryOut_124 : decode cX2_carryOut 124 = .ok (.pop, 1) := by decide +kernel
theorem dX2_carryOut_125 : decode cX2_carryOut 125 = .ok (.goto 3, 3) := by decide +kernel
theorem dX2_carryOut_128 : decode cX2_carryOut 128 = .ok (.return_, 1) := by decide +kernel
set_option maxRecDepth 20000 in
theorem ggX2_readValue_X2_hasSign : GoodIn wsX2_readValue wsX2_hasSign := goodIn_r _ [6, 7, 8, 9, 10, 5, 11, 12, 13, 14, 15, 16, 17, 18, 19, 20, 21, 40, 41, 42, 43, 44, 45, 46, 47, 48, 49, 50] (by decide +kernel) (by decide +kernel)
set_option maxRecDepth 20000 in
theorem gX2_readValue_X2_hasSign : GoodIn wsX2_readValue (wsV RX2 99 RX2 yX2_hasSign wsX2_hasSign) := goodIn_app (goodIn_of _ (by decide +kernel)) ggX2_readValue_X2_hasSign
set_option maxRecDepth 20000 in
theorem ggX2_readValue_X2_readNumber : GoodIn wsX2_readValue wsX2_readNumber := goodIn_r _ [25, 7, 26, 1, 16, 27, 28, 29, 30, 12, 13, 14, 5, 15, 17, 31, 32, 33, 34, 35, 36, 37, 38, 39, 18, 19, 20, 21, 40, 41, 42, 43, 44, 45, 46, 47, 48, 49, 50] (by decide +kernel) (by decide +kernel)
set_option maxRecDepth 20000 in
theorem gX2_readValue_X2_readNumber : GoodIn wsX2_readValue (wsV RX2 77 RX2 yX2_readNumber wsX2_readNumber) := goodIn_app (goodIn_of _ (by decide +kernel)) ggX2_readValue_X2_readNumber
theorem dX2_readValue_0 : decode cX2_readValue 0 = .ok (.aload_n 0, 1) := by decide +kernel
theorem dX2_readValue_1 : decode cX2_readValue 1 = .ok (.bipush 45, 2) := by decide +kernel
theorem dX2_readValue_3 : decode cX2_readValue 3 = .ok (.invokevirtual 99, 3) := by decide +kernel
theorem dX2_readValue_6 : decode cX2_readValue 6 = .ok (.istore_n 1, 1) := by decide +kernel
theorem dX2_readValue_7 : decode cX2_readValue 7 = .ok (.aload_n 0, 1) := by decide +kernel
theorem dX2_readValue_8 : decode cX2_readValue 8 = .ok (.iconst 0, 1) := by decide +kernel
theorem dX2_readValue_9 : decode cX2_readValue 9 = .ok (.sipush 999, 3) := by decide +kernel
theorem dX2_readValue_12 : decode cX2_readValue 12 = .ok (.invokevirtual 77, 3) := by decide +kernel
theorem dX2_readValue_15 : decode cX2_readValue 15 = .ok (.ifCond .ne 5, 3) := by decide +kernel
theorem dX2_readValue_18 : decode cX2_readValue 18 = .ok (.iconst 0, 1) := by decide +kernel
theorem dX2_readValue_19 : decode cX2_readValue 19 = .ok (.ireturn, 1) := by decide +kernel
theorem dX2_readValue_20 : decode cX2_readValue 20 = .ok (.aload_n 0, 1) := by decide +kernel
theorem dX2_readValue_21 : decode cX2_readValue 21 = .ok (.iload_n 1, 1) := by decide +kernel
theorem dX2_readValue_22 : decode cX2_readValue 22 = .ok (.ifCond .eq 11, 3) := by decide +kernel
theorem dX2_readValue_25 : decode cX2_readValue 25 = .ok (.aload_n 0, 1) := by decide +kernel
theorem dX2_readValue_26 : decode cX2_readValue 26 = .ok (.getfield 80, 3) := by decide +kernel
theorem dX2_readValue_29 : decode cX2_readValue 29 = .ok (.ineg, 1) := by decide +kernel
theorem dX2_readValue_30 : decode cX2_readValue 30 = .ok (.goto 7, 3) := by decide +kernel
theorem dX2_readValue_33 : decode cX2_readValue 33 = .ok (.aload_n 0, 1) := by decide +kernel
theorem dX2_readValue_34 : decode cX2_readValue 34 = .ok (.getfield 80, 3) := by decide +kernel
theorem dX2_readValue_37 : decode cX2_readValue 37 = .ok (.putfield 80, 3) := by decide +kernel
theorem dX2_readValue_40 : decode cX2_readValue 40 = .ok (.iconst 1, 1) := by decide +kernel
theorem dX2_readValue_41 : decode cX2_readValue 41 = .ok (.ireturn, 1) := by decide +kernel
set_option maxRecDepth 20000 in
theorem ggX2_readNumber_X2_byteAt : GoodIn wsX2_readNumber wsX2_byteAt := goodIn_r _ [13, 4, 14, 28, 29, 30, 31, 32, 33, 34, 35, 36, 37, 38] (by decide +kernel) (by decide +kernel)
set_option maxRecDepth 20000 in
theorem gX2_readNumber_X2_byteAt : GoodIn wsX2_readNumber (wsV RX2 151 RX2 yX2_byteAt wsX2_byteAt) := goodIn_app (goodIn_of _ (by decide +kernel)) ggX2_readNumber_X2_byteAt
set_option maxRecDepth 20000 in
theorem ggX2_readNumber_X2_isDigit : GoodIn wsX2_readNumber wsX2_isDigit := goodIn_r _ [17] (by decide +kernel) (by decide +kernel)
set_option maxRecDepth 20000 in
theorem gX2_readNumber_X2_isDigit : GoodIn wsX2_readNumber (va_wsS RX2 154 yX2_isDigit wsX2_isDigit) := goodIn_app (goodIn_of _ (by decide +kernel)) ggX2_readNumber_X2_isDigit
set_option maxRecDepth 20000 in
theorem ggX2_readNumber_X2_fail : GoodIn wsX2_readNumber wsX2_fail := goodIn_r _ [21, 22, 23, 28, 29, 30, 31, 32, 33, 34, 35, 36, 37, 38] (by decide +kernel) (by decide +kernel)
set_option maxRecDepth 20000 in
theorem gX2_readNumber_X2_fail : GoodIn wsX2_readNumber (wsV RX2 73 RX2 yX2_fail wsX2_fail) := goodIn_app (goodIn_of _ (by decide +kernel)) ggX2_readNumber_X2_fail
set_option maxRecDepth 20000 in
theorem ggX2_readNumber_X2_goTo : GoodIn wsX2_readNumber wsX2_goTo := goodIn_r _ [27, 1, 4, 9, 10, 11, 12, 13, 14, 28, 29, 30, 31, 32, 33, 34, 35, 36, 37, 38] (by decide +kernel) (by decide +kernel)
set_option maxRecDepth 20000 in
theorem gX2_readNumber_X2_goTo : GoodIn wsX2_readNumber (wsV RX2 35 RX2 yX2_goTo wsX2_goTo) := goodIn_app (goodIn_of _ (by decide +kernel)) ggX2_readNumber_X2_goTo
theorem dX2_readNumber_0 : decode cX2_readNumber 0 = .ok (.aload_n 0, 1) := by decide +kernel
theorem dX2_readNumber_1 : decode cX2_readNumber 1 = .ok (.aload_n 0, 1) := by decide +kernel
theorem dX2_readNumber_2 : decode cX2_readNumber 2 = .ok (.getfield 46, 3) := by decide +kernel
theorem dX2_readNumber_5 : decode cX2_readNumber 5 = .ok (.invokevirtual 151, 3) := by decide +kernel
theorem dX2_readNumber_8 : decode cX2_readNumber 8 = .ok (.invokestatic 154, 3) := by decide +kernel
theorem dX2_readNumber_11 : decode cX2_readNumber 11 = .ok (.ifCond .ne 14, 3) := by decide +kernel
theorem dX2_readNumber_14 : decode cX2_readNumber 14 = .ok (.aload_n 0, 1) := by decide +kernel
theorem dX2_readNumber_15 : decode cX2_readNumber 15 = .ok (.bipush (-2), 2) := by decide +kernel
theorem dX2_readNumber_17 : decode cX2_readNumber 17 = .ok (.aload_n 0, 1) := by decide +kernel
theorem dX2_readNumber_18 : decode cX2_readNumber 18 = .ok (.getfield 46, 3) := by decide +kernel
theorem dX2_readNumber_21 : decode cX2_readNumber 21 = .ok (.invokevirtual 73, 3) := by decide +kernel
theorem dX2_readNumber_24 : decode cX2_readNumber 24 = .ok (.ireturn, 1) := by decide +kernel
theorem dX2_readNumber_25 : decode cX2_readNumber 25 = .ok (.aload_n 0, 1) := by decide +kernel
theorem dX2_readNumber_26 : decode cX2_readNumber 26 = .ok (.aload_n 0, 1) := by decide +kernel
theorem dX2_readNumber_27 : decode cX2_readNumber 27 = .ok (.getfield 46, 3) := by decide +kernel
theorem dX2_readNumber_30 : decode cX2_readNumber 30 = .ok (.putfield 131, 3) := by decide +kernel
theorem dX2_readNumber_33 : decode cX2_readNumber 33 = .ok (.aload_n 0, 1) := by decide +kernel
theorem dX2_readNumber_34 : decode cX2_readNumber 34 = .ok (.iconst 0, 1) := by decide +kernel
theorem dX2_readNumber_35 : decode cX2_readNumber 35 = .ok (.putfield 80, 3) := by decide +kernel
theorem dX2_readNumber_38 : decode cX2_readNumber 38 = .ok (.aload_n 0, 1) := by decide +kernel
theorem dX2_readNumber_39 : decode cX2_readNumber 39 = .ok (.getfield 46, 3) := by decide +kernel
theorem dX2_readNumber_42 : decode cX2_readNumber 42 = .ok (.istore_n 3, 1) := by decide +kernel
theorem dX2_readNumber_43 : decode cX2_readNumber 43 = .ok (.iload_n 3, 1) := by decide +kernel
theorem dX2_readNumber_44 : decode cX2_readNumber 44 = .ok (.aload_n 0, 1) := by decide +kernel
theorem dX2_readNumber_45 : decode cX2_readNumber 45 = .ok (.getfield 26, 3) := by decide +kernel
theorem dX2_readNumber_48 : decode cX2_readNumber 48 = .ok (.if_icmp .ge 46, 3) := by decide +kernel
theorem dX2_readNumber_51 : decode cX2_readNumber 51 = .ok (.aload_n 0, 1) := by decide +kernel
theorem dX2_readNumber_52 : decode cX2_readNumber 52 = .ok (.iload_n 3, 1) := by decide +kernel
theorem dX2_readNumber_53 : decode cX2_readNumber 53 = .ok (.invokevirtual 151, 3) := by decide +kernel
theorem dX2_readNumber_56 : decode cX2_readNumber 56 = .ok (.invokestatic 154, 3) := by decide +kernel
theorem dX2_readNumber_59 : decode cX2_readNumber 59 = .ok (.ifCond .eq 35, 3) := by decide +kernel
theorem dX2_readNumber_62 : decode cX2_readNumber 62 = .ok (.aload_n 0, 1) := by decide +kernel
theorem dX2_readNumber_63 : decode cX2_readNumber 63 = .ok (.bipush 10, 2) := by decide +kernel
theorem dX2_readNumber_65 : decode cX2_readNumber 65 = .ok (.aload_n 0, 1) := by decide +kernel
theorem dX2_readNumber_66 : decode cX2_readNumber 66 = .ok (.getfield 80, 3) := by decide +kernel
theorem dX2_readNumber_69 : decode cX2_readNumber 69 = .ok (.imul, 1) := by decide +kernel
theorem dX2_readNumber_70 : decode cX2_readNumber 70 = .ok (.aload_n 0, 1) := by decide +kernel
theorem dX2_readNumber_71 : decode cX2_readNumber 71 = .ok (.iload_n 3, 1) := by decide +kernel
theorem dX2_readNumber_72 : decode cX2_readNumber 72 = .ok (.invokevirtual 151, 3) := by decide +kernel
theorem dX2_readNumber_75 : decode cX2_readNumber 75 = .ok (.iadd, 1) := by decide +kernel
theorem dX2_readNumber_76 : decode cX2_readNumber 76 = .ok (.bipush 48, 2) := by decide +kernel
theorem dX2_readNumber_78 : decode cX2_readNumber 78 = .ok (.isub, 1) := by decide +kernel
theorem dX2_readNumber_79 : decode cX2_readNumber 79 = .ok (.sipush 1000, 3) := by decide +kernel
theorem dX2_readNumber_82 : decode cX2_readNumber 82 = .ok (.invokestatic 157, 3) := by decide +kernel
theorem dX2_readNumber_85 : decode cX2_readNumber 85 = .ok (.putfield 80, 3) := by decide +kernel
theorem dX2_readNumber_88 : decode cX2_readNumber 88 = .ok (.iinc 3 1, 3) := by decide +kernel
theorem dX2_readNumber_91 : decode cX2_readNumber 91 = .ok (.goto (-48), 3) := by decide +kernel
theorem dX2_readNumber_94 : decode cX2_readNumber 94 = .ok (.aload_n 0, 1) := by decide +kernel
theorem dX2_readNumber_95 : decode cX2_readNumber 95 = .ok (.iload_n 3, 1) := by decide +kernel
theorem dX2_readNumber_96 : decode cX2_readNumber 96 = .ok (.invokevirtual 35, 3) := by decide +kernel
theorem dX2_readNumber_99 : decode cX2_readNumber 99 = .ok (.aload_n 0, 1) := by decide +kernel
theorem dX2_readNumber_100 : decode cX2_readNumber 100 = .ok (.getfield 80, 3) := by decide +kernel
theorem dX2_readNumber_103 : decode cX2_readNumber 103 = .ok (.iload_n 1, 1) := by decide +kernel
theorem dX2_readNumber_104 : decode cX2_readNumber 104 = .ok (.if_icmp .lt 11, 3) := by decide +kernel
theorem dX2_readNumber_107 : decode cX2_readNumber 107 = .ok (.aload_n 0, 1) := by decide +kernel
theorem dX2_readNumber_108 : decode cX2_readNumber 108 = .ok (.getfield 80, 3) := by decide +kernel
theorem dX2_readNumber_111 : decode cX2_readNumber 111 = .ok (.iload_n 2, 1) := by decide +kernel
theorem dX2_readNumber_112 : decode cX2_readNumber 112 = .ok (.if_icmp .le 16, 3) := by decide +kernel
theorem dX2_readNumber_115 : decode cX2_readNumber 115 = .ok (.aload_n 0, 1) := by decide +kernel
theorem dX2_readNumber_116 : decode cX2_readNumber 116 = .ok (.bipush (-3), 2) := by decide +kernel
theorem dX2_readNumber_118 : decode cX2_readNumber 118 = .ok (.aload_n 0, 1) := by decide +kernel
theorem dX2_readNumber_119 : decode cX2_readNumber 119 = .ok (.getfield 131, 3) := by decide +kernel
theorem dX2_readNumber_122 : decode cX2_readNumber 122 = .ok (.invokevirtual 73, 3) := by decide +kernel
theorem dX2_readNumber_125 : decode cX2_readNumber 125 = .ok (.ifCond .eq 7, 3) := by decide +kernel
theorem dX2_readNumber_128 : decode cX2_readNumber 128 = .ok (.iconst 1, 1) := by decide +kernel
theorem dX2_readNumber_129 : decode cX2_readNumber 129 = .ok (.goto 4, 3) := by decide +kernel
theorem dX2_readNumber_132 : decode cX2_readNumber 132 = .ok (.iconst 0, 1) := by decide +kernel
theorem dX2_readNumber_133 : decode cX2_readNumber 133 = .ok (.ireturn, 1) := by decide +kernel
set_option maxRecDepth 20000 in
theorem ggX2_readSign_X2_hasSign : GoodIn wsX2_readSign wsX2_hasSign := goodIn_r _ [6, 1, 7, 8, 9, 5, 10, 11, 12, 13, 14, 15, 16, 17, 18, 19, 20, 27, 28, 29, 30, 31, 32, 33, 34, 35, 36, 37] (by decide +kernel) (by decide +kernel)
set_option maxRecDepth 20000 in
theorem gX2_readSign_X2_hasSign : GoodIn wsX2_readSign (wsV RX2 99 RX2 yX2_hasSign wsX2_hasSign) := goodIn_app (goodIn_of _ (by decide +kernel)) ggX2_readSign_X2_hasSign
set_option maxRecDepth 20000 in
theorem ggX2_readSign_X2_fail : GoodIn wsX2_readSign wsX2_fail := goodIn_r _ [24, 25, 26, 27, 28, 29, 30, 31, 32, 33, 34, 35, 36, 37] (by decide +kernel) (by decide +kernel)
set_option maxRecDepth 20000 in
theorem gX2_readSign_X2_fail : GoodIn wsX2_readSign (wsV RX2 73 RX2 yX2_fail wsX2_fail) := goodIn_app (goodIn_of _ (by decide +kernel)) ggX2_readSign_X2_fail
theorem dX2_readSign_0 : decode cX2_readSign 0 = .ok (.aload_n 0, 1) := by decide +kernel
theorem dX2_readSign_1 : decode cX2_readSign 1 = .ok (.iload_n 1, 1) := by decide +kernel
theorem dX2_readSign_2 : decode cX2_readSign 2 = .ok (.invokevirtual 99, 3) := by decide +kernel
theorem dX2_readSign_5 : decode cX2_readSign 5 = .ok (.ifCond .ne 16, 3) := by decide +kernel
theorem dX2_readSign_8 : decode cX2_readSign 8 = .ok (.aload_n 0, 1) := by decide +kernel
theorem dX2_readSign_9 : decode cX2_readSign 9 = .ok (.bipush (-2), 2) := by decide +kernel
theorem dX2_readSign_11 : decode cX2_readSign 11 = .ok (.aload_n 0, 1) := by decide +kernel
theorem dX2_readSign_12 : decode cX2_readSign 12 = .ok (.getfield 46, 3) := by decide +kernel
theorem dX2_readSign_15 : decode cX2_readSign 15 = .ok (.invokevirtual 73, 3) := by decide +kernel
theorem dX2_readSign_18 : decode cX2_readSign 18 = .ok (.ifCond .eq 7, 3) := by decide +kernel
theorem dX2_readSign_21 : decode cX2_readSign 21 = .ok (.iconst 1, 1) := by decide +kernel
theorem dX2_readSign_22 : decode cX2_readSign 22 = .ok (.goto 4, 3) := by decide +kernel
theorem dX2_readSign_25 : decode cX2_readSign 25 = .ok (.iconst 0, 1) := by decide +kernel
theorem dX2_readSign_26 : decode cX2_readSign 26 = .ok (.ireturn, 1) := by decide +kernel
set_option maxRecDepth 20000 in
theorem ggX2_isNext_X2_byteAt : GoodIn wsX2_isNext wsX2_byteAt := goodIn_r _ [6, 7, 8, 9, 10, 11, 12, 13, 14, 15, 16, 17, 18, 19] (by decide +kernel) (by decide +kernel)
set_option maxRecDepth 20000 in
theorem gX2_isNext_X2_byteAt : GoodIn wsX2_isNext (wsV RX2 151 RX2 yX2_byteAt wsX2_byteAt) := goodIn_app (goodIn_of _ (by decide +kernel)) ggX2_isNext_X2_byteAt
theorem dX2_isNext_0 : decode cX2_isNext 0 = .ok (.aload_n 0, 1) := by decide +kernel
theorem dX2_isNext_1 : decode cX2_isNext 1 = .ok (.aload_n 0, 1) := by decide +kernel
theorem dX2_isNext_2 : decode cX2_isNext 2 = .ok (.getfield 46, 3) := by decide +kernel
theorem dX2_isNext_5 : decode cX2_isNext 5 = .ok (.invokevirtual 151, 3) := by decide +kernel
theorem dX2_isNext_8 : decode cX2_isNext 8 = .ok (.iload_n 1, 1) := by decide +kernel
theorem dX2_isNext_9 : decode cX2_isNext 9 = .ok (.if_icmp .ne 7, 3) := by decide +kernel
theorem dX2_isNext_12 : decode cX2_isNext 12 = .ok (.iconst 1, 1) := by decide +kernel
theorem dX2_isNext_13 : decode cX2_isNext 13 = .ok (.goto 4, 3) := by decide +kernel
theorem dX2_isNext_16 : decode cX2_isNext 16 = .ok (.iconst 0, 1) := by decide +kernel
theorem dX2_isNext_17 : decode cX2_isNext 17 = .ok (.ireturn, 1) := by decide +kernel
set_option maxRecDepth 20000 in
theorem ggX2_hasSign_X2_isNext : GoodIn wsX2_hasSign wsX2_isNext := goodIn_r _ [6, 1, 7, 8, 9, 5, 10, 11, 12, 17, 18, 19, 20, 21, 22, 23, 24, 25, 26, 27] (by decide +kernel) (by decide +kernel)
set_option maxRecDepth 20000 in
theorem gX2_hasSign_X2_isNext : GoodIn wsX2_hasSign (wsV RX2 90 RX2 yX2_isNext wsX2_isNext) := goodIn_app (goodIn_of _ (by decide +kernel)) ggX2_hasSign_X2_isNext
set_option maxRecDepth 20000 in
theorem ggX2_hasSign_X2_goTo : GoodIn wsX2_hasSign wsX2_goTo := goodIn_r _ [16, 1, 11, 7, 8, 9, 5, 10, 12, 17, 18, 19, 20, 21, 22, 23, 24, 25, 26, 27] (by decide +kernel) (by decide +kernel)
set_option maxRecDepth 20000 in
theorem gX2_hasSign_X2_goTo : GoodIn wsX2_hasSign (wsV RX2 35 RX2 yX2_goTo wsX2_goTo) := goodIn_app (goodIn_of _ (by decide +kernel)) ggX2_hasSign_X2_goTo
theorem dX2_hasSign_0 : decode cX2_hasSign 0 = .ok (.aload_n 0, 1) := by decide +kernel
theorem dX2_hasSign_1 : decode cX2_hasSign 1 = .ok (.iload_n 1, 1) := by decide +kernel
theorem dX2_hasSign_2 : decode cX2_hasSign 2 = .ok (.invokevirtual 90, 3) := by decide +kernel
theorem dX2_hasSign_5 : decode cX2_hasSign 5 = .ok (.ifCond .ne 5, 3) := by decide +kernel
theorem dX2_hasSign_8 : decode cX2_hasSign 8 = .ok (.iconst 0, 1) := by decide +kernel
theorem dX2_hasSign_9 : decode cX2_hasSign 9 = .ok (.ireturn, 1) := by decide +kernel
theorem dX2_hasSign_10 : decode cX2_hasSign 10 = .ok (.aload_n 0, 1) := by decide +kernel
theorem dX2_hasSign_11 : decode cX2_hasSign 11 = .ok (.aload_n 0, 1) := by decide +kernel
theorem dX2_hasSign_12 : decode cX2_hasSign 12 = .ok (.getfield 46, 3) := by decide +kernel
theorem dX2_hasSign_15 : decode cX2_hasSign 15 = .ok (.iconst 1, 1) := by decide +kernel
theorem dX2_hasSign_16 : decode cX2_hasSign 16 = .ok (.iadd, 1) := by decide +kernel
theorem dX2_hasSign_17 : decode cX2_hasSign 17 = .ok (.invokevirtual 35, 3) := by decide +kernel
theorem dX2_hasSign_20 : decode cX2_hasSign 20 = .ok (.iconst 1, 1) := by decide +kernel
theorem dX2_hasSign_21 : decode cX2_hasSign 21 = .ok (.ireturn, 1) := by decide +kernel
set_option maxRecDepth 20000 in
theorem ggX2_hasWord_J0_length_8abf5 : GoodIn wsX2_hasWord wsJ0_length_8abf5 := goodIn_r _ [6, 7, 8, 9, 10, 5, 11, 12, 13, 76, 77, 78, 79] (by decide +kernel) (by decide +kernel)
set_option maxRecDepth 20000 in
theorem gX2_hasWord_J0_length_8abf5 : GoodIn wsX2_hasWord (wsV RX2 162 RJ0 yJ0_length_8abf5 wsJ0_length_8abf5) := goodIn_app (goodIn_of _ (by decide +kernel)) ggX2_hasWord_J0_length_8abf5
set_option maxRecDepth 20000 in
theorem ggX2_hasWord_X2_byteAt : GoodIn wsX2_hasWord wsX2_byteAt := goodIn_r _ [18, 19, 20, 65, 66, 67, 68, 69, 70, 71, 72, 73, 74, 75] (by decide +kernel) (by decide +kernel)
set_option maxRecDepth 20000 in
theorem gX2_hasWord_X2_byteAt : GoodIn wsX2_hasWord (wsV RX2 151 RX2 yX2_byteAt wsX2_byteAt) := goodIn_app (goodIn_of _ (by decide +kernel)) ggX2_hasWord_X2_byteAt
set_option maxRecDepth 20000 in
theorem ggX2_hasWord_J0_charAt_5068e : GoodIn wsX2_hasWord wsJ0_charAt_5068e := goodIn_r _ [24, 7, 25, 26, 27, 5, 28, 12, 13, 29, 30, 31, 32, 33, 34, 35, 36, 37, 38, 39, 40, 41, 42, 43, 44, 45, 46, 47, 48, 49, 50, 51, 52, 53, 54, 55, 56, 57, 76, 77, 78, 79] (by decide +kernel) (by decide +kernel)
set_option maxRecDepth 20000 in
theorem gX2_hasWord_J0_charAt_5068e : GoodIn wsX2_hasWord (wsV RX2 166 RJ0 yJ0_charAt_5068e wsJ0_charAt_5068e) := goodIn_app (goodIn_of _ (by decide +kernel)) ggX2_hasWord_J0_charAt_5068e
set_option maxRecDepth 20000 in
theorem ggX2_hasWord_X2_isLetter : GoodIn wsX2_hasWord wsX2_isLetter := goodIn_r _ [60] (by decide +kernel) (by decide +kernel)
set_option maxRecDepth 20000 in
theorem gX2_hasWord_X2_isLetter : GoodIn wsX2_hasWord (va_wsS RX2 170 yX2_isLetter wsX2_isLetter) := goodIn_app (goodIn_of _ (by decide +kernel)) ggX2_hasWord_X2_isLetter
set_option maxRecDepth 20000 in
theorem ggX2_hasWord_X2_goTo : GoodIn wsX2_hasWord wsX2_goTo := goodIn_r _ [64, 1, 19, 14, 15, 16, 17, 18, 20, 65, 66, 67, 68, 69, 70, 71, 72, 73, 74, 75] (by decide +kernel) (by decide +kernel)
set_option maxRecDepth 20000 in
theorem gX2_hasWord_X2_goTo : GoodIn wsX2_hasWord (wsV RX2 35 RX2 yX2_goTo wsX2_goTo) := goodIn_app (goodIn_of _ (by decide +kernel)) ggX2_hasWord_X2_goTo
theorem dX2_hasWord_0 : decode cX2_hasWord 0 = .ok (.aload_n 1, 1) := by decide +kernel
theorem dX2_hasWord_1 : decode cX2_hasWord 1 = .ok (.invokevirtual 162, 3) := by decide +kernel
theorem dX2_hasWord_4 : decode cX2_hasWord 4 = .ok (.istore_n 2, 1) := by decide +kernel
theorem dX2_hasWord_5 : decode cX2_hasWord 5 = .ok (.iconst 0, 1) := by decide +kernel
theorem dX2_hasWord_6 : decode cX2_hasWord 6 = .ok (.istore_n 3, 1) := by decide +kernel
theorem dX2_hasWord_7 : decode cX2_hasWord 7 = .ok (.iload_n 3, 1) := by decide +kernel
theorem dX2_hasWord_8 : decode cX2_hasWord 8 = .ok (.iload_n 2, 1) := by decide +kernel
theorem dX2_hasWord_9 : decode cX2_hasWord 9 = .ok (.if_icmp .ge 29, 3) := by decide +kernel
theorem dX2_hasWord_12 : decode cX2_hasWord 12 = .ok (.aload_n 0, 1) := by decide +kernel
theorem dX2_hasWord_13 : decode cX2_hasWord 13 = .ok (.aload_n 0, 1) := by decide +kernel
theorem dX2_hasWord_14 : decode cX2_hasWord 14 = .ok (.getfield 46, 3) := by decide +kernel
theorem dX2_hasWord_17 : decode cX2_hasWord 17 = .ok (.iload_n 3, 1) := by decide +kernel
theorem dX2_hasWord_18 : decode cX2_hasWord 18 = .ok (.iadd, 1) := by decide +kernel
theorem dX2_hasWord_19 : decode cX2_hasWord 19 = .ok (.invokevirtual 151, 3) := by decide +kernel
theorem dX2_hasWord_22 : decode cX2_hasWord 22 = .ok (.aload_n 1, 1) := by decide +kernel
theorem dX2_hasWord_23 : decode cX2_hasWord 23 = .ok (.iload_n 3, 1) := by decide +kernel
theorem dX2_hasWord_24 : decode cX2_hasWord 24 = .ok (.invokevirtual 166, 3) := by decide +kernel
theorem dX2_hasWord_27 : decode cX2_hasWord 27 = .ok (.if_icmp .eq 5, 3) := by decide +kernel
theorem dX2_hasWord_30 : decode cX2_hasWord 30 = .ok (.iconst 0, 1) := by decide +kernel
theorem dX2_hasWord_31 : decode cX2_hasWord 31 = .ok (.ireturn, 1) := by decide +kernel
theorem dX2_hasWord_32 : decode cX2_hasWord 32 = .ok (.iinc 3 1, 3) := by decide +kernel
theorem dX2_hasWord_35 : decode cX2_hasWord 35 = .ok (.goto (-28), 3) := by decide +kernel
theorem dX2_hasWord_38 : decode cX2_hasWord 38 = .ok (.aload_n 0, 1) := by decide +kernel
theorem dX2_hasWord_39 : decode cX2_hasWord 39 = .ok (.aload_n 0, 1) := by decide +kernel
theorem dX2_hasWord_40 : decode cX2_hasWord 40 = .ok (.getfield 46, 3) := by decide +kernel
theorem dX2_hasWord_43 : decode cX2_hasWord 43 = .ok (.iload_n 2, 1) := by decide +kernel
theorem dX2_hasWord_44 : decode cX2_hasWord 44 = .ok (.iadd, 1) := by decide +kernel
theorem dX2_hasWord_45 : decode cX2_hasWord 45 = .ok (.invokevirtual 151, 3) := by decide +kernel
theorem dX2_hasWord_48 : decode cX2_hasWord 48 = .ok (.invokestatic 170, 3) := by decide +kernel
theorem dX2_hasWord_51 : decode cX2_hasWord 51 = .ok (.ifCond .eq 5, 3) := by decide +kernel
theorem dX2_hasWord_54 : decode cX2_hasWord 54 = .ok (.iconst 0, 1) := by decide +kernel
theorem dX2_hasWord_55 : decode cX2_hasWord 55 = .ok (.ireturn, 1) := by decide +kernel
theorem dX2_hasWord_56 : decode cX2_hasWord 56 = .ok (.aload_n 0, 1) := by decide +kernel
theorem dX2_hasWord_57 : decode cX2_hasWord 57 = .ok (.aload_n 0, 1) := by decide +kernel
theorem dX2_hasWord_58 : decode cX2_hasWord 58 = .ok (.getfield 46, 3) := by decide +kernel
theorem dX2_hasWord_61 : decode cX2_hasWord 61 = .ok (.iload_n 2, 1) := by decide +kernel
theorem dX2_hasWord_62 : decode cX2_hasWord 62 = .ok (.iadd, 1) := by decide +kernel
theorem dX2_hasWord_63 : decode cX2_hasWord 63 = .ok (.invokevirtual 35, 3) := by decide +kernel
theorem dX2_hasWord_66 : decode cX2_hasWord 66 = .ok (.iconst 1, 1) := by decide +kernel
theorem dX2_hasWord_67 : decode cX2_hasWord 67 = .ok (.ireturn, 1) := by decide +kernel
set_option maxRecDepth 20000 in
theorem ggX2_goTo_X2_byteAt : GoodIn wsX2_goTo wsX2_byteAt := goodIn_r _ [7, 2, 8, 9, 10, 11, 12, 13, 14, 15, 16, 17, 18, 19] (by decide +kernel) (by decide +kernel)
set_option maxRecDepth 20000 in
theorem gX2_goTo_X2_byteAt : GoodIn wsX2_goTo (wsV RX2 151 RX2 yX2_byteAt wsX2_byteAt) := goodIn_app (goodIn_of _ (by decide +kernel)) ggX2_goTo_X2_byteAt
theorem dX2_goTo_0 : decode cX2_goTo 0 = .ok (.aload_n 0, 1) := by decide +kernel
theorem dX2_goTo_1 : decode cX2_goTo 1 = .ok (.iload_n 1, 1) := by decide +kernel
theorem dX2_goTo_2 : decode cX2_goTo 2 = .ok (.putfield 46, 3) := by decide +kernel
theorem dX2_goTo_5 : decode cX2_goTo 5 = .ok (.aload_n 0, 1) := by decide +kernel
theorem dX2_goTo_6 : decode cX2_goTo 6 = .ok (.getfield 46, 3) := by decide +kernel
theorem dX2_goTo_9 : decode cX2_goTo 9 = .ok (.aload_n 0, 1) := by decide +kernel
theorem dX2_goTo_10 : decode cX2_goTo 10 = .ok (.getfield 26, 3) := by decide +kernel
theorem dX2_goTo_13 : decode cX2_goTo 13 = .ok (.if_icmp .ge 29, 3) := by decide +kernel
theorem dX2_goTo_16 : decode cX2_goTo 16 = .ok (.aload_n 0, 1) := by decide +kernel
theorem dX2_goTo_17 : decode cX2_goTo 17 = .ok (.aload_n 0, 1) := by decide +kernel
theorem dX2_goTo_18 : decode cX2_goTo 18 = .ok (.getfield 46, 3) := by decide +kernel
theorem dX2_goTo_21 : decode cX2_goTo 21 = .ok (.invokevirtual 151, 3) := by decide +kernel
theorem dX2_goTo_24 : decode cX2_goTo 24 = .ok (.bipush 32, 2) := by decide +kernel
theorem dX2_goTo_26 : decode cX2_goTo 26 = .ok (.if_icmp .ne 16, 3) := by decide +kernel
theorem dX2_goTo_29 : decode cX2_goTo 29 = .ok (.aload_n 0, 1) := by decide +kernel
theorem dX2_goTo_30 : decode cX2_goTo 30 = .ok (.dup, 1) := by decide +kernel
theorem dX2_goTo_31 : decode cX2_goTo 31 = .ok (.getfield 46, 3) := by decide +kernel
theorem dX2_goTo_34 : decode cX2_goTo 34 = .ok (.iconst 1, 1) := by decide +kernel
theorem dX2_goTo_35 : decode cX2_goTo 35 = .ok (.iadd, 1) := by decide +kernel
theorem dX2_goTo_36 : decode cX2_goTo 36 = .ok (.putfield 46, 3) := by decide +kernel
theorem dX2_goTo_39 : decode cX2_goTo 39 = .ok (.goto (-34), 3) := by decide +kernel
theorem dX2_goTo_42 : decode cX2_goTo 42 = .ok (.return_, 1) := by decide +kernel
theorem dX2_byteAt_0 : decode cX2_byteAt 0 = .ok (.iload_n 1, 1) := by decide +kernel
theorem dX2_byteAt_1 : decode cX2_byteAt 1 = .ok (.ifCond .lt 29, 3) := by decide +kernel
theorem dX2_byteAt_4 : decode cX2_byteAt 4 = .ok (.iload_n 1, 1) := by decide +kernel
theorem dX2_byteAt_5 : decode cX2_byteAt 5 = .ok (.aload_n 0, 1) := by decide +kernel
theorem dX2_byteAt_6 : decode cX2_byteAt 6 = .ok (.getfield 26, 3) := by decide +kernel
theorem dX2_byteAt_9 : decode cX2_byteAt 9 = .ok (.if_icmp .ge 21, 3) := by decide +kernel
theorem dX2_byteAt_12 : decode cX2_byteAt 12 = .ok (.iload_n 1, 1) := by decide +kernel
theorem dX2_byteAt_13 : decode cX2_byteAt 13 = .ok (.aload_n 0, 1) := by decide +kernel
theorem dX2_byteAt_14 : decode cX2_byteAt 14 = .ok (.getfield 9, 3) := by decide +kernel
theorem dX2_byteAt_17 : decode cX2_byteAt 17 = .ok (.arraylength, 1) := by decide +kernel
theorem dX2_byteAt_18 : decode cX2_byteAt 18 = .ok (.if_icmp .ge 12, 3) := by decide +kernel
theorem dX2_byteAt_21 : decode cX2_byteAt 21 = .ok (.aload_n 0, 1) := by decide +kernel
theorem dX2_byteAt_22 : decode cX2_byteAt 22 = .ok (.getfield 9, 3) := by decide +kernel
theorem dX2_byteAt_25 : decode cX2_byteAt 25 = .ok (.iload_n 1, 1) := by decide +kernel
theorem dX2_byteAt_26 : decode cX2_byteAt 26 = .ok (.iaload, 1) := by decide +kernel
theorem dX2_byteAt_27 : decode cX2_byteAt 27 = .ok (.goto 4, 3) := by decide +kernel
theorem dX2_byteAt_30 : decode cX2_byteAt 30 = .ok (.iconst (-1), 1) := by decide +kernel
theorem dX2_byteAt_31 : decode cX2_byteAt 31 = .ok (.ireturn, 1) := by decide +kernel
theorem dX2_fail_0 : decode cX2_fail 0 = .ok (.aload_n 0, 1) := by decide +kernel
theorem dX2_fail_1 : decode cX2_fail 1 = .ok (.iload_n 1, 1) := by decide +kernel
theorem dX2_fail_2 : decode cX2_fail 2 = .ok (.putfield 29, 3) := by decide +kernel
theorem dX2_fail_5 : decode cX2_fail 5 = .ok (.aload_n 0, 1) := by decide +kernel
theorem dX2_fail_6 : decode cX2_fail 6 = .ok (.iload_n 2, 1) := by decide +kernel
theorem dX2_fail_7 : decode cX2_fail 7 = .ok (.putfield 32, 3) := by decide +kernel
theorem dX2_fail_10 : decode cX2_fail 10 = .ok (.iconst 0, 1) := by decide +kernel
theorem dX2_fail_11 : decode cX2_fail 11 = .ok (.ireturn, 1) := by decide +kernel
theorem dX2_isDigit_0 : decode cX2_isDigit 0 = .ok (.iload_n 0, 1) := by decide +kernel
theorem dX2_isDigit_1 : decode cX2_isDigit 1 = .ok (.bipush 48, 2) := by decide +kernel
theorem dX2_isDigit_3 : decode cX2_isDigit 3 = .ok (.if_icmp .lt 13, 3) := by decide +kernel
theorem dX2_isDigit_6 : decode cX2_isDigit 6 = .ok (.iload_n 0, 1) := by decide +kernel
theorem dX2_isDigit_7 : decode cX2_isDigit 7 = .ok (.bipush 57, 2) := by decide +kernel
theorem dX2_isDigit_9 : decode cX2_isDigit 9 = .ok (.if_icmp .gt 7, 3) := by decide +kernel
theorem dX2_isDigit_12 : decode cX2_isDigit 12 = .ok (.iconst 1, 1) := by decide +kernel
theorem dX2_isDigit_13 : decode cX2_isDigit 13 = .ok (.goto 4, 3) := by decide +kernel
theorem dX2_isDigit_16 : decode cX2_isDigit 16 = .ok (.iconst 0, 1) := by decide +kernel
theorem dX2_isDigit_17 : decode cX2_isDigit 17 = .ok (.ireturn, 1) := by decide +kernel
theorem dX2_isLetter_0 : decode cX2_isLetter 0 = .ok (.iload_n 0, 1) := by decide +kernel
theorem dX2_isLetter_1 : decode cX2_isLetter 1 = .ok (.bipush 97, 2) := by decide +kernel
theorem dX2_isLetter_3 : decode cX2_isLetter 3 = .ok (.if_icmp .lt 13, 3) := by decide +kernel
theorem dX2_isLetter_6 : decode cX2_isLetter 6 = .ok (.iload_n 0, 1) := by decide +kernel
theorem dX2_isLetter_7 : decode cX2_isLetter 7 = .ok (.bipush 122, 2) := by decide +kernel
theorem dX2_isLetter_9 : decode cX2_isLetter 9 = .ok (.if_icmp .gt 7, 3) := by decide +kernel
theorem dX2_isLetter_12 : decode cX2_isLetter 12 = .ok (.iconst 1, 1) := by decide +kernel
theorem dX2_isLetter_13 : decode cX2_isLetter 13 = .ok (.goto 4, 3) := by decide +kernel
theorem dX2_isLetter_16 : decode cX2_isLetter 16 = .ok (.iconst 0, 1) := by decide +kernel
theorem dX2_isLetter_17 : decode cX2_isLetter 17 = .ok (.ireturn, 1) := by decide +kernel
set_option maxRecDepth 20000 in
theorem ggX4_init_X1_init : GoodIn wsX4_init wsX1_init := goodIn_r _ [19, 20, 2, 3, 21, 22, 23, 24, 25, 26, 27, 28, 29, 30, 31, 32, 33, 100, 101, 102, 103, 104, 105, 106, 107, 108, 109, 110, 129, 130, 131] (by decide +kernel) (by decide +kernel)
set_option maxRecDepth 20000 in
theorem gX4_init_X1_init : GoodIn wsX4_init (wsX1_init) := ggX4_init_X1_init
set_option maxRecDepth 20000 in
theorem ggX4_init_X0_init : GoodIn wsX4_init wsX0_init := goodIn_r _ [36, 37, 2, 3, 38, 39, 5, 6, 40, 18, 19, 20, 21, 22, 23, 24, 25, 26, 27, 28, 29, 30, 31, 32, 33, 115, 116, 117, 100, 101, 102, 103, 104, 105, 106, 107, 108, 109, 110, 129, 130, 131] (by decide +kernel) (by decide +kernel)
set_option maxRecDepth 20000 in
theorem gX4_init_X0_init : GoodIn wsX4_init (wsX0_init) := ggX4_init_X0_init
set_option maxRecDepth 20000 in
theorem ggX4_init_X2_init : GoodIn wsX4_init wsX2_init := goodIn_r _ [43, 44, 2, 3, 21, 45, 46, 5, 6, 47, 48, 18, 19, 20, 22, 23, 24, 25, 26, 27, 28, 29, 30, 31, 32, 33, 118, 119, 120, 121, 122, 123, 124, 125, 126, 127, 128, 100, 101, 102, 103, 104, 105, 106, 107, 108, 109, 110, 129, 130, 131] (by decide +kernel) (by decide +kernel)
set_option maxRecDepth 20000 in
theorem gX4_init_X2_init : GoodIn wsX4_init (wsX2_init) := ggX4_init_X2_init
set_option maxRecDepth 20000 in
theorem ggX4_init_X1_start : GoodIn wsX4_init wsX1_start := goodIn_r _ [52, 53, 54, 55, 56, 57, 58, 59, 60, 27, 61, 100, 101, 102, 103, 104, 105, 106, 107, 108, 109, 110, 129, 130, 131] (by decide +kernel) (by decide +kernel)
set_option maxRecDepth 20000 in
theorem gX4_init_X1_start : GoodIn wsX4_init (wsV RX4 34 RX1 yX1_start wsX1_start) := goodIn_app (goodIn_of _ (by decide +kernel)) ggX4_init_X1_start
set_option maxRecDepth 20000 in
theorem ggX4_init_X1_addAtEnd : GoodIn wsX4_init wsX1_addAtEnd := goodIn_r _ [65, 53, 66, 67, 68, 6, 69, 22, 100, 101, 102, 103, 104, 105, 106, 107, 108, 109, 110] (by decide +kernel) (by decide +kernel)
set_option maxRecDepth 20000 in
theorem gX4_init_X1_addAtEnd : GoodIn wsX4_init (wsV RX4 38 RX1 yX1_addAtEnd wsX1_addAtEnd) := goodIn_app (goodIn_of _ (by decide +kernel)) ggX4_init_X1_addAtEnd
set_option maxRecDepth 20000 in
theorem ggX4_init_X1_buildAll : GoodIn wsX4_init wsX1_buildAll := goodIn_r _ [73, 53, 56, 60, 74, 75, 76, 6, 77, 23, 58, 78, 79, 80, 81, 82, 83, 84, 85, 86, 87, 88, 89, 90, 91, 92, 93, 94, 95, 96, 97, 98, 99, 22, 100, 101, 102, 103, 104, 105, 106, 107, 108, 109, 110] (by decide +kernel) (by decide +kernel)
set_option maxRecDepth 20000 in
theorem gX4_init_X1_buildAll : GoodIn wsX4_init (wsV RX4 42 RX1 yX1_buildAll wsX1_buildAll) := goodIn_app (goodIn_of _ (by decide +kernel)) ggX4_init_X1_buildAll
theorem dX4_init_0 : decode cX4_init 0 = .ok (.aload_n 0, 1) := by decide +kernel
theorem dX4_init_1 : decode cX4_init 1 = .ok (.invokespecial 1, 3) := by decide +kernel
theorem dX4_init_4 : decode cX4_init 4 = .ok (.aload_n 0, 1) := by decide +kernel
theorem dX4_init_5 : decode cX4_init 5 = .ok (.new 7, 3) := by decide +kernel
theorem dX4_init_8 : decode cX4_init 8 = .ok (.dup, 1) := by decide +kernel
theorem dX4_init_9 : decode cX4_init 9 = .ok (.invokespecial 9, 3) := by decide +kernel
theorem dX4_init_12 : decode cX4_init 12 = .ok (.putfield 10, 3) := by decide +kernel
theorem dX4_init_15 : decode cX4_init 15 = .ok (.aload_n 0, 1) := by decide +kernel
theorem dX4_init_16 : decode cX4_init 16 = .ok (.new 16, 3) := by decide +kernel
theorem dX4_init_19 : decode cX4_init 19 = .ok (.dup, 1) := by decide +kernel
theorem dX4_init_20 : decode cX4_init 20 = .ok (.invokespecial 18, 3) := by decide +kernel
theorem dX4_init_23 : decode cX4_init 23 = .ok (.putfield 19, 3) := by decide +kernel
theorem dX4_init_26 : decode cX4_init 26 = .ok (.aload_n 0, 1) := by decide +kernel
theorem dX4_init_27 : decode cX4_init 27 = .ok (.new 23, 3) := by decide +kernel
theorem dX4_init_30 : decode cX4_init 30 = .ok (.dup, 1) := by decide +kernel
theorem dX4_init_31 : decode cX4_init 31 = .ok (.invokespecial 25, 3) := by decide +kernel
theorem dX4_init_34 : decode cX4_init 34 = .ok (.putfield 26, 3) := by decide +kernel
theorem dX4_init_37 : decode cX4_init 37 = .ok (.aload_n 0, 1) := by decide +kernel
theorem dX4_init_38 : decode cX4_init 38 = .ok (.iconst (-1), 1) := by decide +kernel
theorem dX4_init_39 : decode cX4_init 39 = .ok (.putfield 30, 3) := by decide +kernel
theorem dX4_init_42 : decode cX4_init 42 = .ok (.aload_n 0, 1) := by decide +kernel
theorem dX4_init_43 : decode cX4_init 43 = .ok (.getfield 10, 3) := by decide +kernel
theorem dX4_init_46 : decode cX4_init 46 = .ok (.iconst 0, 1) := by decide +kernel
theorem dX4_init_47 : decode cX4_init 47 = .ok (.iconst 2, 1) := by decide +kernel
theorem dX4_init_48 : decode cX4_init 48 = .ok (.invokevirtual 34, 3) := by decide +kernel
theorem dX4_init_51 : decode cX4_init 51 = .ok (.aload_n 0, 1) := by decide +kernel
theorem dX4_init_52 : decode cX4_init 52 = .ok (.getfield 10, 3) := by decide +kernel
theorem dX4_init_55 : decode cX4_init 55 = .ok (.iconst 0, 1) := by decide +kernel
theorem dX4_init_56 : decode cX4_init 56 = .ok (.invokevirtual 38, 3) := by decide +kernel
theorem dX4_init_59 : decode cX4_init 59 = .ok (.aload_n 0, 1) := by decide +kernel
theorem dX4_init_60 : decode cX4_init 60 = .ok (.getfield 10, 3) := by decide +kernel
theorem dX4_init_63 : decode cX4_init 63 = .ok (.invokevirtual 42, 3) := by decide +kernel
theorem dX4_init_66 : decode cX4_init 66 = .ok (.return_, 1) := by decide +kernel
set_option maxRecDepth 20000 in
theorem ggX4_append_X2_addWord : GoodIn wsX4_append wsX2_addWord := goodIn_r _ [7, 8, 9, 14, 15, 16, 17, 18, 19, 20, 21, 22, 23, 24] (by decide +kernel) (by decide +kernel)
set_option maxRecDepth 20000 in
theorem gX4_append_X2_addWord : GoodIn wsX4_append (wsV RX4 48 RX2 yX2_addWord wsX2_addWord) := goodIn_app (goodIn_of _ (by decide +kernel)) ggX4_append_X2_addWord
theorem dX4_append_0 : decode cX4_append 0 = .ok (.aload_n 0, 1) := by decide +kernel
theorem dX4_append_1 : decode cX4_append 1 = .ok (.getfield 26, 3) := by decide +kernel
theorem dX4_append_4 : decode cX4_append 4 = .ok (.getfield 45, 3) := by decide +kernel
theorem dX4_append_7 : decode cX4_append 7 = .ok (.sipush 480, 3) := by decide +kernel
theorem dX4_append_10 : decode cX4_append 10 = .ok (.if_icmp .le 5, 3) := by decide +kernel
theorem dX4_append_13 : decode cX4_append 13 = .ok (.iconst (-1), 1) := by decide +kernel
theorem dX4_append_14 : decode cX4_append 14 = .ok (.ireturn, 1) := by decide +kernel
theorem dX4_append_15 : decode cX4_append 15 = .ok (.aload_n 0, 1) := by decide +kernel
theorem dX4_append_16 : decode cX4_append 16 = .ok (.getfield 26, 3) := by decide +kernel
theorem dX4_append_19 : decode cX4_append 19 = .ok (.iload_n 1, 1) := by decide +kernel
theorem dX4_append_20 : decode cX4_append 20 = .ok (.invokevirtual 48, 3) := by decide +kernel
theorem dX4_append_23 : decode cX4_append 23 = .ok (.aload_n 0, 1) := by decide +kernel
theorem dX4_append_24 : decode cX4_append 24 = .ok (.getfield 26, 3) := by decide +kernel
theorem dX4_append_27 : decode cX4_append 27 = .ok (.iload_n 2, 1) := by decide +kernel
theorem dX4_append_28 : decode cX4_append 28 = .ok (.invokevirtual 48, 3) := by decide +kernel
theorem dX4_append_31 : decode cX4_append 31 = .ok (.aload_n 0, 1) := by decide +kernel
theorem dX4_append_32 : decode cX4_append 32 = .ok (.getfield 26, 3) := by decide +kernel
theorem dX4_append_35 : decode cX4_append 35 = .ok (.iload_n 3, 1) := by decide +kernel
theorem dX4_append_36 : decode cX4_append 36 = .ok (.invokevirtual 48, 3) := by decide +kernel
theorem dX4_append_39 : decode cX4_append 39 = .ok (.aload_n 0, 1) := by decide +kernel
theorem dX4_append_40 : decode cX4_append 40 = .ok (.getfield 26, 3) := by decide +kernel
theorem dX4_append_43 : decode cX4_append 43 = .ok (.iload 4, 2) := by decide +kernel
theorem dX4_append_45 : decode cX4_append 45 = .ok (.invokevirtual 48, 3) := by decide +kernel
theorem dX4_append_48 : decode cX4_append 48 = .ok (.aload_n 0, 1) := by decide +kernel
theorem dX4_append_49 : decode cX4_append 49 = .ok (.getfield 26, 3) := by decide +kernel
theorem dX4_append_52 : decode cX4_append 52 = .ok (.iload 5, 2) := by decide +kernel
theorem dX4_append_54 : decode cX4_append 54 = .ok (.invokevirtual 48, 3) := by decide +kernel
theorem dX4_append_57 : decode cX4_append 57 = .ok (.aload_n 0, 1) := by decide +kernel
theorem dX4_append_58 : decode cX4_append 58 = .ok (.getfield 26, 3) := by decide +kernel
theorem dX4_append_61 : decode cX4_append 61 = .ok (.getfield 45, 3) := by decide +kernel
theorem dX4_append_64 : decode cX4_append 64 = .ok (.ireturn, 1) := by decide +kernel
set_option maxRecDepth 20000 in
theorem ggX4_load_X2_read : GoodIn wsX4_load wsX2_read := goodIn_r _ [15, 16, 17, 18, 19, 20, 21, 22, 23, 24, 14, 25, 26, 27, 28, 29, 30, 31, 32, 33, 34, 35, 36, 37, 38, 39, 40, 41, 42, 43, 44, 45, 46, 47, 48, 49, 50, 51, 52, 53, 54, 55, 56, 57, 58, 59, 60, 61, 62, 63, 64, 65, 66, 67, 68, 69, 70, 71, 72, 73, 74, 75, 76, 77, 78, 79, 80, 81, 82, 83, 84, 85, 86, 87, 88, 89, 90, 91, 92, 93, 94, 95, 96, 97, 98, 99, 100, 101, 102, 103, 104, 105, 106, 107, 108, 109, 110, 111, 112, 113, 114, 115, 116, 117, 118, 119, 120, 121, 122, 123, 124, 125, 126, 127, 128, 129, 130, 131, 132, 133, 134, 135, 136, 137, 138, 139, 140, 141, 142, 143, 144, 145, 146, 147, 148, 149, 150, 151, 152, 153, 154, 155, 156, 157, 158, 159, 160, 161, 162, 163, 164, 165, 166, 167, 168, 169, 170, 171, 172, 173, 174, 175, 176, 177, 178, 179, 180, 181, 182, 183, 184, 185, 186, 187, 188, 189, 190, 191, 192, 193, 194, 195, 196, 197, 198, 199, 200, 201, 202, 203, 204, 205, 206, 207, 208, 209, 210, 211, 212, 213, 214, 215, 216, 217, 218, 219, 220, 221, 222, 223, 224, 225, 226, 227, 228, 229, 230, 231, 232, 233, 234, 235, 236, 237, 238, 239, 240, 241, 242, 243, 244, 245, 246, 247, 248, 249, 250, 251, 252, 253, 254, 255, 256, 257, 258, 259, 260, 261, 262, 263, 264, 265, 266, 267, 268, 269, 270, 271, 272, 273, 274, 275, 276, 277, 278, 279, 280, 281, 282, 283, 284, 285, 286, 287, 288, 289, 290, 323, 324, 325, 326, 327, 328, 329, 330, 331, 332, 333, 334, 335, 336, 337, 338, 339, 340, 341, 342, 343, 344, 345, 346, 347, 348, 349, 350, 351] (by decide +kernel) (by decide +kernel)
set_option maxRecDepth 20000 in
theorem gX4_load_X2_read : GoodIn wsX4_load (wsV RX4 58 RX2 yX2_read wsX2_read) := goodIn_app (goodIn_of _ (by decide +kernel)) ggX4_load_X2_read
set_option maxRecDepth 20000 in
theorem ggX4_load_X0_save : GoodIn wsX4_load wsX0_save := goodIn_r _ [295, 296, 297, 298, 103, 104, 105, 299, 300, 301, 294, 302, 303, 304, 305, 306, 112, 307, 152, 170, 308, 309, 310, 311, 165, 122, 114, 115, 116, 117, 118, 119, 120, 121, 312, 313, 314, 254, 315, 261, 316, 317, 262, 256, 352, 353, 354, 334, 335, 336, 337, 338, 339, 340, 341, 342, 343, 344, 349, 350, 351] (by decide +kernel) (by decide +kernel)
set_option maxRecDepth 20000 in
theorem gX4_load_X0_save : GoodIn wsX4_load (wsV RX4 68 RX0 yX0_save wsX0_save) := goodIn_app (goodIn_of _ (by decide +kernel)) ggX4_load_X0_save
set_option maxRecDepth 20000 in
theorem ggX4_load_X1_copyFrom : GoodIn wsX4_load wsX1_copyFrom := goodIn_r _ [307, 152, 170, 103, 104, 105, 308, 309, 310, 311, 165, 122, 114, 115, 116, 117, 118, 119, 120, 121, 312, 313, 314, 254, 315, 261, 316, 317, 262, 256, 334, 335, 336, 337, 338, 339, 340, 341, 342, 343, 344, 349, 350, 351] (by decide +kernel) (by decide +kernel)
set_option maxRecDepth 20000 in
theorem gX4_load_X1_copyFrom : GoodIn wsX4_load (wsV RX4 75 RX1 yX1_copyFrom wsX1_copyFrom) := goodIn_app (goodIn_of _ (by decide +kernel)) ggX4_load_X1_copyFrom
theorem dX4_load_0 : decode cX4_load 0 = .ok (.iload_n 1, 1) := by decide +kernel
theorem dX4_load_1 : decode cX4_load 1 = .ok (.ifCond .lt 14, 3) := by decide +kernel
theorem dX4_load_4 : decode cX4_load 4 = .ok (.iload_n 1, 1) := by decide +kernel
theorem dX4_load_5 : decode cX4_load 5 = .ok (.aload_n 0, 1) := by decide +kernel
theorem dX4_load_6 : decode cX4_load 6 = .ok (.getfield 26, 3) := by decide +kernel
theorem dX4_load_9 : decode cX4_load 9 = .ok (.getfield 45, 3) := by decide +kernel
theorem dX4_load_12 : decode cX4_load 12 = .ok (.if_icmp .le 13, 3) := by decide +kernel
theorem dX4_load_15 : decode cX4_load 15 = .ok (.new 51, 3) := by decide +kernel
theorem dX4_load_18 : decode cX4_load 18 = .ok (.dup, 1) := by decide +kernel
theorem dX4_load_19 : decode cX4_load 19 = .ok (.ldc 53, 2) := by decide +kernel
theorem dX4_load_21 : decode cX4_load 21 = .ok (.invokespecial 55, 3) := by decide +kernel
theorem dX4_load_24 : decode cX4_load 24 = .ok (.athrow, 1) := by decide +kernel
theorem dX4_load_25 : decode cX4_load 25 = .ok (.aload_n 0, 1) := by decide +kernel
theorem dX4_load_26 : decode cX4_load 26 = .ok (.getfield 26, 3) := by decide +kernel
theorem dX4_load_29 : decode cX4_load 29 = .ok (.iload_n 1, 1) := by decide +kernel
theorem dX4_load_30 : decode cX4_load 30 = .ok (.invokevirtual 58, 3) := by decide +kernel
theorem dX4_load_33 : decode cX4_load 33 = .ok (.istore_n 2, 1) := by decide +kernel
theorem dX4_load_34 : decode cX4_load 34 = .ok (.aload_n 0, 1) := by decide +kernel
theorem dX4_load_35 : decode cX4_load 35 = .ok (.getfield 26, 3) := by decide +kernel
theorem dX4_load_38 : decode cX4_load 38 = .ok (.iconst 0, 1) := by decide +kernel
theorem dX4_load_39 : decode cX4_load 39 = .ok (.putfield 45, 3) := by decide +kernel
theorem dX4_load_42 : decode cX4_load 42 = .ok (.aload_n 0, 1) := by decide +kernel
theorem dX4_load_43 : decode cX4_load 43 = .ok (.aload_n 0, 1) := by decide +kernel
theorem dX4_load_44 : decode cX4_load 44 = .ok (.getfield 26, 3) := by decide +kernel
theorem dX4_load_47 : decode cX4_load 47 = .ok (.getfield 62, 3) := by decide +kernel
theorem dX4_load_50 : decode cX4_load 50 = .ok (.putfield 30, 3) := by decide +kernel
theorem dX4_load_53 : decode cX4_load 53 = .ok (.aload_n 0, 1) := by decide +kernel
theorem dX4_load_54 : decode cX4_load 54 = .ok (.getfield 26, 3) := by decide +kernel
theorem dX4_load_57 : decode cX4_load 57 = .ok (.getfield 65, 3) := by decide +kernel
theorem dX4_load_60 : decode cX4_load 60 = .ok (.ifCond .ne 28, 3) := by decide +kernel
theorem dX4_load_63 : decode cX4_load 63 = .ok (.aload_n 0, 1) := by decide +kernel
theorem dX4_load_64 : decode cX4_load 64 = .ok (.getfield 19, 3) := by decide +kernel
theorem dX4_load_67 : decode cX4_load 67 = .ok (.aload_n 0, 1) := by decide +kernel
theorem dX4_load_68 : decode cX4_load 68 = .ok (.getfield 10, 3) := by decide +kernel
theorem dX4_load_71 : decode cX4_load 71 = .ok (.invokevirtual 68, 3) := by decide +kernel
theorem dX4_load_74 : decode cX4_load 74 = .ok (.aload_n 0, 1) := by decide +kernel
theorem dX4_load_75 : decode cX4_load 75 = .ok (.getfield 10, 3) := by decide +kernel
theorem dX4_load_78 : decode cX4_load 78 = .ok (.aload_n 0, 1) := by decide +kernel
theorem dX4_load_79 : decode cX4_load 79 = .ok (.getfield 26, 3) := by decide +kernel
theorem dX4_load_82 : decode cX4_load 82 = .ok (.getfield 72, 3) := by decide +kernel
theorem dX4_load_85 : decode cX4_load 85 = .ok (.invokevirtual 75, 3) := by decide +kernel
theorem dX4_load_88 : decode cX4_load 88 = .ok (.iload_n 2, 1) := by decide +kernel
theorem dX4_load_89 : decode cX4_load 89 = .ok (.ireturn, 1) := by decide +kernel
set_option maxRecDepth 20000 in
theorem ggX4_state_X4_numberOfState : GoodIn wsX4_state wsX4_numberOfState := goodIn_r _ [7, 8, 9, 10, 11, 12, 13, 14, 15, 16, 17, 18, 19, 20, 6, 21, 22, 23, 24, 25, 26, 27, 28, 29, 30, 31, 32, 33, 34, 35, 36, 37, 38, 39, 40, 41, 42, 43, 44, 45, 46, 47, 48, 49, 50, 51, 52, 53, 54, 55, 56, 57, 58, 59, 60] (by decide +kernel) (by decide +kernel)
set_option maxRecDepth 20000 in
theorem gX4_state_X4_numberOfState : GoodIn wsX4_state (wsV RX4 80 RX4 yX4_numberOfState wsX4_numberOfState) := goodIn_app (goodIn_of _ (by decide +kernel)) ggX4_state_X4_numberOfState
theorem dX4_state_0 : decode cX4_state 0 = .ok (.iload_n 1, 1) := by decide +kernel
theorem dX4_state_1 : decode cX4_state 1 = .ok (.ifCond .lt 9, 3) := by decide +kernel
theorem dX4_state_4 : decode cX4_state 4 = .ok (.iload_n 1, 1) := by decide +kernel
theorem dX4_state_5 : decode cX4_state 5 = .ok (.bipush 11, 2) := by decide +kernel
theorem dX4_state_7 : decode cX4_state 7 = .ok (.if_icmp .lt 13, 3) := by decide +kernel
theorem dX4_state_10 : decode cX4_state 10 = .ok (.new 51, 3) := by decide +kernel
theorem dX4_state_13 : decode cX4_state 13 = .ok (.dup, 1) := by decide +kernel
theorem dX4_state_14 : decode cX4_state 14 = .ok (.ldc 78, 2) := by decide +kernel
theorem dX4_state_16 : decode cX4_state 16 = .ok (.invokespecial 55, 3) := by decide +kernel
theorem dX4_state_19 : decode cX4_state 19 = .ok (.athrow, 1) := by decide +kernel
theorem dX4_state_20 : decode cX4_state 20 = .ok (.aload_n 0, 1) := by decide +kernel
theorem dX4_state_21 : decode cX4_state 21 = .ok (.iload_n 1, 1) := by decide +kernel
theorem dX4_state_22 : decode cX4_state 22 = .ok (.invokevirtual 80, 3) := by decide +kernel
theorem dX4_state_25 : decode cX4_state 25 = .ok (.ireturn, 1) := by decide +kernel
set_option maxRecDepth 20000 in
theorem ggX4_value_X4_demandPlace : GoodIn wsX4_value wsX4_demandPlace := goodIn_ca (goodIn_r _ [6, 7, 8, 1, 9, 10, 11, 12, 13, 14, 20, 21, 22, 23, 24, 25, 26, 27, 28, 29, 30, 31, 32, 33, 34] (by decide +kernel) (by decide +kernel)) (goodIn_sub (fun _ h => List.mem_cons_of_mem _ (List.mem_append_right _ h)) (by decide +kernel))
set_option maxRecDepth 20000 in
theorem gX4_value_X4_demandPlace : GoodIn wsX4_value (wsV RX4 83 RX4 yX4_demandPlace wsX4_demandPlace) := goodIn_app (goodIn_of _ (by decide +kernel)) ggX4_value_X4_demandPlace
set_option maxRecDepth 20000 in
theorem ggX4_value_X1_valueAt : GoodIn wsX4_value wsX1_valueAt := goodIn_r _ [18, 19, 24, 25, 26, 27, 28, 29, 30, 31, 32, 33, 34] (by decide +kernel) (by decide +kernel)
set_option maxRecDepth 20000 in
theorem gX4_value_X1_valueAt : GoodIn wsX4_value (wsV RX4 86 RX1 yX1_valueAt wsX1_valueAt) := goodIn_app (goodIn_of _ (by decide +kernel)) ggX4_value_X1_valueAt
theorem dX4_value_0 : decode cX4_value 0 = .ok (.aload_n 0, 1) := by decide +kernel
theorem dX4_value_1 : decode cX4_value 1 = .ok (.iload_n 1, 1) := by decide +kernel
theorem dX4_value_2 : decode cX4_value 2 = .ok (.invokevirtual 83, 3) := by decide +kernel
theorem dX4_value_5 : decode cX4_value 5 = .ok (.aload_n 0, 1) := by decide +kernel
theorem dX4_value_6 : decode cX4_value 6 = .ok (.getfield 10, 3) := by decide +kernel
theorem dX4_value_9 : decode cX4_value 9 = .ok (.iload_n 1, 1) := by decide +kernel
theorem dX4_value_10 : decode cX4_value 10 = .ok (.invokevirtual 86, 3) := by decide +kernel
theorem dX4_value_13 : decode cX4_value 13 = .ok (.ireturn, 1) := by decide +kernel
set_option maxRecDepth 20000 in
theorem ggX4_cell_X4_demandPlace : GoodIn wsX4_cell wsX4_demandPlace := goodIn_ca (goodIn_r _ [8, 9, 10, 3, 11, 12, 13, 14, 15, 16, 34, 35, 36, 37, 38, 39, 40, 41, 42, 43, 44, 45, 46, 47, 48] (by decide +kernel) (by decide +kernel)) (goodIn_sub (fun _ h => List.mem_cons_of_mem _ (List.mem_append_right _ h)) (by decide +kernel))
set_option maxRecDepth 20000 in
theorem gX4_cell_X4_demandPlace : GoodIn wsX4_cell (wsV RX4 83 RX4 yX4_demandPlace wsX4_demandPlace) := goodIn_app (goodIn_of _ (by decide +kernel)) ggX4_cell_X4_demandPlace
set_option maxRecDepth 20000 in
theorem ggX4_cell_X1_hasCell : GoodIn wsX4_cell wsX1_hasCell := goodIn_r _ [20, 21, 22, 23, 14, 24, 16, 25, 26, 27, 28, 38, 39, 40, 41, 42, 43, 44, 45, 46, 47, 48] (by decide +kernel) (by decide +kernel)
set_option maxRecDepth 20000 in
theorem gX4_cell_X1_hasCell : GoodIn wsX4_cell (wsV RX4 89 RX1 yX1_hasCell wsX1_hasCell) := goodIn_app (goodIn_of _ (by decide +kernel)) ggX4_cell_X1_hasCell
set_option maxRecDepth 20000 in
theorem ggX4_cell_X1_cellAt : GoodIn wsX4_cell wsX1_cellAt := goodIn_r _ [32, 33, 38, 39, 40, 41, 42, 43, 44, 45, 46, 47, 48] (by decide +kernel) (by decide +kernel)
set_option maxRecDepth 20000 in
theorem gX4_cell_X1_cellAt : GoodIn wsX4_cell (wsV RX4 98 RX1 yX1_cellAt wsX1_cellAt) := goodIn_app (goodIn_of _ (by decide +kernel)) ggX4_cell_X1_cellAt
theorem dX4_cell_0 : decode cX4_cell 0 = .ok (.aload_n 0, 1) := by decide +kernel
theorem dX4_cell_1 : decode cX4_cell 1 = .ok (.iload_n 2, 1) := by decide +kernel
theorem dX4_cell_2 : decode cX4_cell 2 = .ok (.invokevirtual 83, 3) := by decide +kernel
theorem dX4_cell_5 : decode cX4_cell 5 = .ok (.aload_n 0, 1) := by decide +kernel
theorem dX4_cell_6 : decode cX4_cell 6 = .ok (.getfield 10, 3) := by decide +kernel
theorem dX4_cell_9 : decode cX4_cell 9 = .ok (.iload_n 1, 1) := by decide +kernel
theorem dX4_cell_10 : decode cX4_cell 10 = .ok (.iload_n 2, 1) := by decide +kernel
theorem dX4_cell_11 : decode cX4_cell 11 = .ok (.invokevirtual 89, 3) := by decide +kernel
theorem dX4_cell_14 : decode cX4_cell 14 = .ok (.ifCond .ne 13, 3) := by decide +kernel
theorem dX4_cell_17 : decode cX4_cell 17 = .ok (.new 93, 3) := by decide +kernel
theorem dX4_cell_20 : decode cX4_cell 20 = .ok (.dup, 1) := by decide +kernel
theorem dX4_cell_21 : decode cX4_cell 21 = .ok (.ldc 95, 2) := by decide +kernel
theorem dX4_cell_23 : decode cX4_cell 23 = .ok (.invokespecial 97, 3) := by decide +kernel
theorem dX4_cell_26 : decode cX4_cell 26 = .ok (.athrow, 1) := by decide +kernel
theorem dX4_cell_27 : decode cX4_cell 27 = .ok (.aload_n 0, 1) := by decide +kernel
theorem dX4_cell_28 : decode cX4_cell 28 = .ok (.getfield 10, 3) := by decide +kernel
theorem dX4_cell_31 : decode cX4_cell 31 = .ok (.iload_n 1, 1) := by decide +kernel
theorem dX4_cell_32 : decode cX4_cell 32 = .ok (.iload_n 2, 1) := by decide +kernel
theorem dX4_cell_33 : decode cX4_cell 33 = .ok (.invokevirtual 98, 3) := by decide +kernel
theorem dX4_cell_36 : decode cX4_cell 36 = .ok (.ireturn, 1) := by decide +kernel
set_option maxRecDepth 20000 in
theorem ggX4_waits_X4_demandPlace : GoodIn wsX4_waits wsX4_demandPlace := goodIn_ca (goodIn_r _ [6, 7, 8, 1, 9, 10, 11, 12, 13, 14, 22, 23, 24, 25, 26, 27, 28, 29, 30, 31, 32, 33, 34, 35, 36] (by decide +kernel) (by decide +kernel)) (goodIn_sub (fun _ h => List.mem_cons_of_mem _ (List.mem_append_right _ h)) (by decide +kernel))
set_option maxRecDepth 20000 in
theorem gX4_waits_X4_demandPlace : GoodIn wsX4_waits (wsV RX4 83 RX4 yX4_demandPlace wsX4_demandPlace) := goodIn_app (goodIn_of _ (by decide +kernel)) ggX4_waits_X4_demandPlace
set_option maxRecDepth 20000 in
theorem ggX4_waits_X1_isWaiting : GoodIn wsX4_waits wsX1_isWaiting := goodIn_r _ [18, 19, 20, 5, 21, 26, 27, 28, 29, 30, 31, 32, 33, 34, 35, 36] (by decide +kernel) (by decide +kernel)
set_option maxRecDepth 20000 in
theorem gX4_waits_X1_isWaiting : GoodIn wsX4_waits (wsV RX4 102 RX1 yX1_isWaiting wsX1_isWaiting) := goodIn_app (goodIn_of _ (by decide +kernel)) ggX4_waits_X1_isWaiting
theorem dX4_waits_0 : decode cX4_waits 0 = .ok (.aload_n 0, 1) := by decide +kernel
theorem dX4_waits_1 : decode cX4_waits 1 = .ok (.iload_n 1, 1) := by decide +kernel
theorem dX4_waits_2 : decode cX4_waits 2 = .ok (.invokevirtual 83, 3) := by decide +kernel
theorem dX4_waits_5 : decode cX4_waits 5 = .ok (.aload_n 0, 1) := by decide +kernel
theorem dX4_waits_6 : decode cX4_waits 6 = .ok (.getfield 10, 3) := by decide +kernel
theorem dX4_waits_9 : decode cX4_waits 9 = .ok (.iload_n 1, 1) := by decide +kernel
theorem dX4_waits_10 : decode cX4_waits 10 = .ok (.invokevirtual 102, 3) := by decide +kernel
theorem dX4_waits_13 : decode cX4_waits 13 = .ok (.ireturn, 1) := by decide +kernel
set_option maxRecDepth 20000 in
theorem ggX4_kept_X4_demandKept : GoodIn wsX4_kept wsX4_demandKept := goodIn_ca (goodIn_r _ [5, 6, 7, 8, 9, 10, 26, 27, 28, 29, 30, 31, 32, 33, 34, 35, 36, 37, 38, 39, 40, 41, 42, 43] (by decide +kernel) (by decide +kernel)) (goodIn_sub (fun _ h => List.mem_cons_of_mem _ (List.mem_append_right _ h)) (by decide +kernel))
set_option maxRecDepth 20000 in
theorem gX4_kept_X4_demandKept : GoodIn wsX4_kept (wsV RX4 134 RX4 yX4_demandKept wsX4_demandKept) := goodIn_app (goodIn_of _ (by decide +kernel)) ggX4_kept_X4_demandKept
set_option maxRecDepth 20000 in
theorem ggX4_kept_X4_keptAsNumber : GoodIn wsX4_kept wsX4_keptAsNumber := goodIn_r _ [14, 8, 9, 15, 16, 17, 18, 19, 20, 21, 22, 23, 24, 25, 26, 27, 28, 29, 30, 31, 32, 33, 34, 35, 36, 37, 38, 39, 40, 41, 42, 43] (by decide +kernel) (by decide +kernel)
set_option maxRecDepth 20000 in
theorem gX4_kept_X4_keptAsNumber : GoodIn wsX4_kept (wsV RX4 137 RX4 yX4_keptAsNumber wsX4_keptAsNumber) := goodIn_app (goodIn_of _ (by decide +kernel)) ggX4_kept_X4_keptAsNumber
theorem dX4_kept_0 : decode cX4_kept 0 = .ok (.aload_n 0, 1) := by decide +kernel
theorem dX4_kept_1 : decode cX4_kept 1 = .ok (.iload_n 1, 1) := by decide +kernel
theorem dX4_kept_2 : decode cX4_kept 2 = .ok (.invokevirtual 134, 3) := by decide +kernel
theorem dX4_kept_5 : decode cX4_kept 5 = .ok (.aload_n 0, 1) := by decide +kernel
theorem dX4_kept_6 : decode cX4_kept 6 = .ok (.iload_n 1, 1) := by decide +kernel
theorem dX4_kept_7 : decode cX4_kept 7 = .ok (.invokevirtual 137, 3) := by decide +kernel
theorem dX4_kept_10 : decode cX4_kept 10 = .ok (.ireturn, 1) := by decide +kernel
set_option maxRecDepth 20000 in
theorem ggX4_gap_X1_cellsOnLevel : GoodIn wsX4_gap wsX1_cellsOnLevel := goodIn_r _ [8, 9, 10, 11, 12, 13, 59, 60, 61, 62, 63, 64, 65, 66, 67, 68, 69] (by decide +kernel) (by decide +kernel)
set_option maxRecDepth 20000 in
theorem gX4_gap_X1_cellsOnLevel : GoodIn wsX4_gap (wsV RX4 159 RX1 yX1_cellsOnLevel wsX1_cellsOnLevel) := goodIn_app (goodIn_of _ (by decide +kernel)) ggX4_gap_X1_cellsOnLevel
set_option maxRecDepth 20000 in
theorem ggX4_gap_X1_isCellWrong : GoodIn wsX4_gap wsX1_isCellWrong := goodIn_r _ [17, 18, 19, 20, 21, 7, 22, 23, 24, 25, 26, 27, 28, 29, 30, 31, 32, 33, 34, 12, 35, 59, 60, 61, 62, 63, 64, 65, 66, 67, 68, 69] (by decide +kernel) (by decide +kernel)
set_option maxRecDepth 20000 in
theorem gX4_gap_X1_isCellWrong : GoodIn wsX4_gap (wsV RX4 162 RX1 yX1_isCellWrong wsX1_isCellWrong) := goodIn_app (goodIn_of _ (by decide +kernel)) ggX4_gap_X1_isCellWrong
set_option maxRecDepth 20000 in
theorem ggX4_gap_X3_fromAt : GoodIn wsX4_gap wsX3_fromAt := goodIn_r _ [40, 41, 70, 71, 72] (by decide +kernel) (by decide +kernel)
set_option maxRecDepth 20000 in
theorem gX4_gap_X3_fromAt : GoodIn wsX4_gap (wsV RX4 165 RX3 yX3_fromAt wsX3_fromAt) := goodIn_app (goodIn_of _ (by decide +kernel)) ggX4_gap_X3_fromAt
set_option maxRecDepth 20000 in
theorem ggX4_gap_X3_toAt : GoodIn wsX4_gap wsX3_toAt := goodIn_r _ [45, 46, 70, 71, 72] (by decide +kernel) (by decide +kernel)
set_option maxRecDepth 20000 in
theorem gX4_gap_X3_toAt : GoodIn wsX4_gap (wsV RX4 168 RX3 yX3_toAt wsX3_toAt) := goodIn_app (goodIn_of _ (by decide +kernel)) ggX4_gap_X3_toAt
set_option maxRecDepth 20000 in
theorem ggX4_gap_X1_hasStretch : GoodIn wsX4_gap wsX1_hasStretch := goodIn_r _ [50, 51, 52, 53, 7, 54, 9, 59, 60, 61, 62, 63, 64, 65, 66, 67, 68, 69] (by decide +kernel) (by decide +kernel)
set_option maxRecDepth 20000 in
theorem gX4_gap_X1_hasStretch : GoodIn wsX4_gap (wsV RX4 171 RX1 yX1_hasStretch wsX1_hasStretch) := goodIn_app (goodIn_of _ (by decide +kernel)) ggX4_gap_X1_hasStretch
theorem dX4_gap_0 : decode cX4_gap 0 = .ok (.iconst 0, 1) := by decide +kernel
theorem dX4_gap_1 : decode cX4_gap 1 = .ok (.istore_n 1, 1) := by decide +kernel
theorem dX4_gap_2 : decode cX4_gap 2 = .ok (.iconst 1, 1) := by decide +kernel
theorem dX4_gap_3 : decode cX4_gap 3 = .ok (.istore_n 2, 1) := by decide +kernel
theorem dX4_gap_4 : decode cX4_gap 4 = .ok (.iload_n 2, 1) := by decide +kernel
theorem dX4_gap_5 : decode cX4_gap 5 = .ok (.bipush 6, 2) := by decide +kernel
theorem dX4_gap_7 : decode cX4_gap 7 = .ok (.if_icmp .ge 54, 3) := by decide +kernel
theorem dX4_gap_10 : decode cX4_gap 10 = .ok (.aload_n 0, 1) := by decide +kernel
theorem dX4_gap_11 : decode cX4_gap 11 = .ok (.getfield 10, 3) := by decide +kernel
theorem dX4_gap_14 : decode cX4_gap 14 = .ok (.iload_n 2, 1) := by decide +kernel
theorem dX4_gap_15 : decode cX4_gap 15 = .ok (.invokevirtual 159, 3) := by decide +kernel
theorem dX4_gap_18 : decode cX4_gap 18 = .ok (.istore_n 3, 1) := by decide +kernel
theorem dX4_gap_19 : decode cX4_gap 19 = .ok (.iconst 0, 1) := by decide +kernel
theorem dX4_gap_20 : decode cX4_gap 20 = .ok (.istore 4, 2) := by decide +kernel
theorem dX4_gap_22 : decode cX4_gap 22 = .ok (.iload 4, 2) := by decide +kernel
theorem dX4_gap_24 : decode cX4_gap 24 = .ok (.iload_n 3, 1) := by decide +kernel
theorem dX4_gap_25 : decode cX4_gap 25 = .ok (.if_icmp .ge 30, 3) := by decide +kernel
theorem dX4_gap_28 : decode cX4_gap 28 = .ok (.iload_n 1, 1) := by decide +kernel
theorem dX4_gap_29 : decode cX4_gap 29 = .ok (.aload_n 0, 1) := by decide +kernel
theorem dX4_gap_30 : decode cX4_gap 30 = .ok (.getfield 10, 3) := by decide +kernel
theorem dX4_gap_33 : decode cX4_gap 33 = .ok (.iload_n 2, 1) := by decide +kernel
theorem dX4_gap_34 : decode cX4_gap 34 = .ok (.iload 4, 2) := by decide +kernel
theorem dX4_gap_36 : decode cX4_gap 36 = .ok (.invokevirtual 162, 3) := by decide +kernel
theorem dX4_gap_39 : decode cX4_gap 39 = .ok (.ifCond .eq 7, 3) := by decide +kernel
theorem dX4_gap_42 : decode cX4_gap 42 = .ok (.iconst 1, 1) := by decide +kernel
theorem dX4_gap_43 : decode cX4_gap 43 = .ok (.goto 4, 3) := by decide +kernel
theorem dX4_gap_46 : decode cX4_gap 46 = .ok (.iconst 0, 1) := by decide +kernel
theorem dX4_gap_47 : decode cX4_gap 47 = .ok (.iadd, 1) := by decide +kernel
theorem dX4_gap_48 : decode cX4_gap 48 = .ok (.istore_n 1, 1) := by decide +kernel
theorem dX4_gap_49 : decode cX4_gap 49 = .ok (.iinc 4 1, 3) := by decide +kernel
theorem dX4_gap_52 : decode cX4_gap 52 = .ok (.goto (-30), 3) := by decide +kernel
theorem dX4_gap_55 : decode cX4_gap 55 = .ok (.iinc 2 1, 3) := by decide +kernel
theorem dX4_gap_58 : decode cX4_gap 58 = .ok (.goto (-54), 3) := by decide +kernel
theorem dX4_gap_61 : decode cX4_gap 61 = .ok (.iconst 0, 1) := by decide +kernel
theorem dX4_gap_62 : decode cX4_gap 62 = .ok (.istore_n 2, 1) := by decide +kernel
theorem dX4_gap_63 : decode cX4_gap 63 = .ok (.iload_n 2, 1) := by decide +kernel
theorem dX4_gap_64 : decode cX4_gap 64 = .ok (.aload_n 0, 1) := by decide +kernel
theorem dX4_gap_65 : decode cX4_gap 65 = .ok (.getfield 10, 3) := by decide +kernel
theorem dX4_gap_68 : decode cX4_gap 68 = .ok (.getfield 144, 3) := by decide +kernel
theorem dX4_gap_71 : decode cX4_gap 71 = .ok (.getfield 148, 3) := by decide +kernel
theorem dX4_gap_74 : decode cX4_gap 74 = .ok (.if_icmp .ge 49, 3) := by decide +kernel
theorem dX4_gap_77 : decode cX4_gap 77 = .ok (.iload_n 1, 1) := by decide +kernel
theorem dX4_gap_78 : decode cX4_gap 78 = .ok (.aload_n 0, 1) := by decide +kernel
theorem dX4_gap_79 : decode cX4_gap 79 = .ok (.getfield 10, 3) := by decide +kernel
theorem dX4_gap_82 : decode cX4_gap 82 = .ok (.aload_n 0, 1) := by decide +kernel
theorem dX4_gap_83 : decode cX4_gap 83 = .ok (.getfield 10, 3) := by decide +kernel
theorem dX4_gap_86 : decode cX4_gap 86 = .ok (.getfield 144, 3) := by decide +kernel
theorem dX4_gap_89 : decode cX4_gap 89 = .ok (.iload_n 2, 1) := by decide +kernel
theorem dX4_gap_90 : decode cX4_gap 90 = .ok (.invokevirtual 165, 3) := by decide +kernel
theorem dX4_gap_93 : decode cX4_gap 93 = .ok (.aload_n 0, 1) := by decide +kernel
theorem dX4_gap_94 : decode cX4_gap 94 = .ok (.getfield 10, 3) := by decide +kernel
theorem dX4_gap_97 : decode cX4_gap 97 = .ok (.getfield 144, 3) := by decide +kernel
theorem dX4_gap_100 : decode cX4_gap 100 = .ok (.iload_n 2, 1) := by decide +kernel
theorem dX4_gap_101 : decode cX4_gap 101 = .ok (.invokevirtual 168, 3) := by decide +kernel
theorem dX4_gap_104 : decode cX4_gap 104 = .ok (.invokevirtual 171, 3) := by decide +kernel
theorem dX4_gap_107 : decode cX4_gap 107 = .ok (.ifCond .eq 7, 3) := by decide +kernel
theorem dX4_gap_110 : decode cX4_gap 110 = .ok (.iconst 0, 1) := by decide +kernel
theorem dX4_gap_111 : decode cX4_gap 111 = .ok (.goto 4, 3) := by decide +kernel
theorem dX4_gap_114 : decode cX4_gap 114 = .ok (.iconst 1, 1) := by decide +kernel
theorem dX4_gap_115 : decode cX4_gap 115 = .ok (.iadd, 1) := by decide +kernel
theorem dX4_gap_116 : decode cX4_gap 116 = .ok (.istore_n 1, 1) := by decide +kernel
theorem dX4_gap_117 : decode cX4_gap 117 = .ok (.iinc 2 1, 3) := by decide +kernel
theorem dX4_gap_120 : decode cX4_gap 120 = .ok (.goto (-57), 3) := by decide +kernel
theorem dX4_gap_123 : decode cX4_gap 123 = .ok (.iload_n 1, 1) := by decide +kernel
theorem dX4_gap_124 : decode cX4_gap 124 = .ok (.ireturn, 1) := by decide +kernel
set_option maxRecDepth 20000 in
theorem ggX4_set_X4_demandPlace : GoodIn wsX4_set wsX4_demandPlace := goodIn_ca (goodIn_r _ [7, 8, 9, 2, 10, 11, 12, 13, 14, 15, 111, 112, 113, 114, 115, 116, 117, 118, 119, 120, 121, 122, 123, 124, 125] (by decide +kernel) (by decide +kernel)) (goodIn_sub (fun _ h => List.mem_cons_of_mem _ (List.mem_append_left _ (List.mem_append_right _ h))) (by decide +kernel))
set_option maxRecDepth 20000 in
theorem gX4_set_X4_demandPlace : GoodIn wsX4_set (wsV RX4 83 RX4 yX4_demandPlace wsX4_demandPlace) := goodIn_app (goodIn_of _ (by decide +kernel)) ggX4_set_X4_demandPlace
set_option maxRecDepth 20000 in
theorem ggX4_set_X4_demandValue : GoodIn wsX4_set wsX4_demandValue := goodIn_ca (goodIn_r _ [19, 20, 21] (by decide +kernel) (by decide +kernel)) (goodIn_sub (fun _ h => List.mem_cons_of_mem _ (List.mem_append_right _ h)) (by decide +kernel))
set_option maxRecDepth 20000 in
theorem gX4_set_X4_demandValue : GoodIn wsX4_set (wsV RX4 183 RX4 yX4_demandValue wsX4_demandValue) := goodIn_app (goodIn_of _ (by decide +kernel)) ggX4_set_X4_demandValue
set_option maxRecDepth 20000 in
theorem ggX4_set_X0_save : GoodIn wsX4_set wsX0_save := goodIn_r _ [26, 27, 28, 29, 30, 31, 32, 33, 34, 35, 25, 36, 37, 38, 39, 40, 13, 41, 42, 43, 44, 45, 46, 47, 48, 49, 15, 50, 51, 52, 53, 54, 55, 56, 57, 58, 59, 60, 61, 62, 63, 64, 65, 66, 126, 127, 128, 115, 116, 117, 118, 119, 120, 121, 122, 123, 124, 125, 129, 130, 131] (by decide +kernel) (by decide +kernel)
set_option maxRecDepth 20000 in
theorem gX4_set_X0_save : GoodIn wsX4_set (wsV RX4 68 RX0 yX0_save wsX0_save) := goodIn_app (goodIn_of _ (by decide +kernel)) ggX4_set_X0_save
set_option maxRecDepth 20000 in
theorem ggX4_set_X1_change : GoodIn wsX4_set wsX1_change := goodIn_r _ [70, 50, 52, 51, 71, 72, 73, 13, 74, 42, 75, 76, 77, 78, 79, 80, 81, 82, 48, 54, 83, 84, 85, 86, 15, 43, 30, 31, 32, 87, 6, 88, 89, 90, 91, 92, 93, 94, 95, 96, 97, 98, 99, 100, 101, 102, 103, 104, 105, 106, 107, 108, 109, 110, 56, 115, 116, 117, 118, 119, 120, 121, 122, 123, 124, 125] (by decide +kernel) (by decide +kernel)
set_option maxRecDepth 20000 in
theorem gX4_set_X1_change : GoodIn wsX4_set (wsV RX4 186 RX1 yX1_change wsX1_change) := goodIn_app (goodIn_of _ (by decide +kernel)) ggX4_set_X1_change
theorem dX4_set_0 : decode cX4_set 0 = .ok (.aload_n 0, 1) := by decide +kernel
theorem dX4_set_1 : decode cX4_set 1 = .ok (.iload_n 1, 1) := by decide +kernel
theorem dX4_set_2 : decode cX4_set 2 = .ok (.invokevirtual 83, 3) := by decide +kernel
theorem dX4_set_5 : decode cX4_set 5 = .ok (.aload_n 0, 1) := by decide +kernel
theorem dX4_set_6 : decode cX4_set 6 = .ok (.iload_n 2, 1) := by decide +kernel
theorem dX4_set_7 : decode cX4_set 7 = .ok (.invokevirtual 183, 3) := by decide +kernel
theorem dX4_set_10 : decode cX4_set 10 = .ok (.aload_n 0, 1) := by decide +kernel
theorem dX4_set_11 : decode cX4_set 11 = .ok (.getfield 19, 3) := by decide +kernel
theorem dX4_set_14 : decode cX4_set 14 = .ok (.aload_n 0, 1) := by decide +kernel
theorem dX4_set_15 : decode cX4_set 15 = .ok (.getfield 10, 3) := by decide +kernel
theorem dX4_set_18 : decode cX4_set 18 = .ok (.invokevirtual 68, 3) := by decide +kernel
theorem dX4_set_21 : decode cX4_set 21 = .ok (.aload_n 0, 1) := by decide +kernel
theorem dX4_set_22 : decode cX4_set 22 = .ok (.getfield 10, 3) := by decide +kernel
theorem dX4_set_25 : decode cX4_set 25 = .ok (.iload_n 1, 1) := by decide +kernel
theorem dX4_set_26 : decode cX4_set 26 = .ok (.iload_n 2, 1) := by decide +kernel
theorem dX4_set_27 : decode cX4_set 27 = .ok (.invokevirtual 186, 3) := by decide +kernel
theorem dX4_set_30 : decode cX4_set 30 = .ok (.ireturn, 1) := by decide +kernel
set_option maxRecDepth 20000 in
theorem ggX4_ask_X4_demandStretch : GoodIn wsX4_ask wsX4_demandStretch := goodIn_ca (goodIn_ca (goodIn_r _ [7, 8, 9, 10, 11, 12, 6, 13, 14, 15, 2, 16, 17, 18, 19, 20, 21, 123, 124, 125, 126, 127, 128, 129, 130, 131, 132, 133, 134, 135, 136, 137] (by decide +kernel) (by decide +kernel)) (goodIn_sub (fun _ h => List.mem_cons_of_mem _ (List.mem_append_left _ (List.mem_append_right _ h))) (by decide +kernel))) (goodIn_sub (fun _ h => List.mem_cons_of_mem _ (List.mem_append_right _ h)) (by decide +kernel))
set_option maxRecDepth 20000 in
theorem gX4_ask_X4_demandStretch : GoodIn wsX4_ask (wsV RX4 106 RX4 yX4_demandStretch wsX4_demandStretch) := goodIn_app (goodIn_of _ (by decide +kernel)) ggX4_ask_X4_demandStretch
set_option maxRecDepth 20000 in
theorem ggX4_ask_X0_save : GoodIn wsX4_ask wsX0_save := goodIn_r _ [26, 27, 28, 29, 30, 31, 32, 33, 34, 35, 25, 36, 37, 38, 39, 40, 19, 41, 42, 43, 44, 45, 46, 47, 48, 49, 21, 50, 51, 52, 53, 54, 55, 56, 57, 58, 59, 60, 61, 62, 63, 64, 65, 66, 138, 139, 140, 127, 128, 129, 130, 131, 132, 133, 134, 135, 136, 137, 141, 142, 143] (by decide +kernel) (by decide +kernel)
set_option maxRecDepth 20000 in
theorem gX4_ask_X0_save : GoodIn wsX4_ask (wsV RX4 68 RX0 yX0_save wsX0_save) := goodIn_app (goodIn_of _ (by decide +kernel)) ggX4_ask_X0_save
set_option maxRecDepth 20000 in
theorem ggX4_ask_X1_question : GoodIn wsX4_ask wsX1_question := goodIn_r _ [70, 55, 53, 52, 71, 72, 73, 19, 74, 50, 75, 76, 77, 78, 21, 56, 79, 80, 81, 82, 48, 54, 83, 84, 85, 86, 43, 30, 31, 32, 87, 6, 88, 89, 90, 91, 92, 93, 94, 95, 96, 97, 98, 99, 42, 100, 101, 102, 103, 104, 105, 106, 107, 108, 109, 110, 111, 112, 113, 114, 115, 116, 117, 118, 119, 120, 121, 122, 127, 128, 129, 130, 131, 132, 133, 134, 135, 136, 137] (by decide +kernel) (by decide +kernel)
set_option maxRecDepth 20000 in
theorem gX4_ask_X1_question : GoodIn wsX4_ask (wsV RX4 189 RX1 yX1_question wsX1_question) := goodIn_app (goodIn_of _ (by decide +kernel)) ggX4_ask_X1_question
theorem dX4_ask_0 : decode cX4_ask 0 = .ok (.aload_n 0, 1) := by decide +kernel
theorem dX4_ask_1 : decode cX4_ask 1 = .ok (.iload_n 1, 1) := by decide +kernel
theorem dX4_ask_2 : decode cX4_ask 2 = .ok (.iload_n 2, 1) := by decide +kernel
theorem dX4_ask_3 : decode cX4_ask 3 = .ok (.invokevirtual 106, 3) := by decide +kernel
theorem dX4_ask_6 : decode cX4_ask 6 = .ok (.aload_n 0, 1) := by decide +kernel
theorem dX4_ask_7 : decode cX4_ask 7 = .ok (.getfield 19, 3) := by decide +kernel
theorem dX4_ask_10 : decode cX4_ask 10 = .ok (.aload_n 0, 1) := by decide +kernel
theorem dX4_ask_11 : decode cX4_ask 11 = .ok (.getfield 10, 3) := by decide +kernel
theorem dX4_ask_14 : decode cX4_ask 14 = .ok (.invokevirtual 68, 3) := by decide +kernel
theorem dX4_ask_17 : decode cX4_ask 17 = .ok (.aload_n 0, 1) := by decide +kernel
theorem dX4_ask_18 : decode cX4_ask 18 = .ok (.getfield 10, 3) := by decide +kernel
theorem dX4_ask_21 : decode cX4_ask 21 = .ok (.iload_n 1, 1) := by decide +kernel
theorem dX4_ask_22 : decode cX4_ask 22 = .ok (.iload_n 2, 1) := by decide +kernel
theorem dX4_ask_23 : decode cX4_ask 23 = .ok (.invokevirtual 189, 3) := by decide +kernel
theorem dX4_ask_26 : decode cX4_ask 26 = .ok (.ireturn, 1) := by decide +kernel
set_option maxRecDepth 20000 in
theorem ggX4_keep_X4_demandStretch : GoodIn wsX4_keep wsX4_demandStretch := goodIn_ca (goodIn_ca (goodIn_r _ [11, 12, 13, 14, 15, 16, 10, 17, 18, 19, 3, 20, 21, 22, 23, 24, 25, 79, 80, 81, 82, 83, 84, 85, 86, 87, 88, 89, 90, 91, 92, 93] (by decide +kernel) (by decide +kernel)) (goodIn_sub (fun _ h => List.mem_cons_of_mem _ (List.mem_append_left _ (List.mem_append_right _ h))) (by decide +kernel))) (goodIn_sub (fun _ h => List.mem_cons_of_mem _ (List.mem_append_right _ h)) (by decide +kernel))
set_option maxRecDepth 20000 in
theorem gX4_keep_X4_demandStretch : GoodIn wsX4_keep (wsV RX4 106 RX4 yX4_demandStretch wsX4_demandStretch) := goodIn_app (goodIn_of _ (by decide +kernel)) ggX4_keep_X4_demandStretch
set_option maxRecDepth 20000 in
theorem ggX4_keep_X0_save : GoodIn wsX4_keep wsX0_save := goodIn_r _ [30, 31, 32, 33, 34, 35, 36, 37, 38, 39, 29, 40, 41, 42, 43, 44, 23, 45, 46, 47, 48, 49, 50, 51, 52, 53, 25, 54, 55, 56, 57, 58, 59, 60, 61, 62, 63, 64, 65, 66, 67, 68, 69, 70, 97, 98, 99, 83, 84, 85, 86, 87, 88, 89, 90, 91, 92, 93, 94, 95, 96] (by decide +kernel) (by decide +kernel)
set_option maxRecDepth 20000 in
theorem gX4_keep_X0_save : GoodIn wsX4_keep (wsV RX4 68 RX0 yX0_save wsX0_save) := goodIn_app (goodIn_of _ (by decide +kernel)) ggX4_keep_X0_save
set_option maxRecDepth 20000 in
theorem ggX4_keep_X3_add : GoodIn wsX4_keep wsX3_add := goodIn_r _ [74, 70, 75, 76, 77, 64, 78, 66, 69, 94, 95, 96] (by decide +kernel) (by decide +kernel)
set_option maxRecDepth 20000 in
theorem gX4_keep_X3_add : GoodIn wsX4_keep (wsV RX4 197 RX3 yX3_add wsX3_add) := goodIn_app (goodIn_of _ (by decide +kernel)) ggX4_keep_X3_add
theorem dX4_keep_0 : decode cX4_keep 0 = .ok (.aload_n 0, 1) := by decide +kernel
theorem dX4_keep_1 : decode cX4_keep 1 = .ok (.iload_n 1, 1) := by decide +kernel
theorem dX4_keep_2 : decode cX4_keep 2 = .ok (.iload_n 2, 1) := by decide +kernel
theorem dX4_keep_3 : decode cX4_keep 3 = .ok (.invokevirtual 106, 3) := by decide +kernel
theorem dX4_keep_6 : decode cX4_keep 6 = .ok (.aload_n 0, 1) := by decide +kernel
theorem dX4_keep_7 : decode cX4_keep 7 = .ok (.getfield 10, 3) := by decide +kernel
theorem dX4_keep_10 : decode cX4_keep 10 = .ok (.getfield 144, 3) := by decide +kernel
theorem dX4_keep_13 : decode cX4_keep 13 = .ok (.getfield 148, 3) := by decide +kernel
theorem dX4_keep_16 : decode cX4_keep 16 = .ok (.bipush 8, 2) := by decide +kernel
theorem dX4_keep_18 : decode cX4_keep 18 = .ok (.if_icmp .lt 13, 3) := by decide +kernel
theorem dX4_keep_21 : decode cX4_keep 21 = .ok (.new 192, 3) := by decide +kernel
theorem dX4_keep_24 : decode cX4_keep 24 = .ok (.dup, 1) := by decide +kernel
theorem dX4_keep_25 : decode cX4_keep 25 = .ok (.ldc 194, 2) := by decide +kernel
theorem dX4_keep_27 : decode cX4_keep 27 = .ok (.invokespecial 196, 3) := by decide +kernel
theorem dX4_keep_30 : decode cX4_keep 30 = .ok (.athrow, 1) := by decide +kernel
theorem dX4_keep_31 : decode cX4_keep 31 = .ok (.aload_n 0, 1) := by decide +kernel
theorem dX4_keep_32 : decode cX4_keep 32 = .ok (.getfield 19, 3) := by decide +kernel
theorem dX4_keep_35 : decode cX4_keep 35 = .ok (.aload_n 0, 1) := by decide +kernel
theorem dX4_keep_36 : decode cX4_keep 36 = .ok (.getfield 10, 3) := by decide +kernel
theorem dX4_keep_39 : decode cX4_keep 39 = .ok (.invokevirtual 68, 3) := by decide +kernel
theorem dX4_keep_42 : decode cX4_keep 42 = .ok (.aload_n 0, 1) := by decide +kernel
theorem dX4_keep_43 : decode cX4_keep 43 = .ok (.getfield 10, 3) := by decide +kernel
theorem dX4_keep_46 : decode cX4_keep 46 = .ok (.getfield 144, 3) := by decide +kernel
theorem dX4_keep_49 : decode cX4_keep 49 = .ok (.iload_n 1, 1) := by decide +kernel
theorem dX4_keep_50 : decode cX4_keep 50 = .ok (.iload_n 2, 1) := by decide +kernel
theorem dX4_keep_51 : decode cX4_keep 51 = .ok (.invokevirtual 197, 3) := by decide +kernel
theorem dX4_keep_54 : decode cX4_keep 54 = .ok (.aload_n 0, 1) := by decide +kernel
theorem dX4_keep_55 : decode cX4_keep 55 = .ok (.getfield 10, 3) := by decide +kernel
theorem dX4_keep_58 : decode cX4_keep 58 = .ok (.getfield 144, 3) := by decide +kernel
theorem dX4_keep_61 : decode cX4_keep 61 = .ok (.getfield 148, 3) := by decide +kernel
theorem dX4_keep_64 : decode cX4_keep 64 = .ok (.ireturn, 1) := by decide +kernel
set_option maxRecDepth 20000 in
theorem ggX4_sweep_X0_save : GoodIn wsX4_sweep wsX0_save := goodIn_r _ [9, 10, 11, 12, 13, 14, 15, 16, 17, 18, 8, 19, 20, 21, 22, 23, 24, 25, 26, 27, 28, 29, 30, 31, 32, 33, 34, 35, 36, 37, 38, 39, 40, 41, 42, 43, 44, 45, 46, 47, 48, 49, 50, 51, 140, 141, 142, 143, 144, 145, 146, 147, 148, 149, 150, 151, 152, 153, 154, 155, 156] (by decide +kernel) (by decide +kernel)
set_option maxRecDepth 20000 in
theorem gX4_sweep_X0_save : GoodIn wsX4_sweep (wsV RX4 68 RX0 yX0_save wsX0_save) := goodIn_app (goodIn_of _ (by decide +kernel)) ggX4_sweep_X0_save
set_option maxRecDepth 20000 in
theorem ggX4_sweep_X1_askAndDropBelow : GoodIn wsX4_sweep wsX1_askAndDropBelow := goodIn_r _ [55, 33, 56, 57, 58, 59, 45, 60, 47, 61, 62, 63, 64, 50, 65, 66, 67, 24, 68, 40, 38, 37, 69, 70, 71, 72, 35, 73, 74, 75, 76, 34, 41, 77, 78, 79, 80, 32, 39, 81, 82, 83, 84, 27, 13, 14, 15, 85, 86, 87, 88, 89, 90, 91, 92, 93, 94, 95, 96, 97, 98, 26, 99, 100, 101, 102, 103, 104, 105, 106, 107, 108, 109, 110, 111, 112, 113, 114, 115, 116, 117, 118, 119, 120, 121, 122, 123, 124, 125, 126, 127, 128, 129, 51, 130, 131, 132, 133, 134, 135, 143, 144, 145, 146, 147, 148, 149, 150, 151, 152, 153, 154, 155, 156] (by decide +kernel) (by decide +kernel)
set_option maxRecDepth 20000 in
theorem gX4_sweep_X1_askAndDropBelow : GoodIn wsX4_sweep (wsV RX4 205 RX1 yX1_askAndDropBelow wsX1_askAndDropBelow) := goodIn_app (goodIn_of _ (by decide +kernel)) ggX4_sweep_X1_askAndDropBelow
theorem dX4_sweep_0 : decode cX4_sweep 0 = .ok (.iload_n 1, 1) := by decide +kernel
theorem dX4_sweep_1 : decode cX4_sweep 1 = .ok (.sipush (-999), 3) := by decide +kernel
theorem dX4_sweep_4 : decode cX4_sweep 4 = .ok (.if_icmp .lt 10, 3) := by decide +kernel
theorem dX4_sweep_7 : decode cX4_sweep 7 = .ok (.iload_n 1, 1) := by decide +kernel
theorem dX4_sweep_8 : decode cX4_sweep 8 = .ok (.sipush 1000, 3) := by decide +kernel
theorem dX4_sweep_11 : decode cX4_sweep 11 = .ok (.if_icmp .le 13, 3) := by decide +kernel
theorem dX4_sweep_14 : decode cX4_sweep 14 = .ok (.new 51, 3) := by decide +kernel
theorem dX4_sweep_17 : decode cX4_sweep 17 = .ok (.dup, 1) := by decide +kernel
theorem dX4_sweep_18 : decode cX4_sweep 18 = .ok (.ldc 203, 2) := by decide +kernel
theorem dX4_sweep_20 : decode cX4_sweep 20 = .ok (.invokespecial 55, 3) := by decide +kernel
theorem dX4_sweep_23 : decode cX4_sweep 23 = .ok (.athrow, 1) := by decide +kernel
theorem dX4_sweep_24 : decode cX4_sweep 24 = .ok (.aload_n 0, 1) := by decide +kernel
theorem dX4_sweep_25 : decode cX4_sweep 25 = .ok (.getfield 19, 3) := by decide +kernel
theorem dX4_sweep_28 : decode cX4_sweep 28 = .ok (.aload_n 0, 1) := by decide +kernel
theorem dX4_sweep_29 : decode cX4_sweep 29 = .ok (.getfield 10, 3) := by decide +kernel
theorem dX4_sweep_32 : decode cX4_sweep 32 = .ok (.invokevirtual 68, 3) := by decide +kernel
theorem dX4_sweep_35 : decode cX4_sweep 35 = .ok (.aload_n 0, 1) := by decide +kernel
theorem dX4_sweep_36 : decode cX4_sweep 36 = .ok (.getfield 10, 3) := by decide +kernel
theorem dX4_sweep_39 : decode cX4_sweep 39 = .ok (.iload_n 1, 1) := by decide +kernel
theorem dX4_sweep_40 : decode cX4_sweep 40 = .ok (.invokevirtual 205, 3) := by decide +kernel
theorem dX4_sweep_43 : decode cX4_sweep 43 = .ok (.ireturn, 1) := by decide +kernel
set_option maxRecDepth 20000 in
theorem ggX4_put_X4_demandPlace : GoodIn wsX4_put wsX4_demandPlace := goodIn_ca (goodIn_r _ [10, 11, 12, 3, 13, 14, 15, 16, 17, 18, 123, 124, 125, 126, 127, 128, 129, 130, 131, 132, 133, 134, 135, 136, 137] (by decide +kernel) (by decide +kernel)) (goodIn_sub (fun _ h => List.mem_cons_of_mem _ (List.mem_append_left _ (List.mem_append_right _ h))) (by decide +kernel))
set_option maxRecDepth 20000 in
theorem gX4_put_X4_demandPlace : GoodIn wsX4_put (wsV RX4 83 RX4 yX4_demandPlace wsX4_demandPlace) := goodIn_app (goodIn_of _ (by decide +kernel)) ggX4_put_X4_demandPlace
set_option maxRecDepth 20000 in
theorem ggX4_put_X4_demandValue : GoodIn wsX4_put wsX4_demandValue := goodIn_ca (goodIn_r _ [22, 23, 24] (by decide +kernel) (by decide +kernel)) (goodIn_sub (fun _ h => List.mem_cons_of_mem _ (List.mem_append_right _ h)) (by decide +kernel))
set_option maxRecDepth 20000 in
theorem gX4_put_X4_demandValue : GoodIn wsX4_put (wsV RX4 183 RX4 yX4_demandValue wsX4_demandValue) := goodIn_app (goodIn_of _ (by decide +kernel)) ggX4_put_X4_demandValue
set_option maxRecDepth 20000 in
theorem ggX4_put_X0_save : GoodIn wsX4_put wsX0_save := goodIn_r _ [29, 30, 31, 32, 33, 34, 35, 36, 37, 38, 28, 39, 40, 41, 42, 43, 16, 44, 45, 46, 47, 48, 49, 50, 51, 52, 18, 53, 54, 55, 56, 57, 58, 59, 60, 61, 62, 63, 64, 65, 66, 67, 68, 69, 138, 139, 140, 127, 128, 129, 130, 131, 132, 133, 134, 135, 136, 137, 141, 142, 143] (by decide +kernel) (by decide +kernel)
set_option maxRecDepth 20000 in
theorem gX4_put_X0_save : GoodIn wsX4_put (wsV RX4 68 RX0 yX0_save wsX0_save) := goodIn_app (goodIn_of _ (by decide +kernel)) ggX4_put_X0_save
set_option maxRecDepth 20000 in
theorem ggX4_put_X1_insert : GoodIn wsX4_put wsX1_insert := goodIn_r _ [73, 18, 52, 74, 75, 76, 16, 77, 45, 78, 79, 80, 81, 82, 83, 84, 63, 85, 69, 86, 87, 88, 89, 65, 90, 91, 92, 93, 68, 94, 95, 96, 97, 98, 99, 100, 101, 55, 59, 102, 103, 104, 105, 51, 57, 106, 107, 108, 109, 46, 33, 34, 35, 110, 9, 111, 112, 113, 114, 115, 116, 117, 118, 119, 120, 121, 122, 127, 128, 129, 130, 131, 132, 133, 134, 135, 136, 137, 141, 142, 143] (by decide +kernel) (by decide +kernel)
set_option maxRecDepth 20000 in
theorem gX4_put_X1_insert : GoodIn wsX4_put (wsV RX4 210 RX1 yX1_insert wsX1_insert) := goodIn_app (goodIn_of _ (by decide +kernel)) ggX4_put_X1_insert
theorem dX4_put_0 : decode cX4_put 0 = .ok (.iload_n 1, 1) := by decide +kernel
theorem dX4_put_1 : decode cX4_put 1 = .ok (.aload_n 0, 1) := by decide +kernel
theorem dX4_put_2 : decode cX4_put 2 = .ok (.getfield 10, 3) := by decide +kernel
theorem dX4_put_5 : decode cX4_put 5 = .ok (.getfield 131, 3) := by decide +kernel
theorem dX4_put_8 : decode cX4_put 8 = .ok (.if_icmp .eq 8, 3) := by decide +kernel
theorem dX4_put_11 : decode cX4_put 11 = .ok (.aload_n 0, 1) := by decide +kernel
theorem dX4_put_12 : decode cX4_put 12 = .ok (.iload_n 1, 1) := by decide +kernel
theorem dX4_put_13 : decode cX4_put 13 = .ok (.invokevirtual 83, 3) := by decide +kernel
theorem dX4_put_16 : decode cX4_put 16 = .ok (.aload_n 0, 1) := by decide +kernel
theorem dX4_put_17 : decode cX4_put 17 = .ok (.iload_n 2, 1) := by decide +kernel
theorem dX4_put_18 : decode cX4_put 18 = .ok (.invokevirtual 183, 3) := by decide +kernel
theorem dX4_put_21 : decode cX4_put 21 = .ok (.aload_n 0, 1) := by decide +kernel
theorem dX4_put_22 : decode cX4_put 22 = .ok (.getfield 10, 3) := by decide +kernel
theorem dX4_put_25 : decode cX4_put 25 = .ok (.getfield 131, 3) := by decide +kernel
theorem dX4_put_28 : decode cX4_put 28 = .ok (.bipush 40, 2) := by decide +kernel
theorem dX4_put_30 : decode cX4_put 30 = .ok (.if_icmp .lt 13, 3) := by decide +kernel
theorem dX4_put_33 : decode cX4_put 33 = .ok (.new 192, 3) := by decide +kernel
theorem dX4_put_36 : decode cX4_put 36 = .ok (.dup, 1) := by decide +kernel
theorem dX4_put_37 : decode cX4_put 37 = .ok (.ldc 208, 2) := by decide +kernel
theorem dX4_put_39 : decode cX4_put 39 = .ok (.invokespecial 196, 3) := by decide +kernel
theorem dX4_put_42 : decode cX4_put 42 = .ok (.athrow, 1) := by decide +kernel
theorem dX4_put_43 : decode cX4_put 43 = .ok (.aload_n 0, 1) := by decide +kernel
theorem dX4_put_44 : decode cX4_put 44 = .ok (.getfield 19, 3) := by decide +kernel
theorem dX4_put_47 : decode cX4_put 47 = .ok (.aload_n 0, 1) := by decide +kernel
theorem dX4_put_48 : decode cX4_put 48 = .ok (.getfield 10, 3) := by decide +kernel
theorem dX4_put_51 : decode cX4_put 51 = .ok (.invokevirtual 68, 3) := by decide +kernel
theorem dX4_put_54 : decode cX4_put 54 = .ok (.aload_n 0, 1) := by decide +kernel
theorem dX4_put_55 : decode cX4_put 55 = .ok (.getfield 10, 3) := by decide +kernel
theorem dX4_put_58 : decode cX4_put 58 = .ok (.iload_n 1, 1) := by decide +kernel
theorem dX4_put_59 : decode cX4_put 59 = .ok (.iload_n 2, 1) := by decide +kernel
theorem dX4_put_60 : decode cX4_put 60 = .ok (.invokevirtual 210, 3) := by decide +kernel
theorem dX4_put_63 : decode cX4_put 63 = .ok (.aload_n 0, 1) := by decide +kernel
theorem dX4_put_64 : decode cX4_put 64 = .ok (.getfield 10, 3) := by decide +kernel
theorem dX4_put_67 : decode cX4_put 67 = .ok (.getfield 131, 3) := by decide +kernel
theorem dX4_put_70 : decode cX4_put 70 = .ok (.ireturn, 1) := by decide +kernel
set_option maxRecDepth 20000 in
theorem ggX4_take_X4_demandPlace : GoodIn wsX4_take wsX4_demandPlace := goodIn_ca (goodIn_r _ [10, 11, 12, 3, 13, 14, 15, 16, 17, 18, 121, 122, 123, 124, 125, 126, 127, 128, 129, 130, 131, 132, 133, 134, 135] (by decide +kernel) (by decide +kernel)) (goodIn_sub (fun _ h => List.mem_cons_of_mem _ (List.mem_append_right _ h)) (by decide +kernel))
set_option maxRecDepth 20000 in
theorem gX4_take_X4_demandPlace : GoodIn wsX4_take (wsV RX4 83 RX4 yX4_demandPlace wsX4_demandPlace) := goodIn_app (goodIn_of _ (by decide +kernel)) ggX4_take_X4_demandPlace
set_option maxRecDepth 20000 in
theorem ggX4_take_X0_save : GoodIn wsX4_take wsX0_save := goodIn_r _ [23, 24, 25, 26, 27, 28, 29, 30, 31, 32, 22, 33, 34, 35, 36, 37, 16, 38, 39, 40, 41, 42, 43, 44, 45, 46, 18, 47, 48, 49, 50, 51, 52, 53, 54, 55, 56, 57, 58, 59, 60, 61, 62, 63, 136, 137, 138, 125, 126, 127, 128, 129, 130, 131, 132, 133, 134, 135, 139, 140, 141] (by decide +kernel) (by decide +kernel)
set_option maxRecDepth 20000 in
theorem gX4_take_X0_save : GoodIn wsX4_take (wsV RX4 68 RX0 yX0_save wsX0_save) := goodIn_app (goodIn_of _ (by decide +kernel)) ggX4_take_X0_save
set_option maxRecDepth 20000 in
theorem ggX4_take_X1_remove : GoodIn wsX4_take wsX1_remove := goodIn_r _ [67, 18, 46, 68, 69, 70, 16, 71, 39, 72, 73, 74, 75, 76, 77, 78, 57, 79, 63, 80, 81, 82, 83, 59, 84, 85, 86, 87, 62, 88, 89, 90, 91, 92, 93, 94, 95, 96, 97, 98, 99, 49, 53, 100, 101, 102, 103, 45, 51, 104, 105, 106, 107, 40, 27, 28, 29, 108, 9, 109, 110, 111, 112, 113, 114, 115, 116, 117, 118, 119, 120, 125, 126, 127, 128, 129, 130, 131, 132, 133, 134, 135, 139, 140, 141] (by decide +kernel) (by decide +kernel)
set_option maxRecDepth 20000 in
theorem gX4_take_X1_remove : GoodIn wsX4_take (wsV RX4 215 RX1 yX1_remove wsX1_remove) := goodIn_app (goodIn_of _ (by decide +kernel)) ggX4_take_X1_remove
theorem dX4_take_0 : decode cX4_take 0 = .ok (.aload_n 0, 1) := by decide +kernel
theorem dX4_take_1 : decode cX4_take 1 = .ok (.iload_n 1, 1) := by decide +kernel
theorem dX4_take_2 : decode cX4_take 2 = .ok (.invokevirtual 83, 3) := by decide +kernel
theorem dX4_take_5 : decode cX4_take 5 = .ok (.aload_n 0, 1) := by decide +kernel
theorem dX4_take_6 : decode cX4_take 6 = .ok (.getfield 10, 3) := by decide +kernel
theorem dX4_take_9 : decode cX4_take 9 = .ok (.getfield 131, 3) := by decide +kernel
theorem dX4_take_12 : decode cX4_take 12 = .ok (.iconst 1, 1) := by decide +kernel
theorem dX4_take_13 : decode cX4_take 13 = .ok (.if_icmp .ne 13, 3) := by decide +kernel
theorem dX4_take_16 : decode cX4_take 16 = .ok (.new 192, 3) := by decide +kernel
theorem dX4_take_19 : decode cX4_take 19 = .ok (.dup, 1) := by decide +kernel
theorem dX4_take_20 : decode cX4_take 20 = .ok (.ldc 213, 2) := by decide +kernel
theorem dX4_take_22 : decode cX4_take 22 = .ok (.invokespecial 196, 3) := by decide +kernel
theorem dX4_take_25 : decode cX4_take 25 = .ok (.athrow, 1) := by decide +kernel
theorem dX4_take_26 : decode cX4_take 26 = .ok (.aload_n 0, 1) := by decide +kernel
theorem dX4_take_27 : decode cX4_take 27 = .ok (.getfield 19, 3) := by decide +kernel
theorem dX4_take_30 : decode cX4_take 30 = .ok (.aload_n 0, 1) := by decide +kernel
theorem dX4_take_31 : decode cX4_take 31 = .ok (.getfield 10, 3) := by decide +kernel
theorem dX4_take_34 : decode cX4_take 34 = .ok (.invokevirtual 68, 3) := by decide +kernel
theorem dX4_take_37 : decode cX4_take 37 = .ok (.aload_n 0, 1) := by decide +kernel
theorem dX4_take_38 : decode cX4_take 38 = .ok (.getfield 10, 3) := by decide +kernel
theorem dX4_take_41 : decode cX4_take 41 = .ok (.iload_n 1, 1) := by decide +kernel
theorem dX4_take_42 : decode cX4_take 42 = .ok (.invokevirtual 215, 3) := by decide +kernel
theorem dX4_take_45 : decode cX4_take 45 = .ok (.ireturn, 1) := by decide +kernel
set_option maxRecDepth 20000 in
theorem ggX4_rule_X0_save : GoodIn wsX4_rule wsX0_save := goodIn_r _ [9, 10, 11, 12, 13, 14, 15, 16, 17, 18, 8, 19, 20, 21, 22, 23, 24, 25, 26, 27, 28, 29, 30, 31, 32, 33, 34, 35, 36, 37, 38, 39, 40, 41, 42, 43, 44, 45, 46, 47, 48, 49, 50, 51, 90, 91, 92, 93, 94, 95, 96, 97, 98, 99, 100, 101, 102, 103, 104, 105, 106] (by decide +kernel) (by decide +kernel)
set_option maxRecDepth 20000 in
theorem gX4_rule_X0_save : GoodIn wsX4_rule (wsV RX4 68 RX0 yX0_save wsX0_save) := goodIn_app (goodIn_of _ (by decide +kernel)) ggX4_rule_X0_save
set_option maxRecDepth 20000 in
theorem ggX4_rule_X1_changeRule : GoodIn wsX4_rule wsX1_changeRule := goodIn_r _ [55, 35, 56, 57, 58, 24, 59, 34, 37, 41, 60, 61, 62, 63, 32, 39, 64, 65, 66, 67, 27, 13, 14, 15, 68, 69, 70, 71, 72, 73, 74, 75, 76, 77, 78, 79, 80, 81, 26, 93, 94, 95, 96, 97, 98, 99, 100, 101, 102, 103] (by decide +kernel) (by decide +kernel)
set_option maxRecDepth 20000 in
theorem gX4_rule_X1_changeRule : GoodIn wsX4_rule (wsV RX4 220 RX1 yX1_changeRule wsX1_changeRule) := goodIn_app (goodIn_of _ (by decide +kernel)) ggX4_rule_X1_changeRule
set_option maxRecDepth 20000 in
theorem ggX4_rule_X1_changeMost : GoodIn wsX4_rule wsX1_changeMost := goodIn_r _ [85, 36, 93, 94, 95, 96, 97, 98, 99, 100, 101, 102, 103] (by decide +kernel) (by decide +kernel)
set_option maxRecDepth 20000 in
theorem gX4_rule_X1_changeMost : GoodIn wsX4_rule (wsV RX4 223 RX1 yX1_changeMost wsX1_changeMost) := goodIn_app (goodIn_of _ (by decide +kernel)) ggX4_rule_X1_changeMost
theorem dX4_rule_0 : decode cX4_rule 0 = .ok (.iload_n 1, 1) := by decide +kernel
theorem dX4_rule_1 : decode cX4_rule 1 = .ok (.iconst 1, 1) := by decide +kernel
theorem dX4_rule_2 : decode cX4_rule 2 = .ok (.if_icmp .ne 16, 3) := by decide +kernel
theorem dX4_rule_5 : decode cX4_rule 5 = .ok (.iload_n 2, 1) := by decide +kernel
theorem dX4_rule_6 : decode cX4_rule 6 = .ok (.ifCond .lt 12, 3) := by decide +kernel
theorem dX4_rule_9 : decode cX4_rule 9 = .ok (.iload_n 2, 1) := by decide +kernel
theorem dX4_rule_10 : decode cX4_rule 10 = .ok (.iconst 2, 1) := by decide +kernel
theorem dX4_rule_11 : decode cX4_rule 11 = .ok (.if_icmp .gt 7, 3) := by decide +kernel
theorem dX4_rule_14 : decode cX4_rule 14 = .ok (.iconst 1, 1) := by decide +kernel
theorem dX4_rule_15 : decode cX4_rule 15 = .ok (.goto 4, 3) := by decide +kernel
theorem dX4_rule_18 : decode cX4_rule 18 = .ok (.iconst 0, 1) := by decide +kernel
theorem dX4_rule_19 : decode cX4_rule 19 = .ok (.istore_n 3, 1) := by decide +kernel
theorem dX4_rule_20 : decode cX4_rule 20 = .ok (.iload_n 1, 1) := by decide +kernel
theorem dX4_rule_21 : decode cX4_rule 21 = .ok (.iconst 2, 1) := by decide +kernel
theorem dX4_rule_22 : decode cX4_rule 22 = .ok (.if_icmp .ne 18, 3) := by decide +kernel
theorem dX4_rule_25 : decode cX4_rule 25 = .ok (.iload_n 2, 1) := by decide +kernel
theorem dX4_rule_26 : decode cX4_rule 26 = .ok (.iconst 1, 1) := by decide +kernel
theorem dX4_rule_27 : decode cX4_rule 27 = .ok (.if_icmp .lt 13, 3) := by decide +kernel
theorem dX4_rule_30 : decode cX4_rule 30 = .ok (.iload_n 2, 1) := by decide +kernel
theorem dX4_rule_31 : decode cX4_rule 31 = .ok (.bipush 8, 2) := by decide +kernel
theorem dX4_rule_33 : decode cX4_rule 33 = .ok (.if_icmp .gt 7, 3) := by decide +kernel
theorem dX4_rule_36 : decode cX4_rule 36 = .ok (.iconst 1, 1) := by decide +kernel
theorem dX4_rule_37 : decode cX4_rule 37 = .ok (.goto 4, 3) := by decide +kernel
theorem dX4_rule_40 : decode cX4_rule 40 = .ok (.iconst 0, 1) := by decide +kernel
theorem dX4_rule_41 : decode cX4_rule 41 = .ok (.istore 4, 2) := by decide +kernel
theorem dX4_rule_43 : decode cX4_rule 43 = .ok (.iload_n 3, 1) := by decide +kernel
theorem dX4_rule_44 : decode cX4_rule 44 = .ok (.ifCond .ne 18, 3) := by decide +kernel
theorem dX4_rule_47 : decode cX4_rule 47 = .ok (.iload 4, 2) := by decide +kernel
theorem dX4_rule_49 : decode cX4_rule 49 = .ok (.ifCond .ne 13, 3) := by decide +kernel
theorem dX4_rule_52 : decode cX4_rule 52 = .ok (.new 51, 3) := by decide +kernel
theorem dX4_rule_55 : decode cX4_rule 55 = .ok (.dup, 1) := by decide +kernel
theorem dX4_rule_56 : decode cX4_rule 56 = .ok (.ldc 218, 2) := by decide +kernel
theorem dX4_rule_58 : decode cX4_rule 58 = .ok (.invokespecial 55, 3) := by decide +kernel
theorem dX4_rule_61 : decode cX4_rule 61 = .ok (.athrow, 1) := by decide +kernel
theorem dX4_rule_62 : decode cX4_rule 62 = .ok (.aload_n 0, 1) := by decide +kernel
theorem dX4_rule_63 : decode cX4_rule 63 = .ok (.getfield 19, 3) := by decide +kernel
theorem dX4_rule_66 : decode cX4_rule 66 = .ok (.aload_n 0, 1) := by decide +kernel
theorem dX4_rule_67 : decode cX4_rule 67 = .ok (.getfield 10, 3) := by decide +kernel
theorem dX4_rule_70 : decode cX4_rule 70 = .ok (.invokevirtual 68, 3) := by decide +kernel
theorem dX4_rule_73 : decode cX4_rule 73 = .ok (.iload_n 3, 1) := by decide +kernel
theorem dX4_rule_74 : decode cX4_rule 74 = .ok (.ifCond .eq 14, 3) := by decide +kernel
theorem dX4_rule_77 : decode cX4_rule 77 = .ok (.aload_n 0, 1) := by decide +kernel
theorem dX4_rule_78 : decode cX4_rule 78 = .ok (.getfield 10, 3) := by decide +kernel
theorem dX4_rule_81 : decode cX4_rule 81 = .ok (.iload_n 2, 1) := by decide +kernel
theorem dX4_rule_82 : decode cX4_rule 82 = .ok (.invokevirtual 220, 3) := by decide +kernel
theorem dX4_rule_85 : decode cX4_rule 85 = .ok (.goto 11, 3) := by decide +kernel
theorem dX4_rule_88 : decode cX4_rule 88 = .ok (.aload_n 0, 1) := by decide +kernel
theorem dX4_rule_89 : decode cX4_rule 89 = .ok (.getfield 10, 3) := by decide +kernel
theorem dX4_rule_92 : decode cX4_rule 92 = .ok (.iload_n 2, 1) := by decide +kernel
theorem dX4_rule_93 : decode cX4_rule 93 = .ok (.invokevirtual 223, 3) := by decide +kernel
theorem dX4_rule_96 : decode cX4_rule 96 = .ok (.ireturn, 1) := by decide +kernel
set_option maxRecDepth 20000 in
theorem ggX4_demandPlace_X1_isPlace : GoodIn wsX4_demandPlace wsX1_isPlace := goodIn_r _ [8, 9, 14, 15, 16, 17, 18, 19, 20, 21, 22, 23, 24] (by decide +kernel) (by decide +kernel)
set_option maxRecDepth 20000 in
theorem gX4_demandPlace_X1_isPlace : GoodIn wsX4_demandPlace (wsV RX4 151 RX1 yX1_isPlace wsX1_isPlace) := goodIn_app (goodIn_of _ (by decide +kernel)) ggX4_demandPlace_X1_isPlace
theorem dX4_demandPlace_0 : decode cX4_demandPlace 0 = .ok (.aload_n 0, 1) := by decide +kernel
theorem dX4_demandPlace_1 : decode cX4_demandPlace 1 = .ok (.getfield 10, 3) := by decide +kernel
theorem dX4_demandPlace_4 : decode cX4_demandPlace 4 = .ok (.iload_n 1, 1) := by decide +kernel
theorem dX4_demandPlace_5 : decode cX4_demandPlace 5 = .ok (.invokevirtual 151, 3) := by decide +kernel
theorem dX4_demandPlace_8 : decode cX4_demandPlace 8 = .ok (.ifCond .ne 13, 3) := by decide +kernel
theorem dX4_demandPlace_11 : decode cX4_demandPlace 11 = .ok (.new 233, 3) := by decide +kernel
theorem dX4_demandPlace_14 : decode cX4_demandPlace 14 = .ok (.dup, 1) := by decide +kernel
theorem dX4_demandPlace_15 : decode cX4_demandPlace 15 = .ok (.ldc 235, 2) := by decide +kernel
theorem dX4_demandPlace_17 : decode cX4_demandPlace 17 = .ok (.invokespecial 237, 3) := by decide +kernel
theorem dX4_demandPlace_20 : decode cX4_demandPlace 20 = .ok (.athrow, 1) := by decide +kernel
theorem dX4_demandPlace_21 : decode cX4_demandPlace 21 = .ok (.return_, 1) := by decide +kernel
set_option maxRecDepth 20000 in
theorem ggX4_demandStretch_X4_demandPlace : GoodIn wsX4_demandStretch wsX4_demandPlace := goodIn_ca (goodIn_r _ [7, 8, 9, 10, 11, 12, 13, 14, 15, 16, 17, 18, 19, 20, 21, 22, 23, 24, 25, 26, 27, 28, 29, 30, 31] (by decide +kernel) (by decide +kernel)) (goodIn_sub (fun _ h => List.mem_cons_of_mem _ (List.mem_append_right _ h)) (by decide +kernel))
set_option maxRecDepth 20000 in
theorem gX4_demandStretch_X4_demandPlace : GoodIn wsX4_demandStretch (wsV RX4 83 RX4 yX4_demandPlace wsX4_demandPlace) := goodIn_app (goodIn_of _ (by decide +kernel)) ggX4_demandStretch_X4_demandPlace
theorem dX4_demandStretch_0 : decode cX4_demandStretch 0 = .ok (.aload_n 0, 1) := by decide +kernel
theorem dX4_demandStretch_1 : decode cX4_demandStretch 1 = .ok (.iload_n 1, 1) := by decide +kernel
theorem dX4_demandStretch_2 : decode cX4_demandStretch 2 = .ok (.invokevirtual 83, 3) := by decide +kernel
theorem dX4_demandStretch_5 : decode cX4_demandStretch 5 = .ok (.aload_n 0, 1) := by decide +kernel
theorem dX4_demandStretch_6 : decode cX4_demandStretch 6 = .ok (.iload_n 2, 1) := by decide +kernel
theorem dX4_demandStretch_7 : decode cX4_demandStretch 7 = .ok (.invokevirtual 83, 3) := by decide +kernel
theorem dX4_demandStretch_10 : decode cX4_demandStretch 10 = .ok (.iload_n 1, 1) := by decide +kernel
theorem dX4_demandStretch_11 : decode cX4_demandStretch 11 = .ok (.iload_n 2, 1) := by decide +kernel
theorem dX4_demandStretch_12 : decode cX4_demandStretch 12 = .ok (.if_icmp .le 13, 3) := by decide +kernel
theorem dX4_demandStretch_15 : decode cX4_demandStretch 15 = .ok (.new 51, 3) := by decide +kernel
theorem dX4_demandStretch_18 : decode cX4_demandStretch 18 = .ok (.dup, 1) := by decide +kernel
theorem dX4_demandStretch_19 : decode cX4_demandStretch 19 = .ok (.ldc 238, 2) := by decide +kernel
theorem dX4_demandStretch_21 : decode cX4_demandStretch 21 = .ok (.invokespecial 55, 3) := by decide +kernel
theorem dX4_demandStretch_24 : decode cX4_demandStretch 24 = .ok (.athrow, 1) := by decide +kernel
theorem dX4_demandStretch_25 : decode cX4_demandStretch 25 = .ok (.return_, 1) := by decide +kernel
theorem dX4_demandValue_0 : decode cX4_demandValue 0 = .ok (.iload_n 1, 1) := by decide +kernel
theorem dX4_demandValue_1 : decode cX4_demandValue 1 = .ok (.sipush (-999), 3) := by decide +kernel
theorem dX4_demandValue_4 : decode cX4_demandValue 4 = .ok (.if_icmp .lt 10, 3) := by decide +kernel
theorem dX4_demandValue_7 : decode cX4_demandValue 7 = .ok (.iload_n 1, 1) := by decide +kernel
theorem dX4_demandValue_8 : decode cX4_demandValue 8 = .ok (.sipush 999, 3) := by decide +kernel
theorem dX4_demandValue_11 : decode cX4_demandValue 11 = .ok (.if_icmp .le 13, 3) := by decide +kernel
theorem dX4_demandValue_14 : decode cX4_demandValue 14 = .ok (.new 51, 3) := by decide +kernel
theorem dX4_demandValue_17 : decode cX4_demandValue 17 = .ok (.dup, 1) := by decide +kernel
theorem dX4_demandValue_18 : decode cX4_demandValue 18 = .ok (.ldc 240, 2) := by decide +kernel
theorem dX4_demandValue_20 : decode cX4_demandValue 20 = .ok (.invokespecial 55, 3) := by decide +kernel
theorem dX4_demandValue_23 : decode cX4_demandValue 23 = .ok (.athrow, 1) := by decide +kernel
theorem dX4_demandValue_24 : decode cX4_demandValue 24 = .ok (.return_, 1) := by decide +kernel
theorem dX4_demandKept_0 : decode cX4_demandKept 0 = .ok (.iload_n 1, 1) := by decide +kernel
theorem dX4_demandKept_1 : decode cX4_demandKept 1 = .ok (.ifCond .lt 17, 3) := by decide +kernel
theorem dX4_demandKept_4 : decode cX4_demandKept 4 = .ok (.iload_n 1, 1) := by decide +kernel
theorem dX4_demandKept_5 : decode cX4_demandKept 5 = .ok (.aload_n 0, 1) := by decide +kernel
theorem dX4_demandKept_6 : decode cX4_demandKept 6 = .ok (.getfield 10, 3) := by decide +kernel
theorem dX4_demandKept_9 : decode cX4_demandKept 9 = .ok (.getfield 144, 3) := by decide +kernel
theorem dX4_demandKept_12 : decode cX4_demandKept 12 = .ok (.getfield 148, 3) := by decide +kernel
theorem dX4_demandKept_15 : decode cX4_demandKept 15 = .ok (.if_icmp .lt 13, 3) := by decide +kernel
theorem dX4_demandKept_18 : decode cX4_demandKept 18 = .ok (.new 93, 3) := by decide +kernel
theorem dX4_demandKept_21 : decode cX4_demandKept 21 = .ok (.dup, 1) := by decide +kernel
theorem dX4_demandKept_22 : decode cX4_demandKept 22 = .ok (.ldc 242, 2) := by decide +kernel
theorem dX4_demandKept_24 : decode cX4_demandKept 24 = .ok (.invokespecial 97, 3) := by decide +kernel
theorem dX4_demandKept_27 : decode cX4_demandKept 27 = .ok (.athrow, 1) := by decide +kernel
theorem dX4_demandKept_28 : decode cX4_demandKept 28 = .ok (.return_, 1) := by decide +kernel
set_option maxRecDepth 20000 in
theorem ggX4_numberOfState_X4_greatestLevel : GoodIn wsX4_numberOfState wsX4_greatestLevel := goodIn_r _ [15] (by decide +kernel) (by decide +kernel)
set_option maxRecDepth 20000 in
theorem gX4_numberOfState_X4_greatestLevel : GoodIn wsX4_numberOfState (va_wsS RX4 250 yX4_greatestLevel wsX4_greatestLevel) := goodIn_app (goodIn_of _ (by decide +kernel)) ggX4_numberOfState_X4_greatestLevel
set_option maxRecDepth 20000 in
theorem ggX4_numberOfState_X1_cellCount : GoodIn wsX4_numberOfState wsX1_cellCount := goodIn_r _ [20, 21, 22, 23, 19, 24, 25, 26, 27, 28, 29, 41, 42, 43, 44, 45, 46, 47, 48, 49, 50, 51] (by decide +kernel) (by decide +kernel)
set_option maxRecDepth 20000 in
theorem gX4_numberOfState_X1_cellCount : GoodIn wsX4_numberOfState (wsV RX4 124 RX1 yX1_cellCount wsX1_cellCount) := goodIn_app (goodIn_of _ (by decide +kernel)) ggX4_numberOfState_X1_cellCount
set_option maxRecDepth 20000 in
theorem ggX4_numberOfState_J13_bitCount_95d88 : GoodIn wsX4_numberOfState wsJ13_bitCount_95d88 := goodIn_r _ [33, 34, 35, 36] (by decide +kernel) (by decide +kernel)
set_option maxRecDepth 20000 in
theorem gX4_numberOfState_J13_bitCount_95d88 : GoodIn wsX4_numberOfState (va_wsS RX4 257 yJ13_bitCount_95d88 wsJ13_bitCount_95d88) := goodIn_app (goodIn_of _ (by decide +kernel)) ggX4_numberOfState_J13_bitCount_95d88
theorem dX4_numberOfState_0 : decode cX4_numberOfState 0 = .ok (.iload_n 1, 1) := by decide +kernel
theorem dX4_numberOfState_1 : decode cX4_numberOfState 1 = .ok (.tableswitch 146 0 9 #[55, 63, 71, 79, 92, 100, 111, 122, 130, 138], 55) := by decide +kernel
theorem dX4_numberOfState_56 : decode cX4_numberOfState 56 = .ok (.aload_n 0, 1) := by decide +kernel
theorem dX4_numberOfState_57 : decode cX4_numberOfState 57 = .ok (.getfield 10, 3) := by decide +kernel
theorem dX4_numberOfState_60 : decode cX4_numberOfState 60 = .ok (.getfield 131, 3) := by decide +kernel
theorem dX4_numberOfState_63 : decode cX4_numberOfState 63 = .ok (.ireturn, 1) := by decide +kernel
theorem dX4_numberOfState_64 : decode cX4_numberOfState 64 = .ok (.aload_n 0, 1) := by decide +kernel
theorem dX4_numberOfState_65 : decode cX4_numberOfState 65 = .ok (.getfield 10, 3) := by decide +kernel
theorem dX4_numberOfState_68 : decode cX4_numberOfState 68 = .ok (.getfield 244, 3) := by decide +kernel
theorem dX4_numberOfState_71 : decode cX4_numberOfState 71 = .ok (.ireturn, 1) := by decide +kernel
theorem dX4_numberOfState_72 : decode cX4_numberOfState 72 = .ok (.aload_n 0, 1) := by decide +kernel
theorem dX4_numberOfState_73 : decode cX4_numberOfState 73 = .ok (.getfield 10, 3) := by decide +kernel
theorem dX4_numberOfState_76 : decode cX4_numberOfState 76 = .ok (.getfield 247, 3) := by decide +kernel
theorem dX4_numberOfState_79 : decode cX4_numberOfState 79 = .ok (.ireturn, 1) := by decide +kernel
theorem dX4_numberOfState_80 : decode cX4_numberOfState 80 = .ok (.aload_n 0, 1) := by decide +kernel
theorem dX4_numberOfState_81 : decode cX4_numberOfState 81 = .ok (.getfield 10, 3) := by decide +kernel
theorem dX4_numberOfState_84 : decode cX4_numberOfState 84 = .ok (.getfield 131, 3) := by decide +kernel
theorem dX4_numberOfState_87 : decode cX4_numberOfState 87 = .ok (.invokestatic 250, 3) := by decide +kernel
theorem dX4_numberOfState_90 : decode cX4_numberOfState 90 = .ok (.iconst 1, 1) := by decide +kernel
theorem dX4_numberOfState_91 : decode cX4_numberOfState 91 = .ok (.iadd, 1) := by decide +kernel
theorem dX4_numberOfState_92 : decode cX4_numberOfState 92 = .ok (.ireturn, 1) := by decide +kernel
theorem dX4_numberOfState_93 : decode cX4_numberOfState 93 = .ok (.aload_n 0, 1) := by decide +kernel
theorem dX4_numberOfState_94 : decode cX4_numberOfState 94 = .ok (.getfield 10, 3) := by decide +kernel
theorem dX4_numberOfState_97 : decode cX4_numberOfState 97 = .ok (.invokevirtual 124, 3) := by decide +kernel
theorem dX4_numberOfState_100 : decode cX4_numberOfState 100 = .ok (.ireturn, 1) := by decide +kernel
theorem dX4_numberOfState_101 : decode cX4_numberOfState 101 = .ok (.aload_n 0, 1) := by decide +kernel
theorem dX4_numberOfState_102 : decode cX4_numberOfState 102 = .ok (.getfield 10, 3) := by decide +kernel
theorem dX4_numberOfState_105 : decode cX4_numberOfState 105 = .ok (.getfield 253, 3) := by decide +kernel
theorem dX4_numberOfState_108 : decode cX4_numberOfState 108 = .ok (.invokestatic 257, 3) := by decide +kernel
theorem dX4_numberOfState_111 : decode cX4_numberOfState 111 = .ok (.ireturn, 1) := by decide +kernel
theorem dX4_numberOfState_112 : decode cX4_numberOfState 112 = .ok (.aload_n 0, 1) := by decide +kernel
theorem dX4_numberOfState_113 : decode cX4_numberOfState 113 = .ok (.getfield 10, 3) := by decide +kernel
theorem dX4_numberOfState_116 : decode cX4_numberOfState 116 = .ok (.getfield 144, 3) := by decide +kernel
theorem dX4_numberOfState_119 : decode cX4_numberOfState 119 = .ok (.getfield 148, 3) := by decide +kernel
theorem dX4_numberOfState_122 : decode cX4_numberOfState 122 = .ok (.ireturn, 1) := by decide +kernel
theorem dX4_numberOfState_123 : decode cX4_numberOfState 123 = .ok (.aload_n 0, 1) := by decide +kernel
theorem dX4_numberOfState_124 : decode cX4_numberOfState 124 = .ok (.getfield 10, 3) := by decide +kernel
theorem dX4_numberOfState_127 : decode cX4_numberOfState 127 = .ok (.getfield 177, 3) := by decide +kernel
theorem dX4_numberOfState_130 : decode cX4_numberOfState 130 = .ok (.ireturn, 1) := by decide +kernel
theorem dX4_numberOfState_131 : decode cX4_numberOfState 131 = .ok (.aload_n 0, 1) := by decide +kernel
theorem dX4_numberOfState_132 : decode cX4_numberOfState 132 = .ok (.getfield 10, 3) := by decide +kernel
theorem dX4_numberOfState_135 : decode cX4_numberOfState 135 = .ok (.getfield 180, 3) := by decide +kernel
theorem dX4_numberOfState_138 : decode cX4_numberOfState 138 = .ok (.ireturn, 1) := by decide +kernel
theorem dX4_numberOfState_139 : decode cX4_numberOfState 139 = .ok (.aload_n 0, 1) := by decide +kernel
theorem dX4_numberOfState_140 : decode cX4_numberOfState 140 = .ok (.getfield 10, 3) := by decide +kernel
theorem dX4_numberOfState_143 : decode cX4_numberOfState 143 = .ok (.getfield 174, 3) := by decide +kernel
theorem dX4_numberOfState_146 : decode cX4_numberOfState 146 = .ok (.ireturn, 1) := by decide +kernel
theorem dX4_numberOfState_147 : decode cX4_numberOfState 147 = .ok (.aload_n 0, 1) := by decide +kernel
theorem dX4_numberOfState_148 : decode cX4_numberOfState 148 = .ok (.getfield 10, 3) := by decide +kernel
theorem dX4_numberOfState_151 : decode cX4_numberOfState 151 = .ok (.getfield 262, 3) := by decide +kernel
theorem dX4_numberOfState_154 : decode cX4_numberOfState 154 = .ok (.ireturn, 1) := by decide +kernel
set_option maxRecDepth 20000 in
theorem ggX4_keptAsNumber_X3_fromAt : GoodIn wsX4_keptAsNumber wsX3_fromAt := goodIn_r _ [7, 8, 29, 30, 31] (by decide +kernel) (by decide +kernel)
set_option maxRecDepth 20000 in
theorem gX4_keptAsNumber_X3_fromAt : GoodIn wsX4_keptAsNumber (wsV RX4 165 RX3 yX3_fromAt wsX3_fromAt) := goodIn_app (goodIn_of _ (by decide +kernel)) ggX4_keptAsNumber_X3_fromAt
set_option maxRecDepth 20000 in
theorem ggX4_keptAsNumber_X3_toAt : GoodIn wsX4_keptAsNumber wsX3_toAt := goodIn_r _ [12, 13, 29, 30, 31] (by decide +kernel) (by decide +kernel)
set_option maxRecDepth 20000 in
theorem gX4_keptAsNumber_X3_toAt : GoodIn wsX4_keptAsNumber (wsV RX4 168 RX3 yX3_toAt wsX3_toAt) := goodIn_app (goodIn_of _ (by decide +kernel)) ggX4_keptAsNumber_X3_toAt
theorem dX4_keptAsNumber_0 : decode cX4_keptAsNumber 0 = .ok (.bipush 100, 2) := by decide +kernel
theorem dX4_keptAsNumber_2 : decode cX4_keptAsNumber 2 = .ok (.aload_n 0, 1) := by decide +kernel
theorem dX4_keptAsNumber_3 : decode cX4_keptAsNumber 3 = .ok (.getfield 10, 3) := by decide +kernel
theorem dX4_keptAsNumber_6 : decode cX4_keptAsNumber 6 = .ok (.getfield 144, 3) := by decide +kernel
theorem dX4_keptAsNumber_9 : decode cX4_keptAsNumber 9 = .ok (.iload_n 1, 1) := by decide +kernel
theorem dX4_keptAsNumber_10 : decode cX4_keptAsNumber 10 = .ok (.invokevirtual 165, 3) := by decide +kernel
theorem dX4_keptAsNumber_13 : decode cX4_keptAsNumber 13 = .ok (.imul, 1) := by decide +kernel
theorem dX4_keptAsNumber_14 : decode cX4_keptAsNumber 14 = .ok (.aload_n 0, 1) := by decide +kernel
theorem dX4_keptAsNumber_15 : decode cX4_keptAsNumber 15 = .ok (.getfield 10, 3) := by decide +kernel
theorem dX4_keptAsNumber_18 : decode cX4_keptAsNumber 18 = .ok (.getfield 144, 3) := by decide +kernel
theorem dX4_keptAsNumber_21 : decode cX4_keptAsNumber 21 = .ok (.iload_n 1, 1) := by decide +kernel
theorem dX4_keptAsNumber_22 : decode cX4_keptAsNumber 22 = .ok (.invokevirtual 168, 3) := by decide +kernel
theorem dX4_keptAsNumber_25 : decode cX4_keptAsNumber 25 = .ok (.iadd, 1) := by decide +kernel
theorem dX4_keptAsNumber_26 : decode cX4_keptAsNumber 26 = .ok (.ireturn, 1) := by decide +kernel
set_option maxRecDepth 20000 in
theorem ggX4_looksFor_X4_isAmong : GoodIn wsX4_looksFor wsX4_isAmong := goodIn_r _ [4] (by decide +kernel) (by decide +kernel)
set_option maxRecDepth 20000 in
theorem gX4_looksFor_X4_isAmong : GoodIn wsX4_looksFor (va_wsS RX4 279 yX4_isAmong wsX4_isAmong) := goodIn_app (goodIn_of _ (by decide +kernel)) ggX4_looksFor_X4_isAmong
set_option maxRecDepth 20000 in
theorem ggX4_looksFor_X4_looksForRun : GoodIn wsX4_looksFor wsX4_looksForRun := goodIn_r _ [7, 8, 9, 3, 10] (by decide +kernel) (by decide +kernel)
set_option maxRecDepth 20000 in
theorem gX4_looksFor_X4_looksForRun : GoodIn wsX4_looksFor (va_wsS RX4 283 yX4_looksForRun wsX4_looksForRun) := goodIn_app (goodIn_of _ (by decide +kernel)) ggX4_looksFor_X4_looksForRun
theorem dX4_looksFor_0 : decode cX4_looksFor 0 = .ok (.iconst 0, 1) := by decide +kernel
theorem dX4_looksFor_1 : decode cX4_looksFor 1 = .ok (.istore 4, 2) := by decide +kernel
theorem dX4_looksFor_3 : decode cX4_looksFor 3 = .ok (.iconst 0, 1) := by decide +kernel
theorem dX4_looksFor_4 : decode cX4_looksFor 4 = .ok (.istore 5, 2) := by decide +kernel
theorem dX4_looksFor_6 : decode cX4_looksFor 6 = .ok (.iload_n 0, 1) := by decide +kernel
theorem dX4_looksFor_7 : decode cX4_looksFor 7 = .ok (.istore 6, 2) := by decide +kernel
theorem dX4_looksFor_9 : decode cX4_looksFor 9 = .ok (.iload 6, 2) := by decide +kernel
theorem dX4_looksFor_11 : decode cX4_looksFor 11 = .ok (.iload_n 1, 1) := by decide +kernel
theorem dX4_looksFor_12 : decode cX4_looksFor 12 = .ok (.if_icmp .gt 39, 3) := by decide +kernel
theorem dX4_looksFor_15 : decode cX4_looksFor 15 = .ok (.lload_n 2, 1) := by decide +kernel
theorem dX4_looksFor_16 : decode cX4_looksFor 16 = .ok (.iload 6, 2) := by decide +kernel
theorem dX4_looksFor_18 : decode cX4_looksFor 18 = .ok (.invokestatic 279, 3) := by decide +kernel
theorem dX4_looksFor_21 : decode cX4_looksFor 21 = .ok (.ifCond .eq 21, 3) := by decide +kernel
theorem dX4_looksFor_24 : decode cX4_looksFor 24 = .ok (.iload 4, 2) := by decide +kernel
theorem dX4_looksFor_26 : decode cX4_looksFor 26 = .ok (.iload 5, 2) := by decide +kernel
theorem dX4_looksFor_28 : decode cX4_looksFor 28 = .ok (.invokestatic 283, 3) := by decide +kernel
theorem dX4_looksFor_31 : decode cX4_looksFor 31 = .ok (.iconst 1, 1) := by decide +kernel
theorem dX4_looksFor_32 : decode cX4_looksFor 32 = .ok (.iadd, 1) := by decide +kernel
theorem dX4_looksFor_33 : decode cX4_looksFor 33 = .ok (.iadd, 1) := by decide +kernel
theorem dX4_looksFor_34 : decode cX4_looksFor 34 = .ok (.istore 4, 2) := by decide +kernel
theorem dX4_looksFor_36 : decode cX4_looksFor 36 = .ok (.iconst 0, 1) := by decide +kernel
theorem dX4_looksFor_37 : decode cX4_looksFor 37 = .ok (.istore 5, 2) := by decide +kernel
theorem dX4_looksFor_39 : decode cX4_looksFor 39 = .ok (.goto 6, 3) := by decide +kernel
theorem dX4_looksFor_42 : decode cX4_looksFor 42 = .ok (.iinc 5 1, 3) := by decide +kernel
theorem dX4_looksFor_45 : decode cX4_looksFor 45 = .ok (.iinc 6 1, 3) := by decide +kernel
theorem dX4_looksFor_48 : decode cX4_looksFor 48 = .ok (.goto (-39), 3) := by decide +kernel
theorem dX4_looksFor_51 : decode cX4_looksFor 51 = .ok (.iload 4, 2) := by decide +kernel
theorem dX4_looksFor_53 : decode cX4_looksFor 53 = .ok (.iload 5, 2) := by decide +kernel
theorem dX4_looksFor_55 : decode cX4_looksFor 55 = .ok (.invokestatic 283, 3) := by decide +kernel
theorem dX4_looksFor_58 : decode cX4_looksFor 58 = .ok (.iadd, 1) := by decide +kernel
theorem dX4_looksFor_59 : decode cX4_looksFor 59 = .ok (.ireturn, 1) := by decide +kernel
set_option maxRecDepth 20000 in
theorem ggX4_looksForRun_X4_greatestLevel : GoodIn wsX4_looksForRun wsX4_greatestLevel := goodIn_r _ [4] (by decide +kernel) (by decide +kernel)
set_option maxRecDepth 20000 in
theorem gX4_looksForRun_X4_greatestLevel : GoodIn wsX4_looksForRun (va_wsS RX4 250 yX4_greatestLevel wsX4_greatestLevel) := goodIn_app (goodIn_of _ (by decide +kernel)) ggX4_looksForRun_X4_greatestLevel
theorem dX4_looksForRun_0 : decode cX4_looksForRun 0 = .ok (.iload_n 0, 1) := by decide +kernel
theorem dX4_looksForRun_1 : decode cX4_looksForRun 1 = .ok (.ifCond .ne 5, 3) := by decide +kernel
theorem dX4_looksForRun_4 : decode cX4_looksForRun 4 = .ok (.iconst 0, 1) := by decide +kernel
theorem dX4_looksForRun_5 : decode cX4_looksForRun 5 = .ok (.ireturn, 1) := by decide +kernel
theorem dX4_looksForRun_6 : decode cX4_looksForRun 6 = .ok (.iload_n 0, 1) := by decide +kernel
theorem dX4_looksForRun_7 : decode cX4_looksForRun 7 = .ok (.iconst 1, 1) := by decide +kernel
theorem dX4_looksForRun_8 : decode cX4_looksForRun 8 = .ok (.iload_n 0, 1) := by decide +kernel
theorem dX4_looksForRun_9 : decode cX4_looksForRun 9 = .ok (.invokestatic 250, 3) := by decide +kernel
theorem dX4_looksForRun_12 : decode cX4_looksForRun 12 = .ok (.ishl, 1) := by decide +kernel
theorem dX4_looksForRun_13 : decode cX4_looksForRun 13 = .ok (.if_icmp .ne 7, 3) := by decide +kernel
theorem dX4_looksForRun_16 : decode cX4_looksForRun 16 = .ok (.iconst 1, 1) := by decide +kernel
theorem dX4_looksForRun_17 : decode cX4_looksForRun 17 = .ok (.goto 4, 3) := by decide +kernel
theorem dX4_looksForRun_20 : decode cX4_looksForRun 20 = .ok (.iconst 2, 1) := by decide +kernel
theorem dX4_looksForRun_21 : decode cX4_looksForRun 21 = .ok (.ireturn, 1) := by decide +kernel
theorem dX4_greatestLevel_0 : decode cX4_greatestLevel 0 = .ok (.iconst 0, 1) := by decide +kernel
theorem dX4_greatestLevel_1 : decode cX4_greatestLevel 1 = .ok (.istore_n 1, 1) := by decide +kernel
theorem dX4_greatestLevel_2 : decode cX4_greatestLevel 2 = .ok (.iload_n 1, 1) := by decide +kernel
theorem dX4_greatestLevel_3 : decode cX4_greatestLevel 3 = .ok (.iconst 5, 1) := by decide +kernel
theorem dX4_greatestLevel_4 : decode cX4_greatestLevel 4 = .ok (.if_icmp .ge 16, 3) := by decide +kernel
theorem dX4_greatestLevel_7 : decode cX4_greatestLevel 7 = .ok (.iconst 2, 1) := by decide +kernel
theorem dX4_greatestLevel_8 : decode cX4_greatestLevel 8 = .ok (.iload_n 1, 1) := by decide +kernel
theorem dX4_greatestLevel_9 : decode cX4_greatestLevel 9 = .ok (.ishl, 1) := by decide +kernel
theorem dX4_greatestLevel_10 : decode cX4_greatestLevel 10 = .ok (.iload_n 0, 1) := by decide +kernel
theorem dX4_greatestLevel_11 : decode cX4_greatestLevel 11 = .ok (.if_icmp .gt 9, 3) := by decide +kernel
theorem dX4_greatestLevel_14 : decode cX4_greatestLevel 14 = .ok (.iinc 1 1, 3) := by decide +kernel
theorem dX4_greatestLevel_17 : decode cX4_greatestLevel 17 = .ok (.goto (-15), 3) := by decide +kernel
theorem dX4_greatestLevel_20 : decode cX4_greatestLevel 20 = .ok (.iload_n 1, 1) := by decide +kernel
theorem dX4_greatestLevel_21 : decode cX4_greatestLevel 21 = .ok (.ireturn, 1) := by decide +kernel
theorem dX4_firstCellOver_0 : decode cX4_firstCellOver 0 = .ok (.iconst 0, 1) := by decide +kernel
theorem dX4_firstCellOver_1 : decode cX4_firstCellOver 1 = .ok (.iload_n 1, 1) := by decide +kernel
theorem dX4_firstCellOver_2 : decode cX4_firstCellOver 2 = .ok (.iconst 1, 1) := by decide +kernel
theorem dX4_firstCellOver_3 : decode cX4_firstCellOver 3 = .ok (.iload_n 0, 1) := by decide +kernel
theorem dX4_firstCellOver_4 : decode cX4_firstCellOver 4 = .ok (.ishl, 1) := by decide +kernel
theorem dX4_firstCellOver_5 : decode cX4_firstCellOver 5 = .ok (.isub, 1) := by decide +kernel
theorem dX4_firstCellOver_6 : decode cX4_firstCellOver 6 = .ok (.iconst 1, 1) := by decide +kernel
theorem dX4_firstCellOver_7 : decode cX4_firstCellOver 7 = .ok (.iadd, 1) := by decide +kernel
theorem dX4_firstCellOver_8 : decode cX4_firstCellOver 8 = .ok (.invokestatic 271, 3) := by decide +kernel
theorem dX4_firstCellOver_11 : decode cX4_firstCellOver 11 = .ok (.ireturn, 1) := by decide +kernel
theorem dX4_isAmong_0 : decode cX4_isAmong 0 = .ok (.lload_n 0, 1) := by decide +kernel
theorem dX4_isAmong_1 : decode cX4_isAmong 1 = .ok (.iload_n 2, 1) := by decide +kernel
theorem dX4_isAmong_2 : decode cX4_isAmong 2 = .ok (.lushr, 1) := by decide +kernel
theorem dX4_isAmong_3 : decode cX4_isAmong 3 = .ok (.lconst 1, 1) := by decide +kernel
theorem dX4_isAmong_4 : decode cX4_isAmong 4 = .ok (.land, 1) := by decide +kernel
theorem dX4_isAmong_5 : decode cX4_isAmong 5 = .ok (.lconst 0, 1) := by decide +kernel
theorem dX4_isAmong_6 : decode cX4_isAmong 6 = .ok (.lcmp, 1) := by decide +kernel
theorem dX4_isAmong_7 : decode cX4_isAmong 7 = .ok (.ifCond .eq 7, 3) := by decide +kernel
theorem dX4_isAmong_10 : decode cX4_isAmong 10 = .ok (.iconst 1, 1) := by decide +kernel
theorem dX4_isAmong_11 : decode cX4_isAmong 11 = .ok (.goto 4, 3) := by decide +kernel
theorem dX4_isAmong_14 : decode cX4_isAmong 14 = .ok (.iconst 0, 1) := by decide +kernel
theorem dX4_isAmong_15 : decode cX4_isAmong 15 = .ok (.ireturn, 1) := by decide +kernel
