theorem dL_cell_0 : decode cL_cell 0 = .ok (.iload_n 1, 1) := by decide +kernel
theorem dL_cell_1 : decode cL_cell 1 = .ok (.aload_n 0, 1) := by decide +kernel
theorem dL_cell_2 : decode cL_cell 2 = .ok (.arraylength, 1) := by decide +kernel
theorem dL_cell_3 : decode cL_cell 3 = .ok (.if_icmp .ge 9, 3) := by decide +kernel
theorem dL_cell_6 : decode cL_cell 6 = .ok (.aload_n 0, 1) := by decide +kernel
theorem dL_cell_7 : decode cL_cell 7 = .ok (.iload_n 1, 1) := by decide +kernel
theorem dL_cell_8 : decode cL_cell 8 = .ok (.iaload, 1) := by decide +kernel
theorem dL_cell_9 : decode cL_cell 9 = .ok (.goto 4, 3) := by decide +kernel
theorem dL_cell_12 : decode cL_cell 12 = .ok (.iconst 0, 1) := by decide +kernel
theorem dL_cell_13 : decode cL_cell 13 = .ok (.ireturn, 1) := by decide +kernel
theorem dL_bound_0 : decode cL_bound 0 = .ok (.iload_n 0, 1) := by decide +kernel
theorem dL_bound_1 : decode cL_bound 1 = .ok (.ldc 7, 2) := by decide +kernel
theorem dL_bound_3 : decode cL_bound 3 = .ok (.iand, 1) := by decide +kernel
theorem dL_bound_4 : decode cL_bound 4 = .ok (.iload_n 1, 1) := by decide +kernel
theorem dL_bound_5 : decode cL_bound 5 = .ok (.irem, 1) := by decide +kernel
theorem dL_bound_6 : decode cL_bound 6 = .ok (.ireturn, 1) := by decide +kernel
set_option maxRecDepth 20000 in
theorem ggL_feeds_J0_length_8abf5 : GoodIn wsL_feeds wsJ0_length_8abf5 := goodIn_r _ [6, 7, 8, 9, 10, 5, 11, 12, 13, 65, 66, 67, 68] (by decide +kernel) (by decide +kernel)
set_option maxRecDepth 20000 in
theorem gL_feeds_J0_length_8abf5 : GoodIn wsL_feeds (wsV RL 8 RJ0 yJ0_length_8abf5 wsJ0_length_8abf5) := goodIn_app (goodIn_of _ (by decide +kernel)) ggL_feeds_J0_length_8abf5
set_option maxRecDepth 20000 in
theorem ggL_feeds_J0_charAt_5068e : GoodIn wsL_feeds wsJ0_charAt_5068e := goodIn_r _ [17, 7, 18, 19, 20, 5, 21, 12, 13, 22, 23, 24, 25, 26, 27, 28, 29, 30, 31, 32, 33, 34, 35, 36, 37, 38, 39, 40, 41, 42, 43, 44, 45, 46, 47, 48, 49, 50, 65, 66, 67, 68] (by decide +kernel) (by decide +kernel)
set_option maxRecDepth 20000 in
theorem gL_feeds_J0_charAt_5068e : GoodIn wsL_feeds (wsV RL 14 RJ0 yJ0_charAt_5068e wsJ0_charAt_5068e) := goodIn_app (goodIn_of _ (by decide +kernel)) ggL_feeds_J0_charAt_5068e
set_option maxRecDepth 20000 in
theorem ggL_feeds_X4_append : GoodIn wsL_feeds wsX4_append := goodIn_r _ [55, 56, 57, 58, 59, 60, 61, 62, 63, 64, 69, 70, 71, 72, 73, 74, 75, 76, 77, 78, 79, 80, 81, 82, 83] (by decide +kernel) (by decide +kernel)
set_option maxRecDepth 20000 in
theorem gL_feeds_X4_append : GoodIn wsL_feeds (wsV RL 18 RX4 yX4_append wsX4_append) := goodIn_app (goodIn_of _ (by decide +kernel)) ggL_feeds_X4_append
theorem dL_feeds_0 : decode cL_feeds 0 = .ok (.iconst 0, 1) := by decide +kernel
theorem dL_feeds_1 : decode cL_feeds 1 = .ok (.istore_n 2, 1) := by decide +kernel
theorem dL_feeds_2 : decode cL_feeds 2 = .ok (.iconst 0, 1) := by decide +kernel
theorem dL_feeds_3 : decode cL_feeds 3 = .ok (.istore_n 3, 1) := by decide +kernel
theorem dL_feeds_4 : decode cL_feeds 4 = .ok (.iload_n 3, 1) := by decide +kernel
theorem dL_feeds_5 : decode cL_feeds 5 = .ok (.aload_n 1, 1) := by decide +kernel
theorem dL_feeds_6 : decode cL_feeds 6 = .ok (.invokevirtual 8, 3) := by decide +kernel
theorem dL_feeds_9 : decode cL_feeds 9 = .ok (.if_icmp .ge 97, 3) := by decide +kernel
theorem dL_feeds_12 : decode cL_feeds 12 = .ok (.iconst 5, 1) := by decide +kernel
theorem dL_feeds_13 : decode cL_feeds 13 = .ok (.newarray .int, 2) := by decide +kernel
theorem dL_feeds_15 : decode cL_feeds 15 = .ok (.astore 4, 2) := by decide +kernel
theorem dL_feeds_17 : decode cL_feeds 17 = .ok (.iconst 0, 1) := by decide +kernel
theorem dL_feeds_18 : decode cL_feeds 18 = .ok (.istore 5, 2) := by decide +kernel
theorem dL_feeds_20 : decode cL_feeds 20 = .ok (.iload 5, 2) := by decide +kernel
theorem dL_feeds_22 : decode cL_feeds 22 = .ok (.bipush 20, 2) := by decide +kernel
theorem dL_feeds_24 : decode cL_feeds 24 = .ok (.if_icmp .ge 51, 3) := by decide +kernel
theorem dL_feeds_27 : decode cL_feeds 27 = .ok (.aload 4, 2) := by decide +kernel
theorem dL_feeds_29 : decode cL_feeds 29 = .ok (.iload 5, 2) := by decide +kernel
theorem dL_feeds_31 : decode cL_feeds 31 = .ok (.iconst 4, 1) := by decide +kernel
theorem dL_feeds_32 : decode cL_feeds 32 = .ok (.idiv, 1) := by decide +kernel
theorem dL_feeds_33 : decode cL_feeds 33 = .ok (.aload 4, 2) := by decide +kernel
theorem dL_feeds_35 : decode cL_feeds 35 = .ok (.iload 5, 2) := by decide +kernel
theorem dL_feeds_37 : decode cL_feeds 37 = .ok (.iconst 4, 1) := by decide +kernel
theorem dL_feeds_38 : decode cL_feeds 38 = .ok (.idiv, 1) := by decide +kernel
theorem dL_feeds_39 : decode cL_feeds 39 = .ok (.iaload, 1) := by decide +kernel
theorem dL_feeds_40 : decode cL_feeds 40 = .ok (.bipush 8, 2) := by decide +kernel
theorem dL_feeds_42 : decode cL_feeds 42 = .ok (.ishl, 1) := by decide +kernel
theorem dL_feeds_43 : decode cL_feeds 43 = .ok (.iload_n 3, 1) := by decide +kernel
theorem dL_feeds_44 : decode cL_feeds 44 = .ok (.iload 5, 2) := by decide +kernel
theorem dL_feeds_46 : decode cL_feeds 46 = .ok (.iadd, 1) := by decide +kernel
theorem dL_feeds_47 : decode cL_feeds 47 = .ok (.aload_n 1, 1) := by decide +kernel
theorem dL_feeds_48 : decode cL_feeds 48 = .ok (.invokevirtual 8, 3) := by decide +kernel
theorem dL_feeds_51 : decode cL_feeds 51 = .ok (.if_icmp .ge 14, 3) := by decide +kernel
theorem dL_feeds_54 : decode cL_feeds 54 = .ok (.aload_n 1, 1) := by decide +kernel
theorem dL_feeds_55 : decode cL_feeds 55 = .ok (.iload_n 3, 1) := by decide +kernel
theorem dL_feeds_56 : decode cL_feeds 56 = .ok (.iload 5, 2) := by decide +kernel
theorem dL_feeds_58 : decode cL_feeds 58 = .ok (.iadd, 1) := by decide +kernel
theorem dL_feeds_59 : decode cL_feeds 59 = .ok (.invokevirtual 14, 3) := by decide +kernel
theorem dL_feeds_62 : decode cL_feeds 62 = .ok (.goto 5, 3) := by decide +kernel
theorem dL_feeds_65 : decode cL_feeds 65 = .ok (.bipush 32, 2) := by decide +kernel
theorem dL_feeds_67 : decode cL_feeds 67 = .ok (.ior, 1) := by decide +kernel
theorem dL_feeds_68 : decode cL_feeds 68 = .ok (.iastore, 1) := by decide +kernel
theorem dL_feeds_69 : decode cL_feeds 69 = .ok (.iinc 5 1, 3) := by decide +kernel
theorem dL_feeds_72 : decode cL_feeds 72 = .ok (.goto (-52), 3) := by decide +kernel
theorem dL_feeds_75 : decode cL_feeds 75 = .ok (.aload_n 0, 1) := by decide +kernel
theorem dL_feeds_76 : decode cL_feeds 76 = .ok (.aload 4, 2) := by decide +kernel
theorem dL_feeds_78 : decode cL_feeds 78 = .ok (.iconst 0, 1) := by decide +kernel
theorem dL_feeds_79 : decode cL_feeds 79 = .ok (.iaload, 1) := by decide +kernel
theorem dL_feeds_80 : decode cL_feeds 80 = .ok (.aload 4, 2) := by decide +kernel
theorem dL_feeds_82 : decode cL_feeds 82 = .ok (.iconst 1, 1) := by decide +kernel
theorem dL_feeds_83 : decode cL_feeds 83 = .ok (.iaload, 1) := by decide +kernel
theorem dL_feeds_84 : decode cL_feeds 84 = .ok (.aload 4, 2) := by decide +kernel
theorem dL_feeds_86 : decode cL_feeds 86 = .ok (.iconst 2, 1) := by decide +kernel
theorem dL_feeds_87 : decode cL_feeds 87 = .ok (.iaload, 1) := by decide +kernel
theorem dL_feeds_88 : decode cL_feeds 88 = .ok (.aload 4, 2) := by decide +kernel
theorem dL_feeds_90 : decode cL_feeds 90 = .ok (.iconst 3, 1) := by decide +kernel
theorem dL_feeds_91 : decode cL_feeds 91 = .ok (.iaload, 1) := by decide +kernel
theorem dL_feeds_92 : decode cL_feeds 92 = .ok (.aload 4, 2) := by decide +kernel
theorem dL_feeds_94 : decode cL_feeds 94 = .ok (.iconst 4, 1) := by decide +kernel
theorem dL_feeds_95 : decode cL_feeds 95 = .ok (.iaload, 1) := by decide +kernel
theorem dL_feeds_96 : decode cL_feeds 96 = .ok (.invokevirtual 18, 3) := by decide +kernel
theorem dL_feeds_99 : decode cL_feeds 99 = .ok (.istore_n 2, 1) := by decide +kernel
theorem dL_feeds_100 : decode cL_feeds 100 = .ok (.iinc 3 20, 3) := by decide +kernel
theorem dL_feeds_103 : decode cL_feeds 103 = .ok (.goto (-99), 3) := by decide +kernel
theorem dL_feeds_106 : decode cL_feeds 106 = .ok (.iload_n 2, 1) := by decide +kernel
theorem dL_feeds_107 : decode cL_feeds 107 = .ok (.ireturn, 1) := by decide +kernel
set_option maxRecDepth 20000 in
theorem ggL_read_L_feeds : GoodIn wsL_read wsL_feeds := goodIn_r _ [4, 5, 6, 7, 8, 9, 10, 11, 12, 13, 14, 15, 16, 17, 18, 19, 20, 21, 22, 23, 24, 25, 26, 27, 28, 29, 30, 31, 32, 33, 34, 35, 36, 37, 38, 39, 40, 41, 42, 43, 44, 45, 46, 47, 48, 49, 50, 51, 52, 53, 54, 55, 56, 57, 58, 59, 60, 61, 62, 63, 64, 65, 66, 67, 68, 339, 340, 341, 342, 343, 344, 345, 346, 347, 348, 349, 350, 351, 352, 353, 354, 355, 356, 357] (by decide +kernel) (by decide +kernel)
set_option maxRecDepth 20000 in
theorem gL_read_L_feeds : GoodIn wsL_read (va_wsS RL 24 yL_feeds wsL_feeds) := goodIn_app (goodIn_of _ (by decide +kernel)) ggL_read_L_feeds
set_option maxRecDepth 20000 in
theorem ggL_read_J0_length_8abf5 : GoodIn wsL_read wsJ0_length_8abf5 := goodIn_r _ [10, 11, 12, 13, 14, 9, 15, 16, 17, 339, 340, 341, 342] (by decide +kernel) (by decide +kernel)
set_option maxRecDepth 20000 in
theorem gL_read_J0_length_8abf5 : GoodIn wsL_read (wsV RL 8 RJ0 yJ0_length_8abf5 wsJ0_length_8abf5) := goodIn_app (goodIn_of _ (by decide +kernel)) ggL_read_J0_length_8abf5
set_option maxRecDepth 20000 in
theorem ggL_read_X4_load : GoodIn wsL_read wsX4_load := goodIn_ca (goodIn_r _ [72, 73, 74, 60, 61, 75, 76, 77, 78, 79, 80, 81, 82, 83, 65, 84, 85, 86, 87, 88, 89, 90, 91, 92, 93, 94, 95, 96, 97, 98, 68, 99, 100, 101, 102, 103, 104, 105, 106, 107, 108, 109, 7, 8, 9, 10, 11, 12, 13, 14, 15, 16, 17, 110, 19, 20, 21, 22, 23, 24, 25, 26, 27, 28, 29, 30, 31, 32, 33, 34, 35, 36, 37, 38, 39, 40, 41, 42, 43, 44, 45, 46, 47, 48, 49, 50, 51, 52, 53, 54, 111, 112, 113, 114, 115, 116, 117, 118, 119, 120, 121, 122, 123, 124, 125, 126, 127, 128, 129, 130, 131, 132, 133, 134, 135, 136, 137, 138, 139, 140, 141, 142, 143, 144, 145, 146, 147, 148, 149, 150, 151, 152, 153, 154, 155, 156, 157, 158, 159, 160, 161, 162, 163, 164, 165, 166, 167, 168, 169, 170, 171, 172, 173, 174, 175, 176, 177, 178, 179, 180, 181, 182, 183, 184, 185, 186, 187, 188, 189, 190, 191, 192, 58, 193, 194, 195, 196, 197, 198, 199, 200, 201, 202, 203, 204, 205, 206, 207, 208, 209, 210, 211, 212, 213, 214, 215, 216, 217, 218, 219, 220, 221, 222, 223, 224, 225, 226, 227, 228, 229, 230, 231, 232, 233, 234, 235, 236, 237, 238, 239, 240, 241, 242, 243, 244, 245, 246, 247, 248, 249, 250, 251, 252, 253, 254, 255, 256, 257, 258, 259, 260, 261, 262, 263, 264, 265, 266, 267, 268, 269, 270, 271, 272, 273, 274, 275, 276, 277, 278, 279, 280, 281, 282, 283, 284, 285, 286, 287, 288, 289, 290, 291, 292, 293, 294, 295, 296, 297, 298, 299, 300, 301, 302, 303, 304, 305, 306, 307, 308, 309, 310, 311, 312, 313, 314, 315, 316, 317, 318, 319, 320, 321, 322, 323, 324, 325, 326, 327, 328, 329, 330, 331, 332, 333, 334, 335, 336, 337, 338, 343, 344, 345, 346, 347, 348, 349, 350, 351, 352, 353, 354, 355, 356, 357, 358, 359, 360, 361, 362, 363, 364, 365, 366, 367, 368, 339, 340, 341, 342, 369, 370, 371, 372, 373, 374] (by decide +kernel) (by decide +kernel)) (goodIn_sub (fun _ h => List.mem_cons_of_mem _ (List.mem_append_right _ h)) (by decide +kernel))
set_option maxRecDepth 20000 in
theorem gL_read_X4_load : GoodIn wsL_read (wsV RL 30 RX4 yX4_load wsX4_load) := goodIn_app (goodIn_of _ (by decide +kernel)) ggL_read_X4_load
theorem dL_read_0 : decode cL_read 0 = .ok (.aload_n 0, 1) := by decide +kernel
theorem dL_read_1 : decode cL_read 1 = .ok (.aload_n 1, 1) := by decide +kernel
theorem dL_read_2 : decode cL_read 2 = .ok (.invokestatic 24, 3) := by decide +kernel
theorem dL_read_5 : decode cL_read 5 = .ok (.ifCond .ge 8, 3) := by decide +kernel
theorem dL_read_8 : decode cL_read 8 = .ok (.bipush (-99), 2) := by decide +kernel
theorem dL_read_10 : decode cL_read 10 = .ok (.goto 11, 3) := by decide +kernel
theorem dL_read_13 : decode cL_read 13 = .ok (.aload_n 0, 1) := by decide +kernel
theorem dL_read_14 : decode cL_read 14 = .ok (.aload_n 1, 1) := by decide +kernel
theorem dL_read_15 : decode cL_read 15 = .ok (.invokevirtual 8, 3) := by decide +kernel
theorem dL_read_18 : decode cL_read 18 = .ok (.invokevirtual 30, 3) := by decide +kernel
theorem dL_read_21 : decode cL_read 21 = .ok (.ireturn, 1) := by decide +kernel
set_option maxRecDepth 20000 in
theorem ggL_law_L_cell : GoodIn wsL_law wsL_cell := goodIn_r _ [23] (by decide +kernel) (by decide +kernel)
set_option maxRecDepth 20000 in
theorem gL_law_L_cell : GoodIn wsL_law (va_wsS RL 34 yL_cell wsL_cell) := goodIn_app (goodIn_of _ (by decide +kernel)) ggL_law_L_cell
set_option maxRecDepth 20000 in
theorem ggL_law_X5_init : GoodIn wsL_law wsX5_init := goodIn_r _ [25, 26, 27, 28, 29, 30, 31, 32, 33, 34, 35, 36, 37, 38, 39, 40, 41, 42, 43, 44, 45, 46, 47, 48, 49, 994, 995, 996, 973, 974, 975, 976, 977, 978, 979, 980, 981] (by decide +kernel) (by decide +kernel)
set_option maxRecDepth 20000 in
theorem gL_law_X5_init_n40 : GoodIn wsL_law (wsX5_init) := ggL_law_X5_init
set_option maxRecDepth 20000 in
theorem ggL_law_L_bound : GoodIn wsL_law wsL_bound := goodIn_r _ [52, 53] (by decide +kernel) (by decide +kernel)
set_option maxRecDepth 20000 in
theorem gL_law_L_bound : GoodIn wsL_law (va_wsS RL 41 yL_bound wsL_bound) := goodIn_app (goodIn_of _ (by decide +kernel)) ggL_law_L_bound
set_option maxRecDepth 20000 in
theorem ggL_law_J4_init_da8c8 : GoodIn wsL_law wsJ4_init_da8c8 := goodIn_r _ [56, 57, 58, 59, 60, 61, 27, 28, 62, 63, 64, 65, 66, 67, 68, 69, 70, 71, 72, 73, 982, 983, 984, 985] (by decide +kernel) (by decide +kernel)
set_option maxRecDepth 20000 in
theorem gL_law_J4_init_da8c8 : GoodIn wsL_law (wsJ4_init_da8c8) := ggL_law_J4_init_da8c8
set_option maxRecDepth 20000 in
theorem ggL_law_J4_append_15ec4 : GoodIn wsL_law wsJ4_append_15ec4 := goodIn_r _ [77, 78, 79, 80, 81, 59, 82, 83, 84, 85, 86, 87, 88, 64, 89, 90, 91, 92, 93, 65, 94, 95, 96, 97, 98, 99, 100, 101, 102, 103, 104, 105, 11, 106, 107, 108, 109, 110, 111, 112, 113, 114, 115, 116, 117, 118, 119, 120, 63, 121, 122, 123, 124, 125, 126, 127, 128, 129, 130, 131, 132, 62, 133, 134, 68, 135, 136, 137, 138, 139, 140, 141, 142, 143, 144, 145, 146, 147, 148, 149, 150, 151, 152, 153, 154, 155, 156, 157, 158, 159, 160, 161, 162, 163, 164, 165, 166, 167, 168, 169, 170, 171, 172, 173, 174, 175, 176, 177, 178, 179, 180, 181, 182, 183, 66, 67, 69, 70, 71, 72, 73, 184, 185, 186, 187, 188, 189, 190, 191, 192, 193, 194, 195, 196, 197, 198, 199, 200, 201, 202, 203, 204, 205, 982, 983, 984, 985, 997, 998, 999, 1000] (by decide +kernel) (by decide +kernel)
set_option maxRecDepth 20000 in
theorem gL_law_J4_append_15ec4 : GoodIn wsL_law (wsV RL 57 RJ4 yJ4_append_15ec4 wsJ4_append_15ec4) := goodIn_app (goodIn_of _ (by decide +kernel)) ggL_law_J4_append_15ec4
set_option maxRecDepth 20000 in
theorem ggL_law_J4_append_bf812 : GoodIn wsL_law wsJ4_append_bf812 := goodIn_r _ [209, 210, 211, 80, 212, 59, 213, 83, 64, 214, 215, 216, 217, 89, 90, 91, 92, 93, 65, 94, 95, 96, 97, 98, 99, 100, 101, 102, 103, 104, 105, 11, 106, 107, 108, 109, 110, 111, 112, 113, 114, 115, 116, 117, 118, 119, 120, 63, 121, 122, 123, 124, 125, 126, 127, 128, 129, 130, 131, 132, 62, 218, 219, 220, 221, 222, 223, 224, 68, 225, 136, 137, 138, 139, 140, 141, 142, 143, 144, 145, 146, 147, 148, 149, 150, 151, 226, 227, 228, 229, 230, 152, 153, 154, 155, 156, 982, 983, 984, 985] (by decide +kernel) (by decide +kernel)
set_option maxRecDepth 20000 in
theorem gL_law_J4_append_bf812 : GoodIn wsL_law (wsV RL 60 RJ4 yJ4_append_bf812 wsJ4_append_bf812) := goodIn_app (goodIn_of _ (by decide +kernel)) ggL_law_J4_append_bf812
set_option maxRecDepth 20000 in
theorem ggL_law_J4_toString_0e30d : GoodIn wsL_law wsJ4_toString_0e30d := goodIn_r _ [234, 235, 236, 145, 237, 238, 239, 240, 241, 242, 243, 27, 28, 167, 161, 166, 244, 245, 246, 247, 248, 59, 249, 64, 250, 251, 252, 253, 254, 5, 255, 256, 80, 257, 258, 83, 259, 129, 130, 131, 132, 62, 65, 260, 261, 113, 262, 115, 116, 117, 118, 119, 120, 263, 264, 265, 63, 121, 122, 11, 123, 124, 125, 126, 127, 266, 267, 268, 269, 270, 68, 271, 272, 273, 274, 191, 192, 193, 140, 141, 142, 194, 195, 196, 147, 197, 198, 150, 199, 275, 276, 277, 136, 155, 156, 70, 71, 72, 73, 278, 279, 280, 281, 997, 998, 999, 1000, 982, 983, 984, 985] (by decide +kernel) (by decide +kernel)
set_option maxRecDepth 20000 in
theorem gL_law_J4_toString_0e30d : GoodIn wsL_law (wsV RL 67 RJ4 yJ4_toString_0e30d wsJ4_toString_0e30d) := goodIn_app (goodIn_of _ (by decide +kernel)) ggL_law_J4_toString_0e30d
set_option maxRecDepth 20000 in
theorem ggL_law_J4_init_a7421 : GoodIn wsL_law wsJ4_init_a7421 := goodIn_r _ [284, 285, 286, 59, 287, 61, 27, 28, 288, 99, 65, 63, 64, 157, 158, 159, 145, 160, 161, 162, 163, 164, 165, 166, 167, 178, 66, 67, 68, 69, 70, 71, 72, 73, 289, 79, 290, 291, 292, 5, 293, 294, 75, 76, 77, 78, 80, 81, 82, 83, 84, 85, 86, 87, 88, 89, 90, 91, 92, 93, 94, 95, 96, 97, 98, 100, 101, 102, 103, 104, 105, 11, 106, 107, 108, 109, 110, 111, 112, 113, 114, 115, 116, 117, 118, 119, 120, 121, 122, 123, 124, 125, 126, 127, 128, 129, 130, 131, 132, 62, 133, 134, 135, 136, 137, 138, 139, 140, 141, 142, 143, 144, 146, 147, 148, 149, 150, 151, 152, 153, 154, 155, 156, 168, 169, 170, 171, 172, 173, 174, 175, 176, 177, 179, 180, 181, 182, 183, 184, 185, 186, 187, 188, 189, 190, 191, 192, 193, 194, 195, 196, 197, 198, 199, 200, 201, 202, 203, 204, 205, 982, 983, 984, 985, 997, 998, 999, 1000] (by decide +kernel) (by decide +kernel)
set_option maxRecDepth 20000 in
theorem gL_law_J4_init_a7421 : GoodIn wsL_law (wsJ4_init_a7421) := ggL_law_J4_init_a7421
set_option maxRecDepth 20000 in
theorem ggL_law_X7_init : GoodIn wsL_law wsX7_init := goodIn_r _ [297, 298, 27, 28, 299, 986, 987] (by decide +kernel) (by decide +kernel)
set_option maxRecDepth 20000 in
theorem gL_law_X7_init : GoodIn wsL_law (wsX7_init) := ggL_law_X7_init
set_option maxRecDepth 20000 in
theorem ggL_law_Jx4a65c_add_9ea2d : GoodIn wsL_law wsJx4a65c_add_9ea2d := goodIn_r _ [303, 304, 305, 39, 306, 307, 308, 309, 31, 310, 311, 312, 313, 314, 315, 316, 317, 318, 38, 319, 105, 11, 106, 320, 321, 101, 102, 103, 104, 107, 108, 109, 110, 322, 323, 113, 324, 325, 326, 327, 328, 329, 330, 331, 332, 333, 121, 122, 123, 124, 125, 126, 127, 994, 995, 996] (by decide +kernel) (by decide +kernel)
set_option maxRecDepth 20000 in
theorem gL_law_Jx4a65c_add_9ea2d_f83Jx4a65c : GoodIn wsL_law (va_wsF RL 83 RJx4a65c ⟨"java/util/List", "add", "(Ljava/lang/Object;)Z"⟩ yJx4a65c_add_9ea2d wsJx4a65c_add_9ea2d) := goodIn_app (goodIn_of _ (by decide +kernel)) ggL_law_Jx4a65c_add_9ea2d
set_option maxRecDepth 20000 in
theorem ggL_law_X5_build : GoodIn wsL_law wsX5_build := goodIn_r _ [337, 32, 338, 339, 340, 341, 342, 31, 343, 306, 344, 345, 346, 2, 347, 34, 348, 349, 350, 351, 352, 353, 354, 355, 356, 357, 358, 359, 360, 361, 362, 150, 363, 364, 365, 366, 367, 39, 368, 369, 370, 371, 372, 373, 374, 375, 376, 377, 378, 379, 27, 28, 380, 381, 305, 382, 383, 384, 385, 386, 387, 388, 389, 390, 391, 392, 393, 394, 395, 396, 973, 974, 975, 976, 977, 978, 979, 980, 981, 986, 987, 994, 995, 996, 1001, 1002, 1003, 1004] (by decide +kernel) (by decide +kernel)
set_option maxRecDepth 20000 in
theorem gL_law_X5_build : GoodIn wsL_law (wsV RL 96 RX5 yX5_build wsX5_build) := goodIn_app (goodIn_of _ (by decide +kernel)) ggL_law_X5_build
set_option maxRecDepth 20000 in
theorem ggL_law_X4_init : GoodIn wsL_law wsX4_init := goodIn_r _ [399, 400, 27, 28, 401, 402, 403, 404, 405, 406, 407, 408, 409, 410, 411, 412, 413, 414, 415, 416, 417, 418, 419, 420, 421, 422, 423, 424, 425, 426, 427, 428, 429, 430, 431, 432, 433, 434, 435, 436, 437, 438, 439, 440, 441, 442, 443, 444, 445, 446, 447, 448, 449, 450, 451, 452, 453, 454, 455, 456, 457, 458, 459, 460, 461, 462, 463, 464, 465, 466, 467, 468, 469, 470, 471, 472, 473, 474, 475, 476, 477, 478, 479, 122, 11, 123, 480, 15, 481, 482, 105, 106, 483, 484, 485, 486, 487, 488, 489, 490, 1005, 1006, 1007, 1008, 1009, 1010, 1011, 1012, 1013, 1014, 1015, 988, 989, 990, 991, 1016, 1017, 1018, 1019, 1020, 1021, 1022, 1023, 1024, 1025, 1026, 1027, 1028, 1029, 1030, 1031, 1032] (by decide +kernel) (by decide +kernel)
set_option maxRecDepth 20000 in
theorem gL_law_X4_init : GoodIn wsL_law (wsX4_init) := ggL_law_X4_init
set_option maxRecDepth 20000 in
theorem ggL_law_J4_append_cf468 : GoodIn wsL_law wsJ4_append_cf468 := goodIn_r _ [494, 495, 496, 80, 497, 59, 498, 83, 64, 89, 90, 91, 92, 93, 65, 94, 95, 96, 97, 98, 99, 100, 101, 102, 103, 104, 105, 11, 106, 107, 108, 109, 110, 111, 112, 113, 114, 115, 116, 117, 118, 119, 120, 63, 121, 122, 123, 124, 125, 126, 127, 128, 129, 130, 131, 132, 62, 499, 500, 186, 501, 179, 180, 181, 182, 183, 66, 67, 68, 69, 70, 71, 72, 73, 184, 185, 187, 188, 189, 190, 191, 192, 193, 140, 141, 142, 194, 195, 145, 196, 147, 197, 198, 150, 199, 152, 153, 154, 136, 155, 156, 502, 503, 504, 505, 506, 507, 508, 509, 510, 511, 362, 363, 982, 983, 984, 985] (by decide +kernel) (by decide +kernel)
set_option maxRecDepth 20000 in
theorem gL_law_J4_append_cf468 : GoodIn wsL_law (wsV RL 100 RJ4 yJ4_append_cf468 wsJ4_append_cf468) := goodIn_app (goodIn_of _ (by decide +kernel)) ggL_law_J4_append_cf468
set_option maxRecDepth 20000 in
theorem ggL_law_L_read : GoodIn wsL_law wsL_read := goodIn_ca (goodIn_r _ [514, 515, 516, 22, 517, 418, 518, 158, 159, 145, 160, 161, 162, 163, 164, 165, 166, 167, 519, 520, 521, 522, 523, 524, 525, 526, 527, 528, 186, 529, 530, 509, 510, 147, 511, 362, 150, 363, 531, 532, 68, 533, 505, 506, 507, 140, 141, 142, 508, 275, 276, 277, 136, 155, 156, 534, 535, 536, 15, 537, 412, 538, 539, 540, 541, 411, 542, 543, 442, 544, 545, 546, 547, 548, 549, 550, 413, 551, 408, 404, 552, 553, 554, 555, 556, 557, 558, 559, 560, 444, 561, 562, 563, 564, 565, 566, 567, 568, 569, 570, 571, 572, 573, 574, 575, 576, 577, 578, 579, 580, 581, 582, 583, 584, 585, 586, 587, 588, 589, 590, 591, 592, 593, 594, 122, 11, 123, 595, 596, 597, 598, 447, 448, 403, 449, 450, 451, 452, 453, 454, 455, 456, 457, 424, 458, 599, 600, 601, 602, 603, 604, 605, 606, 607, 608, 609, 610, 611, 612, 613, 614, 615, 616, 617, 618, 619, 460, 461, 462, 463, 464, 465, 466, 419, 620, 621, 622, 623, 624, 468, 469, 470, 471, 472, 473, 474, 420, 475, 476, 477, 478, 479, 480, 481, 482, 105, 106, 483, 484, 485, 486, 487, 488, 489, 490, 625, 626, 627, 628, 629, 630, 631, 632, 633, 634, 635, 636, 637, 638, 639, 640, 641, 642, 643, 644, 645, 646, 647, 648, 649, 650, 651, 652, 653, 654, 655, 656, 657, 658, 659, 660, 661, 662, 663, 664, 665, 666, 667, 668, 669, 670, 671, 672, 673, 674, 675, 676, 677, 678, 679, 680, 681, 682, 683, 684, 685, 686, 687, 688, 689, 690, 691, 692, 693, 423, 694, 695, 696, 697, 698, 699, 429, 430, 700, 701, 702, 703, 704, 705, 706, 707, 708, 709, 710, 711, 712, 713, 714, 715, 716, 717, 718, 719, 720, 721, 722, 723, 724, 725, 726, 727, 728, 729, 730, 407, 731, 732, 733, 734, 735, 736, 737, 738, 436, 739, 740, 741, 742, 743, 125, 126, 127, 744, 745, 746, 747, 748, 749, 750, 997, 998, 999, 1000, 988, 989, 990, 991, 1019, 1020, 1021, 1022, 1023, 1024, 1025, 1026, 1027, 1028, 1029, 1005, 1006, 1007, 1008, 1009, 1010, 1011, 1012, 1013, 1014, 1015, 1030, 1031, 1032, 1016, 1017, 1018] (by decide +kernel) (by decide +kernel)) (goodIn_sub (fun _ h => List.mem_append_left _ (List.mem_append_left _ (List.mem_append_left _ (List.mem_append_right _ h)))) (by decide +kernel))
set_option maxRecDepth 20000 in
theorem gL_law_L_read : GoodIn wsL_law (va_wsS RL 103 yL_read wsL_read) := goodIn_app (goodIn_of _ (by decide +kernel)) ggL_law_L_read
set_option maxRecDepth 20000 in
theorem ggL_law_X5_isSo : GoodIn wsL_law wsX5_isSo := goodIn_ca (goodIn_ca (goodIn_ca (goodIn_r _ [754, 32, 338, 34, 33, 755, 756, 348, 757, 339, 340, 341, 342, 31, 343, 306, 758, 759, 760, 15, 761, 404, 762, 763, 764, 765, 766, 767, 768, 769, 770, 403, 771, 450, 772, 649, 650, 651, 419, 353, 354, 355, 356, 357, 358, 359, 360, 361, 362, 150, 363, 364, 365, 366, 367, 39, 773, 774, 775, 776, 777, 684, 685, 686, 453, 671, 672, 778, 779, 780, 781, 782, 783, 784, 785, 786, 787, 788, 789, 790, 791, 792, 105, 11, 106, 793, 484, 485, 486, 420, 794, 795, 796, 2, 797, 798, 799, 800, 801, 802, 803, 804, 805, 806, 807, 808, 809, 810, 811, 812, 709, 710, 423, 711, 429, 813, 713, 714, 715, 430, 814, 815, 816, 817, 548, 549, 818, 819, 820, 821, 822, 823, 824, 825, 826, 827, 828, 829, 676, 677, 678, 830, 831, 832, 833, 834, 653, 654, 655, 656, 657, 658, 835, 836, 837, 838, 368, 369, 370, 371, 372, 373, 374, 375, 376, 377, 378, 379, 27, 28, 380, 381, 305, 382, 383, 384, 385, 386, 387, 388, 389, 390, 391, 392, 393, 394, 395, 396, 973, 974, 975, 976, 977, 978, 979, 980, 981, 986, 987, 992, 993, 994, 995, 996, 988, 989, 990, 991, 1005, 1006, 1007, 1008, 1009, 1010, 1011, 1012, 1013, 1014, 1015, 1030, 1031, 1032, 1001, 1002, 1003, 1004] (by decide +kernel) (by decide +kernel)) (goodIn_sub (fun _ h => List.mem_append_left _ (List.mem_append_left _ (List.mem_append_right _ h))) (by decide +kernel))) (goodIn_sub (fun _ h => List.mem_append_left _ (List.mem_append_right _ h)) (by decide +kernel))) (goodIn_sub (fun _ h => List.mem_append_left _ (List.mem_append_left _ (List.mem_append_left _ (List.mem_append_right _ h)))) (by decide +kernel))
set_option maxRecDepth 20000 in
theorem gL_law_X5_isSo : GoodIn wsL_law (wsV RL 106 RX5 yX5_isSo wsX5_isSo) := goodIn_app (goodIn_of _ (by decide +kernel)) ggL_law_X5_isSo
set_option maxRecDepth 20000 in
theorem ggL_law_Jx4a65c_size_8abf5 : GoodIn wsL_law wsJx4a65c_size_8abf5 := goodIn_r _ [343, 306, 994, 995, 996] (by decide +kernel) (by decide +kernel)
set_option maxRecDepth 20000 in
theorem gL_law_Jx4a65c_size_8abf5_f110Jx4a65c : GoodIn wsL_law (va_wsF RL 110 RJx4a65c ⟨"java/util/List", "size", "()I"⟩ yJx4a65c_size_8abf5 wsJx4a65c_size_8abf5) := goodIn_app (goodIn_of _ (by decide +kernel)) ggL_law_Jx4a65c_size_8abf5
set_option maxRecDepth 20000 in
theorem ggL_law_X4_set : GoodIn wsL_law wsX4_set := goodIn_ca (goodIn_ca (goodIn_r _ [843, 408, 404, 762, 763, 764, 15, 765, 766, 767, 768, 769, 770, 403, 771, 450, 844, 845, 846, 847, 548, 549, 728, 729, 730, 407, 731, 732, 733, 734, 122, 11, 123, 735, 736, 737, 738, 436, 739, 740, 741, 742, 419, 479, 743, 125, 126, 127, 420, 424, 451, 452, 453, 454, 455, 456, 457, 744, 745, 746, 423, 747, 429, 748, 749, 430, 695, 848, 645, 646, 647, 648, 649, 650, 651, 463, 464, 465, 466, 471, 472, 473, 474, 475, 476, 477, 478, 480, 481, 482, 105, 106, 483, 484, 485, 486, 487, 488, 489, 490, 652, 653, 654, 655, 656, 657, 658, 659, 468, 469, 470, 988, 989, 990, 991, 1005, 1006, 1007, 1008, 1009, 1010, 1011, 1012, 1013, 1014, 1015, 1016, 1017, 1018, 1030, 1031, 1032] (by decide +kernel) (by decide +kernel)) (goodIn_sub (fun _ h => List.mem_append_left _ (List.mem_append_left _ (List.mem_append_right _ h))) (by decide +kernel))) (goodIn_sub (fun _ h => List.mem_append_left _ (List.mem_append_left _ (List.mem_append_left _ (List.mem_append_right _ h)))) (by decide +kernel))
set_option maxRecDepth 20000 in
theorem gL_law_X4_set : GoodIn wsL_law (wsV RL 113 RX4 yX4_set wsX4_set) := goodIn_app (goodIn_of _ (by decide +kernel)) ggL_law_X4_set
set_option maxRecDepth 20000 in
theorem ggL_law_X5_set : GoodIn wsL_law wsX5_set := goodIn_r _ [852, 32, 338, 853, 854, 105, 11, 106, 855, 353, 354, 355, 31, 356, 306, 357, 358, 359, 360, 361, 362, 150, 363, 364, 365, 366, 367, 39, 340, 341, 342, 343, 344, 345, 346, 2, 347, 34, 348, 349, 350, 351, 352, 835, 836, 837, 838, 368, 369, 370, 371, 372, 373, 374, 375, 376, 377, 378, 379, 27, 28, 380, 381, 305, 382, 383, 384, 385, 386, 387, 388, 389, 390, 391, 392, 393, 394, 395, 396, 856, 335, 336, 337, 339, 973, 974, 975, 976, 977, 978, 979, 980, 981, 986, 987, 994, 995, 996, 1001, 1002, 1003, 1004] (by decide +kernel) (by decide +kernel)
set_option maxRecDepth 20000 in
theorem gL_law_X5_set : GoodIn wsL_law (wsV RL 116 RX5 yX5_set wsX5_set) := goodIn_app (goodIn_of _ (by decide +kernel)) ggL_law_X5_set
set_option maxRecDepth 20000 in
theorem ggL_law_X4_ask : GoodIn wsL_law wsX4_ask := goodIn_ca (goodIn_ca (goodIn_r _ [860, 408, 404, 861, 862, 863, 15, 864, 548, 549, 762, 763, 764, 765, 766, 767, 768, 769, 770, 403, 771, 450, 728, 729, 730, 407, 731, 732, 733, 734, 122, 11, 123, 735, 736, 737, 738, 436, 739, 740, 741, 742, 419, 479, 743, 125, 126, 127, 420, 424, 451, 452, 453, 454, 455, 456, 457, 744, 745, 746, 423, 747, 429, 748, 749, 430, 695, 865, 661, 662, 663, 664, 665, 666, 667, 659, 468, 469, 470, 471, 472, 473, 474, 475, 476, 477, 478, 480, 481, 482, 105, 106, 483, 484, 485, 486, 487, 488, 489, 490, 668, 669, 670, 671, 672, 673, 674, 675, 676, 677, 678, 679, 680, 681, 682, 683, 684, 685, 686, 687, 688, 689, 690, 988, 989, 990, 991, 1005, 1006, 1007, 1008, 1009, 1010, 1011, 1012, 1013, 1014, 1015, 1016, 1017, 1018, 1030, 1031, 1032] (by decide +kernel) (by decide +kernel)) (goodIn_sub (fun _ h => List.mem_append_left _ (List.mem_append_left _ (List.mem_append_left _ (List.mem_append_right _ h)))) (by decide +kernel))) (goodIn_sub (fun _ h => List.mem_append_left _ (List.mem_append_left _ (List.mem_append_right _ h))) (by decide +kernel))
set_option maxRecDepth 20000 in
theorem gL_law_X4_ask : GoodIn wsL_law (wsV RL 117 RX4 yX4_ask wsX4_ask) := goodIn_app (goodIn_of _ (by decide +kernel)) ggL_law_X4_ask
set_option maxRecDepth 20000 in
theorem ggL_law_X5_ask : GoodIn wsL_law wsX5_ask := goodIn_r _ [869, 853, 757, 32, 338, 34, 756, 835, 836, 837, 2, 838, 368, 369, 370, 31, 371, 372, 373, 374, 375, 376, 377, 378, 379, 27, 28, 380, 381, 305, 382, 383, 384, 385, 386, 387, 388, 389, 390, 391, 392, 393, 394, 395, 396, 856, 335, 336, 337, 339, 340, 341, 342, 343, 306, 344, 345, 346, 347, 348, 349, 350, 351, 352, 353, 354, 355, 356, 357, 358, 359, 360, 361, 362, 150, 363, 364, 365, 366, 367, 39, 794, 795, 796, 797, 973, 974, 975, 976, 977, 978, 979, 980, 981, 986, 987, 1001, 1002, 1003, 1004, 994, 995, 996] (by decide +kernel) (by decide +kernel)
set_option maxRecDepth 20000 in
theorem gL_law_X5_ask : GoodIn wsL_law (wsV RL 120 RX5 yX5_ask wsX5_ask) := goodIn_app (goodIn_of _ (by decide +kernel)) ggL_law_X5_ask
set_option maxRecDepth 20000 in
theorem ggL_law_Jx4a65c_get_915e3 : GoodIn wsL_law wsJx4a65c_get_915e3 := goodIn_r _ [356, 306, 357, 358, 359, 360, 361, 362, 150, 363, 364, 365, 366, 31, 367, 39, 994, 995, 996] (by decide +kernel) (by decide +kernel)
set_option maxRecDepth 20000 in
theorem gL_law_Jx4a65c_get_915e3_f126Jx4a65c : GoodIn wsL_law (va_wsF RL 126 RJx4a65c ⟨"java/util/List", "get", "(I)Ljava/lang/Object;"⟩ yJx4a65c_get_915e3 wsJx4a65c_get_915e3) := goodIn_app (goodIn_of _ (by decide +kernel)) ggL_law_Jx4a65c_get_915e3
set_option maxRecDepth 20000 in
theorem ggL_law_X6_init : GoodIn wsL_law wsX6_init := goodIn_r _ [873, 874, 27, 28, 875, 876, 992, 993] (by decide +kernel) (by decide +kernel)
set_option maxRecDepth 20000 in
theorem gL_law_X6_init : GoodIn wsL_law (wsX6_init) := ggL_law_X6_init
set_option maxRecDepth 20000 in
theorem ggL_law_X4_keep : GoodIn wsL_law wsX4_keep := goodIn_ca (goodIn_ca (goodIn_ca (goodIn_r _ [880, 881, 882, 404, 806, 807, 408, 861, 862, 863, 15, 864, 548, 549, 762, 763, 764, 765, 766, 767, 768, 769, 770, 403, 771, 450, 728, 729, 730, 407, 731, 732, 733, 734, 122, 11, 123, 735, 736, 737, 738, 436, 739, 740, 741, 742, 419, 479, 743, 125, 126, 127, 420, 424, 451, 452, 453, 454, 455, 456, 457, 744, 745, 746, 423, 747, 429, 748, 749, 430, 695, 883, 692, 693, 694, 696, 697, 698, 699, 988, 989, 990, 991, 1005, 1006, 1007, 1008, 1009, 1010, 1011, 1012, 1013, 1014, 1015, 1030, 1031, 1032, 1016, 1017, 1018] (by decide +kernel) (by decide +kernel)) (goodIn_sub (fun _ h => List.mem_append_right _ h) (by decide +kernel))) (goodIn_sub (fun _ h => List.mem_append_left _ (List.mem_append_left _ (List.mem_append_left _ (List.mem_append_right _ h)))) (by decide +kernel))) (goodIn_sub (fun _ h => List.mem_append_left _ (List.mem_append_left _ (List.mem_append_right _ h))) (by decide +kernel))
set_option maxRecDepth 20000 in
theorem gL_law_X4_keep : GoodIn wsL_law (wsV RL 133 RX4 yX4_keep wsX4_keep) := goodIn_app (goodIn_of _ (by decide +kernel)) ggL_law_X4_keep
set_option maxRecDepth 20000 in
theorem ggL_law_X4_put : GoodIn wsL_law wsX4_put := goodIn_ca (goodIn_ca (goodIn_ca (goodIn_r _ [887, 881, 882, 404, 822, 408, 762, 763, 764, 15, 765, 766, 767, 768, 769, 770, 403, 771, 450, 844, 845, 846, 847, 548, 549, 728, 729, 730, 407, 731, 732, 733, 734, 122, 11, 123, 735, 736, 737, 738, 436, 739, 740, 741, 742, 419, 479, 743, 125, 126, 127, 420, 424, 451, 452, 453, 454, 455, 456, 457, 744, 745, 746, 423, 747, 429, 748, 749, 430, 695, 888, 701, 702, 703, 648, 649, 650, 651, 463, 464, 465, 466, 704, 705, 706, 707, 708, 709, 710, 711, 712, 713, 714, 715, 696, 697, 698, 699, 659, 468, 469, 470, 471, 472, 473, 474, 475, 476, 477, 478, 480, 481, 482, 105, 106, 483, 484, 485, 486, 487, 488, 489, 490, 988, 989, 990, 991, 1005, 1006, 1007, 1008, 1009, 1010, 1011, 1012, 1013, 1014, 1015, 1016, 1017, 1018, 1030, 1031, 1032] (by decide +kernel) (by decide +kernel)) (goodIn_sub (fun _ h => List.mem_append_right _ h) (by decide +kernel))) (goodIn_sub (fun _ h => List.mem_append_left _ (List.mem_append_left _ (List.mem_append_right _ h))) (by decide +kernel))) (goodIn_sub (fun _ h => List.mem_append_left _ (List.mem_append_left _ (List.mem_append_left _ (List.mem_append_right _ h)))) (by decide +kernel))
set_option maxRecDepth 20000 in
theorem gL_law_X4_put : GoodIn wsL_law (wsV RL 136 RX4 yX4_put wsX4_put) := goodIn_app (goodIn_of _ (by decide +kernel)) ggL_law_X4_put
set_option maxRecDepth 20000 in
theorem ggL_law_X5_put : GoodIn wsL_law wsX5_put := goodIn_r _ [892, 893, 7, 8, 32, 894, 296, 297, 298, 27, 28, 299, 895, 896, 897, 31, 898, 304, 305, 306, 39, 899, 125, 126, 127, 900, 901, 902, 903, 311, 312, 313, 314, 315, 316, 317, 318, 38, 319, 105, 11, 106, 320, 321, 101, 102, 103, 104, 107, 108, 109, 110, 322, 323, 113, 324, 325, 326, 327, 328, 329, 330, 331, 332, 333, 121, 122, 123, 124, 856, 335, 336, 2, 337, 338, 339, 340, 341, 342, 343, 344, 345, 346, 347, 34, 348, 349, 350, 351, 352, 353, 354, 355, 356, 357, 358, 359, 360, 361, 362, 150, 363, 364, 365, 366, 367, 368, 369, 370, 371, 372, 373, 374, 375, 376, 377, 378, 379, 380, 381, 382, 383, 384, 385, 386, 387, 388, 389, 390, 391, 392, 393, 394, 395, 396, 986, 987, 973, 974, 975, 976, 977, 978, 979, 980, 981, 994, 995, 996, 1001, 1002, 1003, 1004] (by decide +kernel) (by decide +kernel)
set_option maxRecDepth 20000 in
theorem gL_law_X5_put : GoodIn wsL_law (wsV RL 139 RX5 yX5_put wsX5_put) := goodIn_app (goodIn_of _ (by decide +kernel)) ggL_law_X5_put
set_option maxRecDepth 20000 in
theorem ggL_law_X4_take : GoodIn wsL_law wsX4_take := goodIn_ca (goodIn_ca (goodIn_r _ [907, 881, 882, 404, 822, 408, 762, 763, 764, 15, 765, 766, 767, 768, 769, 770, 403, 771, 450, 728, 729, 730, 407, 731, 732, 733, 734, 122, 11, 123, 735, 736, 737, 738, 436, 739, 740, 741, 742, 419, 479, 743, 125, 126, 127, 420, 424, 451, 452, 453, 454, 455, 456, 457, 744, 745, 746, 423, 747, 429, 748, 749, 430, 695, 908, 717, 718, 719, 648, 649, 650, 651, 463, 464, 465, 466, 720, 721, 722, 723, 708, 709, 710, 711, 712, 713, 714, 715, 724, 725, 726, 727, 696, 697, 698, 699, 659, 468, 469, 470, 471, 472, 473, 474, 475, 476, 477, 478, 480, 481, 482, 105, 106, 483, 484, 485, 486, 487, 488, 489, 490, 988, 989, 990, 991, 1005, 1006, 1007, 1008, 1009, 1010, 1011, 1012, 1013, 1014, 1015, 1016, 1017, 1018, 1030, 1031, 1032] (by decide +kernel) (by decide +kernel)) (goodIn_sub (fun _ h => List.mem_append_right _ h) (by decide +kernel))) (goodIn_sub (fun _ h => List.mem_append_left _ (List.mem_append_left _ (List.mem_append_right _ h))) (by decide +kernel))
set_option maxRecDepth 20000 in
theorem gL_law_X4_take : GoodIn wsL_law (wsV RL 140 RX4 yX4_take wsX4_take) := goodIn_app (goodIn_of _ (by decide +kernel)) ggL_law_X4_take
set_option maxRecDepth 20000 in
theorem ggL_law_X5_take : GoodIn wsL_law wsX5_take := goodIn_r _ [912, 32, 338, 29, 30, 31, 33, 755, 353, 354, 355, 356, 306, 357, 358, 359, 360, 361, 362, 150, 363, 364, 365, 366, 367, 39, 35, 36, 37, 38, 40, 41, 42, 43, 44, 45, 46, 47, 48, 49, 27, 28, 368, 369, 370, 371, 372, 373, 374, 375, 376, 377, 378, 379, 380, 381, 305, 382, 383, 384, 385, 386, 387, 388, 389, 390, 391, 392, 393, 394, 395, 396, 913, 301, 302, 303, 304, 307, 308, 309, 310, 311, 312, 313, 314, 315, 316, 317, 318, 319, 105, 11, 106, 320, 321, 101, 102, 103, 104, 107, 108, 109, 110, 322, 323, 113, 324, 325, 326, 327, 328, 329, 330, 331, 332, 333, 121, 122, 123, 124, 125, 126, 127, 914, 915, 916, 917, 918, 919, 920, 921, 922, 923, 924, 925, 899, 856, 335, 336, 2, 337, 339, 340, 341, 342, 343, 344, 345, 346, 347, 34, 348, 349, 350, 351, 352, 973, 974, 975, 976, 977, 978, 979, 980, 981, 994, 995, 996, 992, 993, 986, 987, 1001, 1002, 1003, 1004] (by decide +kernel) (by decide +kernel)
set_option maxRecDepth 20000 in
theorem gL_law_X5_take : GoodIn wsL_law (wsV RL 143 RX5 yX5_take wsX5_take) := goodIn_app (goodIn_of _ (by decide +kernel)) ggL_law_X5_take
set_option maxRecDepth 20000 in
theorem ggL_law_X4_sweep : GoodIn wsL_law wsX4_sweep := goodIn_ca (goodIn_r _ [929, 548, 549, 408, 404, 728, 729, 730, 407, 731, 732, 733, 734, 122, 11, 123, 735, 736, 737, 738, 436, 739, 740, 741, 403, 742, 419, 479, 743, 125, 126, 127, 420, 424, 450, 451, 452, 453, 454, 455, 456, 457, 744, 745, 746, 423, 747, 429, 748, 749, 430, 695, 930, 931, 932, 933, 458, 934, 709, 710, 711, 935, 713, 714, 715, 936, 661, 662, 663, 664, 665, 666, 667, 659, 468, 469, 470, 471, 472, 473, 474, 475, 476, 477, 478, 480, 15, 481, 482, 105, 106, 483, 484, 485, 486, 487, 488, 489, 490, 668, 669, 670, 671, 672, 673, 674, 675, 676, 677, 678, 679, 680, 681, 682, 683, 684, 685, 686, 687, 688, 689, 690, 648, 649, 650, 651, 937, 725, 726, 727, 708, 712, 696, 697, 698, 699, 988, 989, 990, 991, 1016, 1017, 1018, 1005, 1006, 1007, 1008, 1009, 1010, 1011, 1012, 1013, 1014, 1015, 1030, 1031, 1032] (by decide +kernel) (by decide +kernel)) (goodIn_sub (fun _ h => List.mem_append_left _ (List.mem_append_left _ (List.mem_append_left _ (List.mem_append_right _ h)))) (by decide +kernel))
set_option maxRecDepth 20000 in
theorem gL_law_X4_sweep : GoodIn wsL_law (wsV RL 144 RX4 yX4_sweep wsX4_sweep) := goodIn_app (goodIn_of _ (by decide +kernel)) ggL_law_X4_sweep
set_option maxRecDepth 20000 in
theorem ggL_law_X5_sweep : GoodIn wsL_law wsX5_sweep := goodIn_r _ [941, 29, 30, 31, 33, 755, 32, 338, 35, 36, 37, 38, 39, 40, 41, 42, 43, 44, 45, 46, 47, 48, 49, 27, 28, 368, 369, 370, 371, 372, 373, 374, 375, 376, 377, 378, 379, 380, 381, 305, 382, 383, 384, 385, 386, 387, 388, 389, 390, 391, 392, 393, 394, 395, 396, 794, 795, 796, 2, 797, 340, 341, 342, 343, 306, 353, 354, 355, 356, 357, 358, 359, 360, 361, 362, 150, 363, 364, 365, 366, 367, 942, 867, 868, 869, 853, 757, 34, 756, 835, 836, 837, 838, 856, 335, 336, 337, 339, 344, 345, 346, 347, 348, 349, 350, 351, 352, 913, 301, 302, 303, 304, 307, 308, 309, 310, 311, 312, 313, 314, 315, 316, 317, 318, 319, 105, 11, 106, 320, 321, 101, 102, 103, 104, 107, 108, 109, 110, 322, 323, 113, 324, 325, 326, 327, 328, 329, 330, 331, 332, 333, 121, 122, 123, 124, 125, 126, 127, 914, 915, 916, 917, 994, 995, 996, 973, 974, 975, 976, 977, 978, 979, 980, 981, 992, 993, 986, 987, 1001, 1002, 1003, 1004] (by decide +kernel) (by decide +kernel)
set_option maxRecDepth 20000 in
theorem gL_law_X5_sweep : GoodIn wsL_law (wsV RL 147 RX5 yX5_sweep wsX5_sweep) := goodIn_app (goodIn_of _ (by decide +kernel)) ggL_law_X5_sweep
set_option maxRecDepth 20000 in
theorem ggL_law_X4_rule : GoodIn wsL_law wsX4_rule := goodIn_ca (goodIn_r _ [946, 548, 549, 408, 404, 728, 729, 730, 407, 731, 732, 733, 734, 122, 11, 123, 735, 736, 737, 738, 436, 739, 740, 741, 403, 742, 419, 479, 743, 125, 126, 127, 420, 424, 450, 451, 452, 453, 454, 455, 456, 457, 744, 745, 746, 423, 747, 429, 748, 749, 430, 695, 947, 948, 949, 950, 659, 468, 469, 470, 471, 472, 473, 474, 475, 476, 477, 478, 480, 15, 481, 482, 105, 106, 483, 484, 485, 486, 487, 488, 489, 490, 951, 952, 953, 954, 988, 989, 990, 991, 1016, 1017, 1018, 1005, 1006, 1007, 1008, 1009, 1010, 1011, 1012, 1013, 1014, 1015, 1030, 1031, 1032] (by decide +kernel) (by decide +kernel)) (goodIn_sub (fun _ h => List.mem_append_left _ (List.mem_append_left _ (List.mem_append_left _ (List.mem_append_right _ h)))) (by decide +kernel))
set_option maxRecDepth 20000 in
theorem gL_law_X4_rule : GoodIn wsL_law (wsV RL 148 RX4 yX4_rule wsX4_rule) := goodIn_app (goodIn_of _ (by decide +kernel)) ggL_law_X4_rule
set_option maxRecDepth 20000 in
theorem ggL_law_X4_gap : GoodIn wsL_law wsX4_gap := goodIn_r _ [958, 404, 806, 807, 959, 789, 790, 403, 791, 450, 792, 105, 11, 106, 960, 961, 962, 963, 453, 483, 484, 485, 486, 420, 964, 965, 966, 967, 487, 488, 489, 490, 419, 479, 122, 123, 812, 709, 710, 423, 711, 429, 813, 713, 714, 715, 430, 968, 969, 970, 971, 972, 769, 770, 771, 988, 989, 990, 991, 1005, 1006, 1007, 1008, 1009, 1010, 1011, 1012, 1013, 1014, 1015, 1030, 1031, 1032] (by decide +kernel) (by decide +kernel)
set_option maxRecDepth 20000 in
theorem gL_law_X4_gap : GoodIn wsL_law (wsV RL 150 RX4 yX4_gap wsX4_gap) := goodIn_app (goodIn_of _ (by decide +kernel)) ggL_law_X4_gap
theorem dL_law_0 : decode cL_law 0 = .ok (.aload_n 0, 1) := by decide +kernel
theorem dL_law_1 : decode cL_law 1 = .ok (.iconst 0, 1) := by decide +kernel
theorem dL_law_2 : decode cL_law 2 = .ok (.invokestatic 34, 3) := by decide +kernel
theorem dL_law_5 : decode cL_law 5 = .ok (.istore_n 1, 1) := by decide +kernel
theorem dL_law_6 : decode cL_law 6 = .ok (.new 38, 3) := by decide +kernel
theorem dL_law_9 : decode cL_law 9 = .ok (.dup, 1) := by decide +kernel
theorem dL_law_10 : decode cL_law 10 = .ok (.invokespecial 40, 3) := by decide +kernel
theorem dL_law_13 : decode cL_law 13 = .ok (.astore_n 2, 1) := by decide +kernel
theorem dL_law_14 : decode cL_law 14 = .ok (.aload_n 2, 1) := by decide +kernel
theorem dL_law_15 : decode cL_law 15 = .ok (.iload_n 1, 1) := by decide +kernel
theorem dL_law_16 : decode cL_law 16 = .ok (.iconst 3, 1) := by decide +kernel
theorem dL_law_17 : decode cL_law 17 = .ok (.invokestatic 41, 3) := by decide +kernel
theorem dL_law_20 : decode cL_law 20 = .ok (.putfield 45, 3) := by decide +kernel
theorem dL_law_23 : decode cL_law 23 = .ok (.aload_n 2, 1) := by decide +kernel
theorem dL_law_24 : decode cL_law 24 = .ok (.iconst 1, 1) := by decide +kernel
theorem dL_law_25 : decode cL_law 25 = .ok (.iload_n 1, 1) := by decide +kernel
theorem dL_law_26 : decode cL_law 26 = .ok (.iconst 2, 1) := by decide +kernel
theorem dL_law_27 : decode cL_law 27 = .ok (.ishr, 1) := by decide +kernel
theorem dL_law_28 : decode cL_law 28 = .ok (.bipush 8, 2) := by decide +kernel
theorem dL_law_30 : decode cL_law 30 = .ok (.invokestatic 41, 3) := by decide +kernel
theorem dL_law_33 : decode cL_law 33 = .ok (.iadd, 1) := by decide +kernel
theorem dL_law_34 : decode cL_law 34 = .ok (.putfield 49, 3) := by decide +kernel
theorem dL_law_37 : decode cL_law 37 = .ok (.iconst 1, 1) := by decide +kernel
theorem dL_law_38 : decode cL_law 38 = .ok (.iload_n 1, 1) := by decide +kernel
theorem dL_law_39 : decode cL_law 39 = .ok (.iconst 5, 1) := by decide +kernel
theorem dL_law_40 : decode cL_law 40 = .ok (.ishr, 1) := by decide +kernel
theorem dL_law_41 : decode cL_law 41 = .ok (.bipush 18, 2) := by decide +kernel
theorem dL_law_43 : decode cL_law 43 = .ok (.invokestatic 41, 3) := by decide +kernel
theorem dL_law_46 : decode cL_law 46 = .ok (.iadd, 1) := by decide +kernel
theorem dL_law_47 : decode cL_law 47 = .ok (.istore_n 3, 1) := by decide +kernel
theorem dL_law_48 : decode cL_law 48 = .ok (.new 52, 3) := by decide +kernel
theorem dL_law_51 : decode cL_law 51 = .ok (.dup, 1) := by decide +kernel
theorem dL_law_52 : decode cL_law 52 = .ok (.new 52, 3) := by decide +kernel
theorem dL_law_55 : decode cL_law 55 = .ok (.dup, 1) := by decide +kernel
theorem dL_law_56 : decode cL_law 56 = .ok (.invokespecial 54, 3) := by decide +kernel
theorem dL_law_59 : decode cL_law 59 = .ok (.ldc 55, 2) := by decide +kernel
theorem dL_law_61 : decode cL_law 61 = .ok (.invokevirtual 57, 3) := by decide +kernel
theorem dL_law_64 : decode cL_law 64 = .ok (.aload_n 2, 1) := by decide +kernel
theorem dL_law_65 : decode cL_law 65 = .ok (.getfield 45, 3) := by decide +kernel
theorem dL_law_68 : decode cL_law 68 = .ok (.invokevirtual 60, 3) := by decide +kernel
theorem dL_law_71 : decode cL_law 71 = .ok (.ldc 63, 2) := by decide +kernel
theorem dL_law_73 : decode cL_law 73 = .ok (.invokevirtual 57, 3) := by decide +kernel
theorem dL_law_76 : decode cL_law 76 = .ok (.aload_n 2, 1) := by decide +kernel
theorem dL_law_77 : decode cL_law 77 = .ok (.getfield 49, 3) := by decide +kernel
theorem dL_law_80 : decode cL_law 80 = .ok (.invokevirtual 60, 3) := by decide +kernel
theorem dL_law_83 : decode cL_law 83 = .ok (.ldc 65, 2) := by decide +kernel
theorem dL_law_85 : decode cL_law 85 = .ok (.invokevirtual 57, 3) := by decide +kernel
theorem dL_law_88 : decode cL_law 88 = .ok (.invokevirtual 67, 3) := by decide +kernel
theorem dL_law_91 : decode cL_law 91 = .ok (.invokespecial 71, 3) := by decide +kernel
theorem dL_law_94 : decode cL_law 94 = .ok (.astore 4, 2) := by decide +kernel
theorem dL_law_96 : decode cL_law 96 = .ok (.iconst 0, 1) := by decide +kernel
theorem dL_law_97 : decode cL_law 97 = .ok (.istore 5, 2) := by decide +kernel
theorem dL_law_99 : decode cL_law 99 = .ok (.iload 5, 2) := by decide +kernel
theorem dL_law_101 : decode cL_law 101 = .ok (.iload_n 3, 1) := by decide +kernel
theorem dL_law_102 : decode cL_law 102 = .ok (.if_icmp .ge 72, 3) := by decide +kernel
theorem dL_law_105 : decode cL_law 105 = .ok (.aload_n 0, 1) := by decide +kernel
theorem dL_law_106 : decode cL_law 106 = .ok (.iconst 1, 1) := by decide +kernel
theorem dL_law_107 : decode cL_law 107 = .ok (.iload 5, 2) := by decide +kernel
theorem dL_law_109 : decode cL_law 109 = .ok (.iadd, 1) := by decide +kernel
theorem dL_law_110 : decode cL_law 110 = .ok (.invokestatic 34, 3) := by decide +kernel
theorem dL_law_113 : decode cL_law 113 = .ok (.bipush 41, 2) := by decide +kernel
theorem dL_law_115 : decode cL_law 115 = .ok (.invokestatic 41, 3) := by decide +kernel
theorem dL_law_118 : decode cL_law 118 = .ok (.bipush 20, 2) := by decide +kernel
theorem dL_law_120 : decode cL_law 120 = .ok (.isub, 1) := by decide +kernel
theorem dL_law_121 : decode cL_law 121 = .ok (.istore 6, 2) := by decide +kernel
theorem dL_law_123 : decode cL_law 123 = .ok (.aload_n 2, 1) := by decide +kernel
theorem dL_law_124 : decode cL_law 124 = .ok (.getfield 74, 3) := by decide +kernel
theorem dL_law_127 : decode cL_law 127 = .ok (.new 78, 3) := by decide +kernel
theorem dL_law_130 : decode cL_law 130 = .ok (.dup, 1) := by decide +kernel
theorem dL_law_131 : decode cL_law 131 = .ok (.iload 6, 2) := by decide +kernel
theorem dL_law_133 : decode cL_law 133 = .ok (.invokespecial 80, 3) := by decide +kernel
theorem dL_law_136 : decode cL_law 136 = .ok (.invokeinterface 83 2, 5) := by decide +kernel
theorem dL_law_141 : decode cL_law 141 = .ok (.pop, 1) := by decide +kernel
theorem dL_law_142 : decode cL_law 142 = .ok (.aload 4, 2) := by decide +kernel
theorem dL_law_144 : decode cL_law 144 = .ok (.iload 6, 2) := by decide +kernel
theorem dL_law_146 : decode cL_law 146 = .ok (.ifCond .ge 8, 3) := by decide +kernel
theorem dL_law_149 : decode cL_law 149 = .ok (.ldc 89, 2) := by decide +kernel
theorem dL_law_151 : decode cL_law 151 = .ok (.goto 5, 3) := by decide +kernel
theorem dL_law_154 : decode cL_law 154 = .ok (.ldc 63, 2) := by decide +kernel
theorem dL_law_156 : decode cL_law 156 = .ok (.invokevirtual 57, 3) := by decide +kernel
theorem dL_law_159 : decode cL_law 159 = .ok (.iload 6, 2) := by decide +kernel
theorem dL_law_161 : decode cL_law 161 = .ok (.invokestatic 91, 3) := by decide +kernel
theorem dL_law_164 : decode cL_law 164 = .ok (.invokevirtual 60, 3) := by decide +kernel
theorem dL_law_167 : decode cL_law 167 = .ok (.pop, 1) := by decide +kernel
theorem dL_law_168 : decode cL_law 168 = .ok (.iinc 5 1, 3) := by decide +kernel
theorem dL_law_171 : decode cL_law 171 = .ok (.goto (-72), 3) := by decide +kernel
theorem dL_law_174 : decode cL_law 174 = .ok (.aload_n 2, 1) := by decide +kernel
theorem dL_law_175 : decode cL_law 175 = .ok (.invokevirtual 96, 3) := by decide +kernel
theorem dL_law_178 : decode cL_law 178 = .ok (.new 19, 3) := by decide +kernel
theorem dL_law_181 : decode cL_law 181 = .ok (.dup, 1) := by decide +kernel
theorem dL_law_182 : decode cL_law 182 = .ok (.invokespecial 99, 3) := by decide +kernel
theorem dL_law_185 : decode cL_law 185 = .ok (.astore 5, 2) := by decide +kernel
theorem dL_law_187 : decode cL_law 187 = .ok (.aload 5, 2) := by decide +kernel
theorem dL_law_189 : decode cL_law 189 = .ok (.aload 4, 2) := by decide +kernel
theorem dL_law_191 : decode cL_law 191 = .ok (.bipush 59, 2) := by decide +kernel
theorem dL_law_193 : decode cL_law 193 = .ok (.invokevirtual 100, 3) := by decide +kernel
theorem dL_law_196 : decode cL_law 196 = .ok (.invokevirtual 67, 3) := by decide +kernel
theorem dL_law_199 : decode cL_law 199 = .ok (.invokestatic 103, 3) := by decide +kernel
theorem dL_law_202 : decode cL_law 202 = .ok (.iload_n 3, 1) := by decide +kernel
theorem dL_law_203 : decode cL_law 203 = .ok (.if_icmp .ne 12, 3) := by decide +kernel
theorem dL_law_206 : decode cL_law 206 = .ok (.aload_n 2, 1) := by decide +kernel
theorem dL_law_207 : decode cL_law 207 = .ok (.aload 5, 2) := by decide +kernel
theorem dL_law_209 : decode cL_law 209 = .ok (.invokevirtual 106, 3) := by decide +kernel
theorem dL_law_212 : decode cL_law 212 = .ok (.ifCond .ne 5, 3) := by decide +kernel
theorem dL_law_215 : decode cL_law 215 = .ok (.iconst 0, 1) := by decide +kernel
theorem dL_law_216 : decode cL_law 216 = .ok (.ireturn, 1) := by decide +kernel
theorem dL_law_217 : decode cL_law 217 = .ok (.iconst 0, 1) := by decide +kernel
theorem dL_law_218 : decode cL_law 218 = .ok (.istore 6, 2) := by decide +kernel
theorem dL_law_220 : decode cL_law 220 = .ok (.iload 6, 2) := by decide +kernel
theorem dL_law_222 : decode cL_law 222 = .ok (.bipush 34, 2) := by decide +kernel
theorem dL_law_224 : decode cL_law 224 = .ok (.if_icmp .ge 450, 3) := by decide +kernel
theorem dL_law_227 : decode cL_law 227 = .ok (.aload_n 0, 1) := by decide +kernel
theorem dL_law_228 : decode cL_law 228 = .ok (.bipush 19, 2) := by decide +kernel
theorem dL_law_230 : decode cL_law 230 = .ok (.iload 6, 2) := by decide +kernel
theorem dL_law_232 : decode cL_law 232 = .ok (.iadd, 1) := by decide +kernel
theorem dL_law_233 : decode cL_law 233 = .ok (.invokestatic 34, 3) := by decide +kernel
theorem dL_law_236 : decode cL_law 236 = .ok (.istore 7, 2) := by decide +kernel
theorem dL_law_238 : decode cL_law 238 = .ok (.aload_n 2, 1) := by decide +kernel
theorem dL_law_239 : decode cL_law 239 = .ok (.getfield 74, 3) := by decide +kernel
theorem dL_law_242 : decode cL_law 242 = .ok (.invokeinterface 110 1, 5) := by decide +kernel
theorem dL_law_247 : decode cL_law 247 = .ok (.istore 8, 2) := by decide +kernel
theorem dL_law_249 : decode cL_law 249 = .ok (.iload 7, 2) := by decide +kernel
theorem dL_law_251 : decode cL_law 251 = .ok (.iconst 4, 1) := by decide +kernel
theorem dL_law_252 : decode cL_law 252 = .ok (.ishr, 1) := by decide +kernel
theorem dL_law_253 : decode cL_law 253 = .ok (.iload 8, 2) := by decide +kernel
theorem dL_law_255 : decode cL_law 255 = .ok (.invokestatic 41, 3) := by decide +kernel
theorem dL_law_258 : decode cL_law 258 = .ok (.istore 9, 2) := by decide +kernel
theorem dL_law_260 : decode cL_law 260 = .ok (.iload 9, 2) := by decide +kernel
theorem dL_law_262 : decode cL_law 262 = .ok (.iload 7, 2) := by decide +kernel
theorem dL_law_264 : decode cL_law 264 = .ok (.bipush 10, 2) := by decide +kernel
theorem dL_law_266 : decode cL_law 266 = .ok (.ishr, 1) := by decide +kernel
theorem dL_law_267 : decode cL_law 267 = .ok (.iload 8, 2) := by decide +kernel
theorem dL_law_269 : decode cL_law 269 = .ok (.iload 9, 2) := by decide +kernel
theorem dL_law_271 : decode cL_law 271 = .ok (.isub, 1) := by decide +kernel
theorem dL_law_272 : decode cL_law 272 = .ok (.invokestatic 41, 3) := by decide +kernel
theorem dL_law_275 : decode cL_law 275 = .ok (.iadd, 1) := by decide +kernel
theorem dL_law_276 : decode cL_law 276 = .ok (.istore 10, 2) := by decide +kernel
theorem dL_law_278 : decode cL_law 278 = .ok (.iload 7, 2) := by decide +kernel
theorem dL_law_280 : decode cL_law 280 = .ok (.bipush 16, 2) := by decide +kernel
theorem dL_law_282 : decode cL_law 282 = .ok (.ishr, 1) := by decide +kernel
theorem dL_law_283 : decode cL_law 283 = .ok (.bipush 41, 2) := by decide +kernel
theorem dL_law_285 : decode cL_law 285 = .ok (.invokestatic 41, 3) := by decide +kernel
theorem dL_law_288 : decode cL_law 288 = .ok (.bipush 20, 2) := by decide +kernel
theorem dL_law_290 : decode cL_law 290 = .ok (.isub, 1) := by decide +kernel
theorem dL_law_291 : decode cL_law 291 = .ok (.istore 11, 2) := by decide +kernel
theorem dL_law_293 : decode cL_law 293 = .ok (.iload 7, 2) := by decide +kernel
theorem dL_law_295 : decode cL_law 295 = .ok (.bipush 15, 2) := by decide +kernel
theorem dL_law_297 : decode cL_law 297 = .ok (.invokestatic 41, 3) := by decide +kernel
theorem dL_law_300 : decode cL_law 300 = .ok (.tableswitch 318 0 13 #[72, 72, 72, 72, 94, 94, 94, 94, 116, 116, 201, 233, 260, 278], 72) := by decide +kernel
theorem dL_law_372 : decode cL_law 372 = .ok (.aload 5, 2) := by decide +kernel
theorem dL_law_374 : decode cL_law 374 = .ok (.iload 9, 2) := by decide +kernel
theorem dL_law_376 : decode cL_law 376 = .ok (.iload 11, 2) := by decide +kernel
theorem dL_law_378 : decode cL_law 378 = .ok (.invokevirtual 113, 3) := by decide +kernel
theorem dL_law_381 : decode cL_law 381 = .ok (.aload_n 2, 1) := by decide +kernel
theorem dL_law_382 : decode cL_law 382 = .ok (.iload 9, 2) := by decide +kernel
theorem dL_law_384 : decode cL_law 384 = .ok (.iload 11, 2) := by decide +kernel
theorem dL_law_386 : decode cL_law 386 = .ok (.invokevirtual 116, 3) := by decide +kernel
theorem dL_law_389 : decode cL_law 389 = .ok (.if_icmp .eq 268, 3) := by decide +kernel
theorem dL_law_392 : decode cL_law 392 = .ok (.iconst 0, 1) := by decide +kernel
theorem dL_law_393 : decode cL_law 393 = .ok (.ireturn, 1) := by decide +kernel
theorem dL_law_394 : decode cL_law 394 = .ok (.aload 5, 2) := by decide +kernel
theorem dL_law_396 : decode cL_law 396 = .ok (.iload 9, 2) := by decide +kernel
theorem dL_law_398 : decode cL_law 398 = .ok (.iload 10, 2) := by decide +kernel
theorem dL_law_400 : decode cL_law 400 = .ok (.invokevirtual 117, 3) := by decide +kernel
theorem dL_law_403 : decode cL_law 403 = .ok (.aload_n 2, 1) := by decide +kernel
theorem dL_law_404 : decode cL_law 404 = .ok (.iload 9, 2) := by decide +kernel
theorem dL_law_406 : decode cL_law 406 = .ok (.iload 10, 2) := by decide +kernel
theorem dL_law_408 : decode cL_law 408 = .ok (.invokevirtual 120, 3) := by decide +kernel
theorem dL_law_411 : decode cL_law 411 = .ok (.if_icmp .eq 246, 3) := by decide +kernel
theorem dL_law_414 : decode cL_law 414 = .ok (.iconst 0, 1) := by decide +kernel
theorem dL_law_415 : decode cL_law 415 = .ok (.ireturn, 1) := by decide +kernel
theorem dL_law_416 : decode cL_law 416 = .ok (.aload_n 2, 1) := by decide +kernel
theorem dL_law_417 : decode cL_law 417 = .ok (.getfield 121, 3) := by decide +kernel
theorem dL_law_420 : decode cL_law 420 = .ok (.invokeinterface 110 1, 5) := by decide +kernel
theorem dL_law_425 : decode cL_law 425 = .ok (.bipush 8, 2) := by decide +kernel
theorem dL_law_427 : decode cL_law 427 = .ok (.if_icmp .ne 6, 3) := by decide +kernel
theorem dL_law_430 : decode cL_law 430 = .ok (.goto 238, 3) := by decide +kernel
theorem dL_law_433 : decode cL_law 433 = .ok (.aload_n 2, 1) := by decide +kernel
theorem dL_law_434 : decode cL_law 434 = .ok (.getfield 121, 3) := by decide +kernel
theorem dL_law_437 : decode cL_law 437 = .ok (.new 124, 3) := by decide +kernel
theorem dL_law_440 : decode cL_law 440 = .ok (.dup, 1) := by decide +kernel
theorem dL_law_441 : decode cL_law 441 = .ok (.aload_n 2, 1) := by decide +kernel
theorem dL_law_442 : decode cL_law 442 = .ok (.getfield 74, 3) := by decide +kernel
theorem dL_law_445 : decode cL_law 445 = .ok (.iload 9, 2) := by decide +kernel
theorem dL_law_447 : decode cL_law 447 = .ok (.invokeinterface 126 2, 5) := by decide +kernel
theorem dL_law_452 : decode cL_law 452 = .ok (.checkcast 78, 3) := by decide +kernel
theorem dL_law_455 : decode cL_law 455 = .ok (.aload_n 2, 1) := by decide +kernel
theorem dL_law_456 : decode cL_law 456 = .ok (.getfield 74, 3) := by decide +kernel
theorem dL_law_459 : decode cL_law 459 = .ok (.iload 10, 2) := by decide +kernel
theorem dL_law_461 : decode cL_law 461 = .ok (.invokeinterface 126 2, 5) := by decide +kernel
theorem dL_law_466 : decode cL_law 466 = .ok (.checkcast 78, 3) := by decide +kernel
theorem dL_law_469 : decode cL_law 469 = .ok (.invokespecial 130, 3) := by decide +kernel
theorem dL_law_472 : decode cL_law 472 = .ok (.invokeinterface 83 2, 5) := by decide +kernel
theorem dL_law_477 : decode cL_law 477 = .ok (.pop, 1) := by decide +kernel
theorem dL_law_478 : decode cL_law 478 = .ok (.aload 5, 2) := by decide +kernel
theorem dL_law_480 : decode cL_law 480 = .ok (.iload 9, 2) := by decide +kernel
theorem dL_law_482 : decode cL_law 482 = .ok (.iload 10, 2) := by decide +kernel
theorem dL_law_484 : decode cL_law 484 = .ok (.invokevirtual 133, 3) := by decide +kernel
theorem dL_law_487 : decode cL_law 487 = .ok (.aload_n 2, 1) := by decide +kernel
theorem dL_law_488 : decode cL_law 488 = .ok (.getfield 121, 3) := by decide +kernel
theorem dL_law_491 : decode cL_law 491 = .ok (.invokeinterface 110 1, 5) := by decide +kernel
theorem dL_law_496 : decode cL_law 496 = .ok (.if_icmp .eq 161, 3) := by decide +kernel
theorem dL_law_499 : decode cL_law 499 = .ok (.iconst 0, 1) := by decide +kernel
theorem dL_law_500 : decode cL_law 500 = .ok (.ireturn, 1) := by decide +kernel
theorem dL_law_501 : decode cL_law 501 = .ok (.iload 8, 2) := by decide +kernel
theorem dL_law_503 : decode cL_law 503 = .ok (.bipush 40, 2) := by decide +kernel
theorem dL_law_505 : decode cL_law 505 = .ok (.if_icmp .ne 6, 3) := by decide +kernel
theorem dL_law_508 : decode cL_law 508 = .ok (.goto 160, 3) := by decide +kernel
theorem dL_law_511 : decode cL_law 511 = .ok (.aload 5, 2) := by decide +kernel
theorem dL_law_513 : decode cL_law 513 = .ok (.iload 9, 2) := by decide +kernel
theorem dL_law_515 : decode cL_law 515 = .ok (.iload 11, 2) := by decide +kernel
theorem dL_law_517 : decode cL_law 517 = .ok (.invokevirtual 136, 3) := by decide +kernel
theorem dL_law_520 : decode cL_law 520 = .ok (.aload_n 2, 1) := by decide +kernel
theorem dL_law_521 : decode cL_law 521 = .ok (.iload 9, 2) := by decide +kernel
theorem dL_law_523 : decode cL_law 523 = .ok (.iload 11, 2) := by decide +kernel
theorem dL_law_525 : decode cL_law 525 = .ok (.invokevirtual 139, 3) := by decide +kernel
theorem dL_law_528 : decode cL_law 528 = .ok (.if_icmp .eq 129, 3) := by decide +kernel
theorem dL_law_531 : decode cL_law 531 = .ok (.iconst 0, 1) := by decide +kernel
theorem dL_law_532 : decode cL_law 532 = .ok (.ireturn, 1) := by decide +kernel
theorem dL_law_533 : decode cL_law 533 = .ok (.iload 8, 2) := by decide +kernel
theorem dL_law_535 : decode cL_law 535 = .ok (.iconst 1, 1) := by decide +kernel
theorem dL_law_536 : decode cL_law 536 = .ok (.if_icmp .ne 6, 3) := by decide +kernel
theorem dL_law_539 : decode cL_law 539 = .ok (.goto 129, 3) := by decide +kernel
theorem dL_law_542 : decode cL_law 542 = .ok (.aload 5, 2) := by decide +kernel
theorem dL_law_544 : decode cL_law 544 = .ok (.iload 9, 2) := by decide +kernel
theorem dL_law_546 : decode cL_law 546 = .ok (.invokevirtual 140, 3) := by decide +kernel
theorem dL_law_549 : decode cL_law 549 = .ok (.aload_n 2, 1) := by decide +kernel
theorem dL_law_550 : decode cL_law 550 = .ok (.iload 9, 2) := by decide +kernel
theorem dL_law_552 : decode cL_law 552 = .ok (.invokevirtual 143, 3) := by decide +kernel
theorem dL_law_555 : decode cL_law 555 = .ok (.if_icmp .eq 102, 3) := by decide +kernel
theorem dL_law_558 : decode cL_law 558 = .ok (.iconst 0, 1) := by decide +kernel
theorem dL_law_559 : decode cL_law 559 = .ok (.ireturn, 1) := by decide +kernel
theorem dL_law_560 : decode cL_law 560 = .ok (.aload 5, 2) := by decide +kernel
theorem dL_law_562 : decode cL_law 562 = .ok (.iload 11, 2) := by decide +kernel
theorem dL_law_564 : decode cL_law 564 = .ok (.invokevirtual 144, 3) := by decide +kernel
theorem dL_law_567 : decode cL_law 567 = .ok (.aload_n 2, 1) := by decide +kernel
theorem dL_law_568 : decode cL_law 568 = .ok (.iload 11, 2) := by decide +kernel
theorem dL_law_570 : decode cL_law 570 = .ok (.invokevirtual 147, 3) := by decide +kernel
theorem dL_law_573 : decode cL_law 573 = .ok (.if_icmp .eq 84, 3) := by decide +kernel
theorem dL_law_576 : decode cL_law 576 = .ok (.iconst 0, 1) := by decide +kernel
theorem dL_law_577 : decode cL_law 577 = .ok (.ireturn, 1) := by decide +kernel
theorem dL_law_578 : decode cL_law 578 = .ok (.aload_n 2, 1) := by decide +kernel
theorem dL_law_579 : decode cL_law 579 = .ok (.getfield 45, 3) := by decide +kernel
theorem dL_law_582 : decode cL_law 582 = .ok (.istore 12, 2) := by decide +kernel
theorem dL_law_584 : decode cL_law 584 = .ok (.aload_n 2, 1) := by decide +kernel
theorem dL_law_585 : decode cL_law 585 = .ok (.iload 7, 2) := by decide +kernel
theorem dL_law_587 : decode cL_law 587 = .ok (.bipush 10, 2) := by decide +kernel
theorem dL_law_589 : decode cL_law 589 = .ok (.ishr, 1) := by decide +kernel
theorem dL_law_590 : decode cL_law 590 = .ok (.iconst 3, 1) := by decide +kernel
theorem dL_law_591 : decode cL_law 591 = .ok (.invokestatic 41, 3) := by decide +kernel
theorem dL_law_594 : decode cL_law 594 = .ok (.putfield 45, 3) := by decide +kernel
theorem dL_law_597 : decode cL_law 597 = .ok (.aload_n 2, 1) := by decide +kernel
theorem dL_law_598 : decode cL_law 598 = .ok (.invokevirtual 96, 3) := by decide +kernel
theorem dL_law_601 : decode cL_law 601 = .ok (.aload 5, 2) := by decide +kernel
theorem dL_law_603 : decode cL_law 603 = .ok (.iconst 1, 1) := by decide +kernel
theorem dL_law_604 : decode cL_law 604 = .ok (.aload_n 2, 1) := by decide +kernel
theorem dL_law_605 : decode cL_law 605 = .ok (.getfield 45, 3) := by decide +kernel
theorem dL_law_608 : decode cL_law 608 = .ok (.invokevirtual 148, 3) := by decide +kernel
theorem dL_law_611 : decode cL_law 611 = .ok (.iload 12, 2) := by decide +kernel
theorem dL_law_613 : decode cL_law 613 = .ok (.if_icmp .eq 44, 3) := by decide +kernel
theorem dL_law_616 : decode cL_law 616 = .ok (.iconst 0, 1) := by decide +kernel
theorem dL_law_617 : decode cL_law 617 = .ok (.ireturn, 1) := by decide +kernel
theorem dL_law_618 : decode cL_law 618 = .ok (.aload_n 2, 1) := by decide +kernel
theorem dL_law_619 : decode cL_law 619 = .ok (.getfield 49, 3) := by decide +kernel
theorem dL_law_622 : decode cL_law 622 = .ok (.istore 12, 2) := by decide +kernel
theorem dL_law_624 : decode cL_law 624 = .ok (.aload_n 2, 1) := by decide +kernel
theorem dL_law_625 : decode cL_law 625 = .ok (.iconst 1, 1) := by decide +kernel
theorem dL_law_626 : decode cL_law 626 = .ok (.iload 7, 2) := by decide +kernel
theorem dL_law_628 : decode cL_law 628 = .ok (.bipush 10, 2) := by decide +kernel
theorem dL_law_630 : decode cL_law 630 = .ok (.ishr, 1) := by decide +kernel
theorem dL_law_631 : decode cL_law 631 = .ok (.bipush 8, 2) := by decide +kernel
theorem dL_law_633 : decode cL_law 633 = .ok (.invokestatic 41, 3) := by decide +kernel
theorem dL_law_636 : decode cL_law 636 = .ok (.iadd, 1) := by decide +kernel
theorem dL_law_637 : decode cL_law 637 = .ok (.putfield 49, 3) := by decide +kernel
theorem dL_law_640 : decode cL_law 640 = .ok (.aload 5, 2) := by decide +kernel
theorem dL_law_642 : decode cL_law 642 = .ok (.iconst 2, 1) := by decide +kernel
theorem dL_law_643 : decode cL_law 643 = .ok (.aload_n 2, 1) := by decide +kernel
theorem dL_law_644 : decode cL_law 644 = .ok (.getfield 49, 3) := by decide +kernel
theorem dL_law_647 : decode cL_law 647 = .ok (.invokevirtual 148, 3) := by decide +kernel
theorem dL_law_650 : decode cL_law 650 = .ok (.iload 12, 2) := by decide +kernel
theorem dL_law_652 : decode cL_law 652 = .ok (.if_icmp .eq 5, 3) := by decide +kernel
theorem dL_law_655 : decode cL_law 655 = .ok (.iconst 0, 1) := by decide +kernel
theorem dL_law_656 : decode cL_law 656 = .ok (.ireturn, 1) := by decide +kernel
theorem dL_law_657 : decode cL_law 657 = .ok (.aload_n 2, 1) := by decide +kernel
theorem dL_law_658 : decode cL_law 658 = .ok (.aload 5, 2) := by decide +kernel
theorem dL_law_660 : decode cL_law 660 = .ok (.invokevirtual 106, 3) := by decide +kernel
theorem dL_law_663 : decode cL_law 663 = .ok (.ifCond .ne 5, 3) := by decide +kernel
theorem dL_law_666 : decode cL_law 666 = .ok (.iconst 0, 1) := by decide +kernel
theorem dL_law_667 : decode cL_law 667 = .ok (.ireturn, 1) := by decide +kernel
theorem dL_law_668 : decode cL_law 668 = .ok (.iinc 6 1, 3) := by decide +kernel
theorem dL_law_671 : decode cL_law 671 = .ok (.goto (-451), 3) := by decide +kernel
theorem dL_law_674 : decode cL_law 674 = .ok (.aload 5, 2) := by decide +kernel
theorem dL_law_676 : decode cL_law 676 = .ok (.invokevirtual 150, 3) := by decide +kernel
theorem dL_law_679 : decode cL_law 679 = .ok (.ifCond .ne 7, 3) := by decide +kernel
theorem dL_law_682 : decode cL_law 682 = .ok (.iconst 1, 1) := by decide +kernel
theorem dL_law_683 : decode cL_law 683 = .ok (.goto 4, 3) := by decide +kernel
theorem dL_law_686 : decode cL_law 686 = .ok (.iconst 0, 1) := by decide +kernel
theorem dL_law_687 : decode cL_law 687 = .ok (.ireturn, 1) := by decide +kernel
