set_option maxRecDepth 20000 in
theorem ggL_law_J4_append_bf812 : GoodIn wsL_law wsJ4_append_bf812 := goodIn_r _ [209, 210, 211, 80, 212, 59, 213, 83, 64, 214, 215, 216, 217, 89, 90, 91, 92, 93, 65, 94, 95, 96, 97, 98, 99, 100, 101, 102, 103, 104, 105, 11, 106, 107, 108, 109, 110, 111, 112, 113, 114, 115, 116, 117, 118, 119, 120, 63, 121, 122, 123, 124, 125, 126, 127, 128, 129, 130, 131, 132, 62, 218, 219, 220, 221, 222, 223, 224, 68, 225, 136, 137, 138, 139, 140, 141, 142, 143, 144, 145, 146, 147, 148, 149, 150, 151, 226, 227, 228, 229, 230, 152, 153, 154, 155, 156, 982, 983, 984, 985] (by decide +kernel) (by decide +kernel)
set_option maxRecDepth 20000 in
theorem gL_law_J4_append_bf812 : GoodIn wsL_law (wsV RL 60 RJ4 yJ4_append_bf812 wsJ4_append_bf812) := goodIn_app (goodIn_of _ (by decide +kernel)) ggL_law_J4_append_bf812
set_option maxRecDepth 20000 in
theorem ggL_law_J4_toString_0e30d : GoodIn wsL_law wsJ4_toString_0e30d := goodIn_r _ [234, 235, 236, 145, 237, 238, 239, 240, 241, 242, 243, 27, 28, 167, 161, 166, 244, 245, 246, 247, 248, 59, 249, 64, 250, 251, 252, 253, 254, 5, 255, 256, 80, 257, 258, 83, 259, 129, 130, 131, 132, 62, 65, 260, 261, 113, 262, 115, 116, 117, 118, 119, 120, 263, 264, 265, 63, 121, 122, 11, 123, 124, 125, 126, 127, 266, 267, 268, 269, 270, 68, 271, 272, 273, 274, 191, 192, 193, 140, 141, 142, 194, 195, 196, 147, 197, 198, 150, 199, 275, 276, 277, 136, 155, 156, 70, 71, 72, 73, 278, 279, 280, 281, 997, 998, 999, 1000, 982, 983, 984, 985] (by decide +kernel) (by decide +kernel)
set_option maxRecDepth 20000 in
theorem gL_law_J4_toString_0e30d : GoodIn wsL_law (wsV RL 67 RJ4 yJ4_toString_0e30d wsJ4_toString_0e30d) := goodIn_app (goodIn_of _ (by decide +kernel)) ggL_law_J4_toString_0e30d
set_option maxRecDepth 20000 in
theorem ggL_law_J4_init_a7421 : GoodIn wsL_law wsJ4_init_a7421 := goodIn_r _ [284, 285, 286, 59, 287, 61, 27, 28, 288, 99, 65, 63, 64, 157, 158, 159, 145, 160, 161, 162, 163, 164, 165, 166, 167, 178, 66, 67, 68, 69, 70, 71, 72, 73, 289, 79, 290, 291, 292, 5, 293, 294, 75, 76, 77, 78, 80, 81, 82, 83, 84, 85, 86, 87, 88, 89, 90, 91, 92, 93, 94, 95, 96, 97, 98, 100, 101, 102, 103, 104, 105, 11, 106, 107, 108, 109, 110, 111, 112, 113, 114, 115, 116, 117, 118, 119, 120, 121, 122, 123, 124, 125, 126, 127, 128, 129, 130, 131, 132, 62, 133, 134, 135, 136, 137, 138, 139, 140, 141, 142, 143, 144, 146, 147, 148, 149, 150, 151, 152, 153, 154, 155, 156, 168, 169, 170, 171, 172, 173, 174, 175, 176, 177, 179, 180, 181, 182, 183, 184, 185, 186, 187, 188, 189, 190, 191, 192, 193, 194, 195, 196, 197, 198, 199, 200, 201, 202, 203, 204, 205, 982, 983, 984, 985, 997, 998, 999, 1000] (by decide +kernel) (by decide +kernel)
set_option maxRecDepth 20000 in
theorem gL_law_J4_init_a7421 : GoodIn wsL_law (wsJ4_init_a7421) := ggL_law_J4_init_a7421
set_option maxRecDepth 20000 in
theorem ggL_law_X7_init : GoodIn wsL_law wsX7_init := goodIn_r _ [297, 298, 27, 28, 299, 986, 987] (by decide +kernel) (by decide +kernel)
set_option maxRecDepth 20000 in
theorem gL_law_X7_init : GoodIn wsL_law (wsX7_init) := ggL_law_X7_init
set_option maxRecDepth 20000 in
theorem ggL_law_Jx4a65c_add_9ea2d : GoodIn wsL_law wsJx4a65c_add_9ea2d := goodIn_r _ [303, 304, 305, 39, 306, 307, 308, 309, 31, 310, 311, 312, 313, 314, 315, 316, 317, 318, 38, 319, 105, 11, 106, 320, 321, 101, 102, 103, 104, 107, 108, 109, 110, 322, 323, 113, 324, 325, 326, 327, 328, 329, 330, 331, 332, 333, 121, 122, 123, 124, 125, 126, 127, 994, 995, 996] (by decide +kernel) (by decide +kernel)
set_option maxRecDepth 20000 in
theorem gL_law_Jx4a65c_add_9ea2d_f83Jx4a65c : GoodIn wsL_law (va_wsF RL 83 RJx4a65c ⟨"java/util/List", "add", "(Ljava/lang/Object;)Z"⟩ yJx4a65c_add_9ea2d wsJx4a65c_add_9ea2d) := goodIn_app (goodIn_of _ (by decide +kernel)) ggL_law_Jx4a65c_add_9ea2d
