set_option maxRecDepth 20000 in
theorem ggL_law_X4_init : GoodIn wsL_law wsX4_init := goodIn_r _ [9, 10, 11, 12, 13, 14, 15, 16, 17, 18, 19, 20, 21, 22, 23, 24, 25, 26, 27, 28, 29, 30, 31, 32, 33, 34, 35, 36, 37, 38, 39, 40, 41, 42, 43, 44, 45, 46, 47, 48, 49, 50, 51, 52, 53, 54, 55, 56, 57, 58, 59, 60, 61, 62, 63, 64, 65, 66, 67, 68, 69, 70, 71, 72, 73, 74, 75, 76, 77, 78, 79, 80, 81, 82, 83, 84, 85, 86, 87, 88, 89, 90, 91, 92, 93, 94, 95, 2, 96, 97, 98, 99, 100, 101, 102, 103, 104, 105, 106, 107, 1096, 1097, 1098, 1099, 1100, 1101, 1102, 1103, 1104, 1105, 1106, 1077, 1078, 1079, 1080, 1107, 1108, 1109, 1110, 1111, 1112, 1113, 1114, 1115, 1116, 1117, 1118, 1119, 1120, 1121, 1122, 1123] (by decide +kernel) (by decide +kernel)
set_option maxRecDepth 20000 in
theorem gL_law_X4_init : GoodIn wsL_law (wsX4_init) := ggL_law_X4_init
set_option maxRecDepth 20000 in
theorem ggL_law_X5_init : GoodIn wsL_law wsX5_init := goodIn_r _ [110, 111, 11, 12, 30, 112, 113, 114, 115, 116, 117, 118, 119, 120, 121, 5, 122, 123, 124, 125, 126, 127, 128, 129, 130, 131, 132, 98, 93, 99, 133, 134, 135, 136, 137, 138, 139, 140, 141, 142, 143, 144, 145, 146, 147, 148, 149, 150, 151, 152, 153, 154, 155, 156, 157, 158, 159, 1081, 1082, 1083, 1084, 1085, 1086, 1087, 1088, 1089, 1090, 1091, 1092, 1093, 1094, 1095] (by decide +kernel) (by decide +kernel)
set_option maxRecDepth 20000 in
theorem gL_law_X5_init : GoodIn wsL_law (wsX5_init) := ggL_law_X5_init
set_option maxRecDepth 20000 in
theorem ggL_law_X4_append : GoodIn wsL_law wsX4_append := goodIn_r _ [163, 24, 164, 165, 166, 167, 23, 168, 169, 54, 1077, 1078, 1079, 1080, 1110, 1111, 1112, 1113, 1114, 1115, 1116, 1117, 1118, 1119, 1120] (by decide +kernel) (by decide +kernel)
set_option maxRecDepth 20000 in
theorem gL_law_X4_append : GoodIn wsL_law (wsV RL 90 RX4 yX4_append wsX4_append) := goodIn_app (goodIn_of _ (by decide +kernel)) ggL_law_X4_append
set_option maxRecDepth 20000 in
theorem ggL_law_X5_append : GoodIn wsL_law wsX5_append := goodIn_r _ [173, 174, 175, 176, 177, 178, 5, 179, 115, 1081, 1082, 1083, 1084, 1085, 1086, 1087, 1088, 1089, 1090, 1091, 1092, 1093, 1094, 1095] (by decide +kernel) (by decide +kernel)
set_option maxRecDepth 20000 in
theorem gL_law_X5_append : GoodIn wsL_law (wsV RL 94 RX5 yX5_append wsX5_append) := goodIn_app (goodIn_of _ (by decide +kernel)) ggL_law_X5_append
set_option maxRecDepth 20000 in
theorem ggL_law_L_load : GoodIn wsL_law wsL_load := goodIn_ca (goodIn_r _ [183, 184, 185, 186, 187, 2, 188, 189, 190, 24, 164, 191, 25, 192, 20, 16, 193, 194, 195, 196, 23, 197, 198, 199, 200, 201, 56, 202, 203, 204, 205, 206, 207, 208, 209, 210, 54, 211, 212, 213, 214, 215, 216, 217, 218, 219, 220, 221, 222, 223, 224, 225, 226, 227, 228, 229, 230, 231, 232, 233, 234, 235, 236, 237, 238, 239, 240, 241, 242, 243, 244, 245, 246, 247, 248, 249, 250, 251, 252, 253, 254, 255, 256, 257, 258, 259, 260, 261, 262, 263, 264, 265, 266, 267, 268, 269, 270, 271, 272, 273, 274, 275, 276, 277, 278, 279, 280, 281, 282, 92, 93, 94, 283, 284, 285, 286, 59, 60, 15, 61, 62, 63, 64, 65, 66, 67, 68, 69, 36, 70, 287, 288, 289, 290, 291, 292, 293, 294, 295, 296, 297, 298, 299, 300, 301, 302, 303, 304, 305, 306, 307, 72, 73, 74, 75, 76, 77, 78, 31, 308, 309, 310, 311, 312, 80, 81, 82, 83, 84, 85, 86, 32, 87, 88, 89, 90, 91, 95, 96, 97, 98, 99, 100, 101, 102, 103, 104, 105, 106, 107, 313, 314, 315, 316, 317, 318, 319, 320, 321, 322, 323, 324, 325, 326, 327, 328, 329, 330, 331, 332, 333, 334, 335, 336, 337, 338, 339, 340, 341, 342, 343, 344, 345, 346, 347, 348, 349, 350, 351, 352, 353, 354, 355, 356, 357, 358, 359, 360, 361, 362, 363, 364, 365, 366, 367, 368, 369, 370, 371, 372, 373, 374, 375, 376, 377, 378, 379, 380, 381, 35, 382, 383, 384, 385, 386, 387, 41, 42, 388, 389, 390, 391, 392, 393, 394, 395, 396, 397, 398, 399, 400, 401, 402, 403, 404, 405, 406, 407, 408, 409, 410, 411, 412, 413, 414, 415, 416, 417, 418, 19, 419, 420, 421, 422, 423, 424, 425, 426, 48, 427, 428, 429, 430, 431, 432, 433, 434, 435, 436, 437, 438, 439, 440, 441, 1077, 1078, 1079, 1080, 1110, 1111, 1112, 1113, 1114, 1115, 1116, 1117, 1118, 1119, 1120, 1096, 1097, 1098, 1099, 1100, 1101, 1102, 1103, 1104, 1105, 1106, 1121, 1122, 1123, 1107, 1108, 1109] (by decide +kernel) (by decide +kernel)) (goodIn_sub (fun _ h => List.mem_append_left _ (List.mem_append_left _ (List.mem_append_left _ (List.mem_append_right _ h)))) (by decide +kernel))
set_option maxRecDepth 20000 in
theorem gL_law_L_load : GoodIn wsL_law (va_wsS RL 95 yL_load wsL_load) := goodIn_app (goodIn_of _ (by decide +kernel)) ggL_law_L_load
set_option maxRecDepth 20000 in
theorem ggL_law_X5_load : GoodIn wsL_law wsX5_load := goodIn_r _ [445, 174, 175, 446, 447, 448, 116, 113, 123, 112, 449, 450, 451, 5, 452, 453, 454, 455, 456, 137, 138, 139, 140, 457, 458, 459, 460, 461, 462, 463, 464, 465, 115, 466, 467, 468, 469, 470, 471, 472, 473, 222, 223, 224, 225, 226, 227, 228, 229, 230, 231, 232, 474, 234, 235, 236, 237, 238, 239, 240, 241, 242, 243, 244, 245, 246, 247, 248, 249, 250, 251, 252, 253, 254, 255, 256, 257, 258, 259, 260, 261, 262, 263, 264, 265, 266, 267, 268, 269, 475, 476, 477, 478, 119, 120, 121, 122, 479, 480, 481, 482, 483, 484, 485, 486, 487, 488, 489, 490, 491, 492, 493, 494, 495, 496, 497, 498, 499, 133, 134, 135, 136, 500, 501, 502, 503, 156, 157, 158, 159, 124, 125, 126, 127, 128, 129, 130, 131, 132, 98, 93, 99, 141, 142, 143, 144, 145, 146, 147, 148, 149, 150, 151, 152, 153, 154, 155, 504, 505, 506, 507, 508, 509, 510, 511, 512, 513, 514, 515, 516, 517, 518, 519, 520, 521, 522, 523, 524, 525, 526, 527, 528, 529, 530, 531, 532, 533, 534, 535, 536, 537, 538, 539, 540, 541, 542, 543, 544, 545, 546, 547, 548, 549, 550, 551, 552, 553, 554, 555, 556, 557, 558, 559, 560, 561, 562, 563, 564, 565, 566, 567, 568, 569, 570, 571, 572, 573, 574, 575, 576, 577, 578, 579, 580, 581, 582, 583, 584, 585, 586, 587, 588, 589, 590, 591, 592, 593, 594, 595, 1081, 1082, 1083, 1084, 1085, 1086, 1087, 1088, 1089, 1090, 1091, 1092, 1093, 1094, 1095] (by decide +kernel) (by decide +kernel)
set_option maxRecDepth 20000 in
theorem gL_law_X5_load : GoodIn wsL_law (wsV RL 100 RX5 yX5_load wsX5_load) := goodIn_app (goodIn_of _ (by decide +kernel)) ggL_law_X5_load
set_option maxRecDepth 20000 in
theorem ggL_law_X5_thrown : GoodIn wsL_law wsX5_thrown := goodIn_r _ [599, 174, 1081, 1082, 1083, 1084, 1085, 1086, 1087, 1088, 1089, 1090, 1091, 1092, 1093, 1094, 1095] (by decide +kernel) (by decide +kernel)
set_option maxRecDepth 20000 in
theorem gL_law_X5_thrown : GoodIn wsL_law (wsV RL 101 RX5 yX5_thrown wsX5_thrown) := goodIn_app (goodIn_of _ (by decide +kernel)) ggL_law_X5_thrown
set_option maxRecDepth 20000 in
theorem ggL_law_X4_errorOffset : GoodIn wsL_law wsX4_errorOffset := goodIn_r _ [603, 25, 1077, 1078, 1079, 1080] (by decide +kernel) (by decide +kernel)
set_option maxRecDepth 20000 in
theorem gL_law_X4_errorOffset : GoodIn wsL_law (wsV RL 105 RX4 yX4_errorOffset wsX4_errorOffset) := goodIn_app (goodIn_of _ (by decide +kernel)) ggL_law_X4_errorOffset
set_option maxRecDepth 20000 in
theorem ggL_law_X5_errorOffset : GoodIn wsL_law wsX5_errorOffset := goodIn_r _ [607, 174, 116, 1081, 1082, 1083, 1084, 1085, 1086, 1087, 1088, 1089, 1090, 1091, 1092, 1093, 1094, 1095] (by decide +kernel) (by decide +kernel)
set_option maxRecDepth 20000 in
theorem gL_law_X5_errorOffset : GoodIn wsL_law (wsV RL 108 RX5 yX5_errorOffset wsX5_errorOffset) := goodIn_app (goodIn_of _ (by decide +kernel)) ggL_law_X5_errorOffset
set_option maxRecDepth 20000 in
theorem ggL_law_L_state : GoodIn wsL_law wsL_state := goodIn_ca (goodIn_r _ [610, 184, 611, 612, 613, 2, 614, 189, 190, 615, 616, 617, 618, 16, 619, 620, 621, 622, 623, 624, 625, 626, 627, 628, 364, 365, 366, 629, 630, 631, 15, 632, 633, 634, 635, 636, 62, 637, 98, 93, 99, 638, 341, 342, 343, 344, 345, 346, 1077, 1078, 1079, 1080, 1096, 1097, 1098, 1099, 1100, 1101, 1102, 1103, 1104, 1105, 1106, 1121, 1122, 1123] (by decide +kernel) (by decide +kernel)) (goodIn_sub (fun _ h => List.mem_append_left _ (List.mem_append_left _ (List.mem_append_left _ (List.mem_append_right _ h)))) (by decide +kernel))
set_option maxRecDepth 20000 in
theorem gL_law_L_state : GoodIn wsL_law (va_wsS RL 109 yL_state wsL_state) := goodIn_app (goodIn_of _ (by decide +kernel)) ggL_law_L_state
set_option maxRecDepth 20000 in
theorem ggL_law_X5_state : GoodIn wsL_law wsX5_state := goodIn_r _ [642, 174, 450, 451, 5, 452, 453, 454, 455, 456, 643, 644, 645, 646, 647, 648, 649, 650, 128, 129, 130, 131, 132, 98, 93, 99, 133, 134, 135, 136, 137, 138, 139, 140, 112, 123, 651, 652, 653, 654, 524, 525, 526, 527, 1081, 1082, 1083, 1084, 1085, 1086, 1087, 1088, 1089, 1090, 1091, 1092, 1093, 1094, 1095] (by decide +kernel) (by decide +kernel)
set_option maxRecDepth 20000 in
theorem gL_law_X5_state : GoodIn wsL_law (wsV RL 111 RX5 yX5_state wsX5_state) := goodIn_app (goodIn_of _ (by decide +kernel)) ggL_law_X5_state
set_option maxRecDepth 20000 in
theorem ggL_law_L_value : GoodIn wsL_law wsL_value := goodIn_ca (goodIn_r _ [657, 658, 659, 660, 661, 2, 662, 16, 663, 664, 665, 666, 667, 668, 669, 670, 671, 15, 672, 62, 673, 337, 338, 339, 31, 1077, 1078, 1079, 1080, 1096, 1097, 1098, 1099, 1100, 1101, 1102, 1103, 1104, 1105, 1106] (by decide +kernel) (by decide +kernel)) (goodIn_sub (fun _ h => List.mem_append_left _ (List.mem_append_left _ (List.mem_append_right _ h))) (by decide +kernel))
set_option maxRecDepth 20000 in
theorem gL_law_L_value : GoodIn wsL_law (va_wsS RL 112 yL_value wsL_value) := goodIn_app (goodIn_of _ (by decide +kernel)) ggL_law_L_value
set_option maxRecDepth 20000 in
theorem ggL_law_X5_value : GoodIn wsL_law wsX5_value := goodIn_r _ [677, 174, 678, 679, 680, 5, 681, 133, 134, 135, 136, 137, 138, 139, 140, 112, 123, 450, 451, 452, 453, 454, 455, 456, 152, 153, 154, 155, 1081, 1082, 1083, 1084, 1085, 1086, 1087, 1088, 1089, 1090, 1091, 1092, 1093, 1094, 1095] (by decide +kernel) (by decide +kernel)
set_option maxRecDepth 20000 in
theorem gL_law_X5_value : GoodIn wsL_law (wsV RL 114 RX5 yX5_value wsX5_value) := goodIn_app (goodIn_of _ (by decide +kernel)) ggL_law_X5_value
set_option maxRecDepth 20000 in
theorem ggL_law_L_cell : GoodIn wsL_law wsL_cell := goodIn_ca (goodIn_ca (goodIn_r _ [684, 658, 685, 686, 687, 688, 2, 689, 690, 691, 16, 663, 664, 665, 666, 667, 668, 669, 670, 671, 15, 672, 62, 692, 693, 694, 695, 633, 634, 635, 636, 637, 98, 93, 99, 696, 101, 102, 103, 32, 1077, 1078, 1079, 1080, 1096, 1097, 1098, 1099, 1100, 1101, 1102, 1103, 1104, 1105, 1106] (by decide +kernel) (by decide +kernel)) (goodIn_sub (fun _ h => List.mem_append_left _ (List.mem_append_right _ h)) (by decide +kernel))) (goodIn_sub (fun _ h => List.mem_append_left _ (List.mem_append_left _ (List.mem_append_right _ h))) (by decide +kernel))
set_option maxRecDepth 20000 in
theorem gL_law_L_cell : GoodIn wsL_law (va_wsS RL 115 yL_cell wsL_cell) := goodIn_app (goodIn_of _ (by decide +kernel)) ggL_law_L_cell
set_option maxRecDepth 20000 in
theorem ggL_law_X5_cell : GoodIn wsL_law wsX5_cell := goodIn_r _ [700, 174, 678, 679, 680, 5, 681, 133, 134, 135, 136, 137, 138, 139, 140, 112, 123, 450, 451, 452, 453, 454, 455, 456, 128, 129, 130, 131, 132, 98, 93, 99, 552, 553, 554, 555, 145, 146, 147, 1081, 1082, 1083, 1084, 1085, 1086, 1087, 1088, 1089, 1090, 1091, 1092, 1093, 1094, 1095] (by decide +kernel) (by decide +kernel)
set_option maxRecDepth 20000 in
theorem gL_law_X5_cell : GoodIn wsL_law (wsV RL 118 RX5 yX5_cell wsX5_cell) := goodIn_app (goodIn_of _ (by decide +kernel)) ggL_law_X5_cell
set_option maxRecDepth 20000 in
theorem ggL_law_L_waits : GoodIn wsL_law wsL_waits := goodIn_ca (goodIn_r _ [703, 658, 704, 705, 706, 2, 707, 16, 663, 664, 665, 666, 667, 668, 669, 670, 671, 15, 672, 62, 708, 372, 373, 374, 65, 359, 360, 1077, 1078, 1079, 1080, 1096, 1097, 1098, 1099, 1100, 1101, 1102, 1103, 1104, 1105, 1106] (by decide +kernel) (by decide +kernel)) (goodIn_sub (fun _ h => List.mem_append_left _ (List.mem_append_left _ (List.mem_append_right _ h))) (by decide +kernel))
set_option maxRecDepth 20000 in
theorem gL_law_L_waits : GoodIn wsL_law (va_wsS RL 119 yL_waits wsL_waits) := goodIn_app (goodIn_of _ (by decide +kernel)) ggL_law_L_waits
set_option maxRecDepth 20000 in
theorem ggL_law_X5_waits : GoodIn wsL_law wsX5_waits := goodIn_r _ [712, 174, 678, 679, 680, 5, 681, 133, 134, 135, 136, 137, 138, 139, 140, 112, 123, 450, 451, 452, 453, 454, 455, 456, 540, 541, 542, 543, 1081, 1082, 1083, 1084, 1085, 1086, 1087, 1088, 1089, 1090, 1091, 1092, 1093, 1094, 1095] (by decide +kernel) (by decide +kernel)
set_option maxRecDepth 20000 in
theorem gL_law_X5_waits : GoodIn wsL_law (wsV RL 121 RX5 yX5_waits wsX5_waits) := goodIn_app (goodIn_of _ (by decide +kernel)) ggL_law_X5_waits
set_option maxRecDepth 20000 in
theorem ggL_law_L_least : GoodIn wsL_law wsL_least := goodIn_ca (goodIn_ca (goodIn_r _ [715, 658, 184, 716, 717, 718, 2, 719, 16, 720, 721, 722, 723, 189, 190, 663, 664, 665, 666, 667, 668, 669, 670, 671, 15, 672, 62, 724, 725, 726, 727, 104, 105, 106, 107, 31, 91, 92, 93, 94, 1077, 1078, 1079, 1080, 1096, 1097, 1098, 1099, 1100, 1101, 1102, 1103, 1104, 1105, 1106] (by decide +kernel) (by decide +kernel)) (goodIn_sub (fun _ h => List.mem_append_left _ (List.mem_append_left _ (List.mem_append_left _ (List.mem_append_right _ h)))) (by decide +kernel))) (goodIn_sub (fun _ h => List.mem_append_left _ (List.mem_append_left _ (List.mem_append_right _ h))) (by decide +kernel))
set_option maxRecDepth 20000 in
theorem gL_law_L_least : GoodIn wsL_law (va_wsS RL 122 yL_least wsL_least) := goodIn_app (goodIn_of _ (by decide +kernel)) ggL_law_L_least
set_option maxRecDepth 20000 in
theorem ggL_law_X5_least : GoodIn wsL_law wsX5_least := goodIn_r _ [731, 174, 732, 733, 734, 5, 735, 678, 679, 680, 681, 133, 134, 135, 136, 137, 138, 139, 140, 112, 123, 450, 451, 452, 453, 454, 455, 456, 148, 149, 150, 151, 152, 153, 154, 155, 1081, 1082, 1083, 1084, 1085, 1086, 1087, 1088, 1089, 1090, 1091, 1092, 1093, 1094, 1095] (by decide +kernel) (by decide +kernel)
set_option maxRecDepth 20000 in
theorem gL_law_X5_least : GoodIn wsL_law (wsV RL 124 RX5 yX5_least wsX5_least) := goodIn_app (goodIn_of _ (by decide +kernel)) ggL_law_X5_least
set_option maxRecDepth 20000 in
theorem ggL_law_L_looks : GoodIn wsL_law wsL_looks := goodIn_ca (goodIn_ca (goodIn_r _ [738, 658, 184, 739, 740, 741, 2, 742, 16, 720, 721, 722, 723, 189, 190, 663, 664, 665, 666, 667, 668, 669, 670, 671, 15, 672, 62, 743, 744, 745, 746, 63, 65, 747, 356, 357, 358, 359, 360, 361, 362, 363, 364, 365, 366, 1077, 1078, 1079, 1080, 1096, 1097, 1098, 1099, 1100, 1101, 1102, 1103, 1104, 1105, 1106] (by decide +kernel) (by decide +kernel)) (goodIn_sub (fun _ h => List.mem_append_left _ (List.mem_append_left _ (List.mem_append_left _ (List.mem_append_right _ h)))) (by decide +kernel))) (goodIn_sub (fun _ h => List.mem_append_left _ (List.mem_append_left _ (List.mem_append_right _ h))) (by decide +kernel))
set_option maxRecDepth 20000 in
theorem gL_law_L_looks : GoodIn wsL_law (va_wsS RL 125 yL_looks wsL_looks) := goodIn_app (goodIn_of _ (by decide +kernel)) ggL_law_L_looks
set_option maxRecDepth 20000 in
theorem ggL_law_X5_looks : GoodIn wsL_law wsX5_looks := goodIn_r _ [751, 174, 732, 733, 734, 5, 735, 678, 679, 680, 681, 133, 134, 135, 136, 137, 138, 139, 140, 112, 123, 450, 451, 452, 453, 454, 455, 456, 752, 753, 754, 755, 756, 757, 758, 759, 548, 549, 550, 551, 536, 537, 538, 539, 540, 541, 542, 543, 544, 545, 546, 547, 1081, 1082, 1083, 1084, 1085, 1086, 1087, 1088, 1089, 1090, 1091, 1092, 1093, 1094, 1095] (by decide +kernel) (by decide +kernel)
set_option maxRecDepth 20000 in
theorem gL_law_X5_looks : GoodIn wsL_law (wsV RL 127 RX5 yX5_looks wsX5_looks) := goodIn_app (goodIn_of _ (by decide +kernel)) ggL_law_X5_looks
