set_option maxRecDepth 20000 in
theorem ggL_law_X4_writes : GoodIn wsL_law wsX4_writes := goodIn_r _ [763, 16, 764, 353, 354, 15, 355, 63, 65, 629, 630, 631, 632, 633, 634, 635, 636, 62, 637, 98, 93, 99, 1077, 1078, 1079, 1080, 1096, 1097, 1098, 1099, 1100, 1101, 1102, 1103, 1104, 1105, 1106] (by decide +kernel) (by decide +kernel)
set_option maxRecDepth 20000 in
theorem gL_law_X4_writes : GoodIn wsL_law (wsV RL 128 RX4 yX4_writes wsX4_writes) := goodIn_app (goodIn_of _ (by decide +kernel)) ggL_law_X4_writes
set_option maxRecDepth 20000 in
theorem ggL_law_X5_writes : GoodIn wsL_law wsX5_writes := goodIn_r _ [768, 174, 137, 138, 139, 5, 140, 112, 123, 524, 525, 526, 527, 133, 134, 135, 136, 651, 652, 653, 654, 128, 129, 130, 131, 132, 98, 93, 99, 1081, 1082, 1083, 1084, 1085, 1086, 1087, 1088, 1089, 1090, 1091, 1092, 1093, 1094, 1095] (by decide +kernel) (by decide +kernel)
set_option maxRecDepth 20000 in
theorem gL_law_X5_writes : GoodIn wsL_law (wsV RL 131 RX5 yX5_writes wsX5_writes) := goodIn_app (goodIn_of _ (by decide +kernel)) ggL_law_X5_writes
set_option maxRecDepth 20000 in
theorem ggL_law_L_above : GoodIn wsL_law wsL_above := goodIn_ca (goodIn_r _ [771, 658, 772, 773, 774, 2, 775, 663, 664, 665, 666, 667, 668, 16, 669, 670, 671, 15, 672, 62, 776, 777, 778, 779, 97, 98, 93, 99, 780, 88, 89, 90, 91, 92, 94, 781, 95, 96, 1077, 1078, 1079, 1080, 1096, 1097, 1098, 1099, 1100, 1101, 1102, 1103, 1104, 1105, 1106] (by decide +kernel) (by decide +kernel)) (goodIn_sub (fun _ h => List.mem_append_left _ (List.mem_append_left _ (List.mem_append_right _ h))) (by decide +kernel))
set_option maxRecDepth 20000 in
theorem gL_law_L_above : GoodIn wsL_law (va_wsS RL 132 yL_above wsL_above) := goodIn_app (goodIn_of _ (by decide +kernel)) ggL_law_L_above
set_option maxRecDepth 20000 in
theorem ggL_law_X5_above : GoodIn wsL_law wsX5_above := goodIn_r _ [785, 174, 678, 679, 680, 5, 681, 133, 134, 135, 136, 137, 138, 139, 140, 112, 123, 450, 451, 452, 453, 454, 455, 456, 786, 787, 788, 789, 128, 129, 130, 131, 132, 98, 93, 99, 520, 521, 522, 523, 1081, 1082, 1083, 1084, 1085, 1086, 1087, 1088, 1089, 1090, 1091, 1092, 1093, 1094, 1095] (by decide +kernel) (by decide +kernel)
set_option maxRecDepth 20000 in
theorem gL_law_X5_above : GoodIn wsL_law (wsV RL 134 RX5 yX5_above wsX5_above) := goodIn_app (goodIn_of _ (by decide +kernel)) ggL_law_X5_above
set_option maxRecDepth 20000 in
theorem ggL_law_L_lessBehind : GoodIn wsL_law wsL_lessBehind := goodIn_ca (goodIn_r _ [792, 658, 793, 794, 795, 2, 796, 16, 619, 663, 664, 665, 666, 667, 668, 669, 670, 671, 15, 672, 62, 673, 337, 338, 339, 31, 1077, 1078, 1079, 1080, 1096, 1097, 1098, 1099, 1100, 1101, 1102, 1103, 1104, 1105, 1106] (by decide +kernel) (by decide +kernel)) (goodIn_sub (fun _ h => List.mem_append_left _ (List.mem_append_left _ (List.mem_append_right _ h))) (by decide +kernel))
set_option maxRecDepth 20000 in
theorem gL_law_L_lessBehind : GoodIn wsL_law (va_wsS RL 135 yL_lessBehind wsL_lessBehind) := goodIn_app (goodIn_of _ (by decide +kernel)) ggL_law_L_lessBehind
set_option maxRecDepth 20000 in
theorem ggL_law_X5_lessBehind : GoodIn wsL_law wsX5_lessBehind := goodIn_r _ [800, 174, 678, 679, 680, 5, 681, 133, 134, 135, 136, 137, 138, 139, 140, 112, 123, 450, 451, 452, 453, 454, 455, 456, 152, 153, 154, 155, 1081, 1082, 1083, 1084, 1085, 1086, 1087, 1088, 1089, 1090, 1091, 1092, 1093, 1094, 1095] (by decide +kernel) (by decide +kernel)
set_option maxRecDepth 20000 in
theorem gL_law_X5_lessBehind : GoodIn wsL_law (wsV RL 137 RX5 yX5_lessBehind wsX5_lessBehind) := goodIn_app (goodIn_of _ (by decide +kernel)) ggL_law_X5_lessBehind
set_option maxRecDepth 20000 in
theorem ggL_law_L_rules : GoodIn wsL_law wsL_rules := goodIn_ca (goodIn_r _ [803, 658, 804, 805, 806, 2, 807, 16, 619, 663, 664, 665, 666, 667, 668, 669, 670, 671, 15, 672, 62, 673, 337, 338, 339, 31, 1077, 1078, 1079, 1080, 1096, 1097, 1098, 1099, 1100, 1101, 1102, 1103, 1104, 1105, 1106] (by decide +kernel) (by decide +kernel)) (goodIn_sub (fun _ h => List.mem_append_left _ (List.mem_append_left _ (List.mem_append_right _ h))) (by decide +kernel))
set_option maxRecDepth 20000 in
theorem gL_law_L_rules : GoodIn wsL_law (va_wsS RL 138 yL_rules wsL_rules) := goodIn_app (goodIn_of _ (by decide +kernel)) ggL_law_L_rules
set_option maxRecDepth 20000 in
theorem ggL_law_X5_rules : GoodIn wsL_law wsX5_rules := goodIn_r _ [811, 174, 678, 679, 680, 5, 681, 133, 134, 135, 136, 137, 138, 139, 140, 112, 123, 450, 451, 452, 453, 454, 455, 456, 152, 153, 154, 155, 1081, 1082, 1083, 1084, 1085, 1086, 1087, 1088, 1089, 1090, 1091, 1092, 1093, 1094, 1095] (by decide +kernel) (by decide +kernel)
set_option maxRecDepth 20000 in
theorem gL_law_X5_rules : GoodIn wsL_law (wsV RL 140 RX5 yX5_rules wsX5_rules) := goodIn_app (goodIn_of _ (by decide +kernel)) ggL_law_X5_rules
set_option maxRecDepth 20000 in
theorem ggL_law_L_sum : GoodIn wsL_law wsL_sum := goodIn_ca (goodIn_ca (goodIn_r _ [814, 658, 184, 815, 816, 817, 2, 818, 16, 720, 721, 722, 723, 189, 190, 663, 664, 665, 666, 667, 668, 669, 670, 671, 15, 672, 62, 673, 337, 338, 339, 31, 1077, 1078, 1079, 1080, 1096, 1097, 1098, 1099, 1100, 1101, 1102, 1103, 1104, 1105, 1106] (by decide +kernel) (by decide +kernel)) (goodIn_sub (fun _ h => List.mem_append_left _ (List.mem_append_left _ (List.mem_append_left _ (List.mem_append_right _ h)))) (by decide +kernel))) (goodIn_sub (fun _ h => List.mem_append_left _ (List.mem_append_left _ (List.mem_append_right _ h))) (by decide +kernel))
set_option maxRecDepth 20000 in
theorem gL_law_L_sum : GoodIn wsL_law (va_wsS RL 141 yL_sum wsL_sum) := goodIn_app (goodIn_of _ (by decide +kernel)) ggL_law_L_sum
set_option maxRecDepth 20000 in
theorem ggL_law_X5_sum : GoodIn wsL_law wsX5_sum := goodIn_r _ [822, 174, 732, 733, 734, 5, 735, 678, 679, 680, 681, 133, 134, 135, 136, 137, 138, 139, 140, 112, 123, 450, 451, 452, 453, 454, 455, 456, 152, 153, 154, 155, 1081, 1082, 1083, 1084, 1085, 1086, 1087, 1088, 1089, 1090, 1091, 1092, 1093, 1094, 1095] (by decide +kernel) (by decide +kernel)
set_option maxRecDepth 20000 in
theorem gL_law_X5_sum : GoodIn wsL_law (wsV RL 143 RX5 yX5_sum wsX5_sum) := goodIn_app (goodIn_of _ (by decide +kernel)) ggL_law_X5_sum
set_option maxRecDepth 20000 in
theorem ggL_law_L_kept : GoodIn wsL_law wsL_kept := goodIn_ca (goodIn_r _ [825, 685, 826, 827, 828, 2, 829, 830, 831, 832, 833, 690, 691, 16, 623, 624, 834, 835, 836, 837, 838, 397, 398, 35, 399, 41, 839, 401, 402, 403, 42, 1077, 1078, 1079, 1080, 1096, 1097, 1098, 1099, 1100, 1101, 1102, 1103, 1104, 1105, 1106, 1121, 1122, 1123] (by decide +kernel) (by decide +kernel)) (goodIn_sub (fun _ h => List.mem_append_left _ (List.mem_append_right _ h)) (by decide +kernel))
set_option maxRecDepth 20000 in
theorem gL_law_L_kept : GoodIn wsL_law (va_wsS RL 144 yL_kept wsL_kept) := goodIn_app (goodIn_of _ (by decide +kernel)) ggL_law_L_kept
set_option maxRecDepth 20000 in
theorem ggL_law_X5_kept : GoodIn wsL_law wsX5_kept := goodIn_r _ [843, 174, 844, 845, 846, 5, 847, 137, 138, 139, 140, 112, 123, 450, 451, 452, 453, 454, 455, 456, 580, 581, 582, 583, 576, 577, 578, 579, 1081, 1082, 1083, 1084, 1085, 1086, 1087, 1088, 1089, 1090, 1091, 1092, 1093, 1094, 1095] (by decide +kernel) (by decide +kernel)
set_option maxRecDepth 20000 in
theorem gL_law_X5_kept : GoodIn wsL_law (wsV RL 146 RX5 yX5_kept wsX5_kept) := goodIn_app (goodIn_of _ (by decide +kernel)) ggL_law_X5_kept
set_option maxRecDepth 20000 in
theorem ggL_law_X4_looksOfKept : GoodIn wsL_law wsX4_looksOfKept := goodIn_r _ [851, 16, 743, 744, 745, 15, 746, 63, 65, 852, 853, 854, 2, 855, 623, 624, 838, 397, 398, 35, 399, 41, 839, 401, 402, 403, 42, 747, 356, 357, 358, 359, 360, 361, 362, 363, 364, 365, 366, 1077, 1078, 1079, 1080, 1096, 1097, 1098, 1099, 1100, 1101, 1102, 1103, 1104, 1105, 1106, 1121, 1122, 1123] (by decide +kernel) (by decide +kernel)
set_option maxRecDepth 20000 in
theorem gL_law_X4_looksOfKept : GoodIn wsL_law (wsV RL 147 RX4 yX4_looksOfKept wsX4_looksOfKept) := goodIn_app (goodIn_of _ (by decide +kernel)) ggL_law_X4_looksOfKept
set_option maxRecDepth 20000 in
theorem ggL_law_X5_looksOfKept : GoodIn wsL_law wsX5_looksOfKept := goodIn_r _ [859, 174, 860, 861, 862, 5, 863, 137, 138, 139, 140, 112, 123, 580, 581, 582, 583, 576, 577, 578, 579, 752, 753, 754, 755, 756, 757, 758, 759, 548, 549, 550, 551, 536, 537, 538, 539, 540, 541, 542, 543, 544, 545, 546, 547, 1081, 1082, 1083, 1084, 1085, 1086, 1087, 1088, 1089, 1090, 1091, 1092, 1093, 1094, 1095] (by decide +kernel) (by decide +kernel)
set_option maxRecDepth 20000 in
theorem gL_law_X5_looksOfKept : GoodIn wsL_law (wsV RL 150 RX5 yX5_looksOfKept wsX5_looksOfKept) := goodIn_app (goodIn_of _ (by decide +kernel)) ggL_law_X5_looksOfKept
set_option maxRecDepth 20000 in
theorem ggL_law_L_bestRule : GoodIn wsL_law wsL_bestRule := goodIn_ca (goodIn_r _ [866, 658, 867, 868, 869, 2, 870, 16, 623, 624, 663, 664, 665, 666, 667, 668, 669, 670, 671, 15, 672, 62, 852, 853, 854, 855, 838, 397, 398, 35, 399, 41, 839, 401, 402, 403, 42, 747, 356, 357, 358, 359, 360, 361, 362, 363, 364, 365, 366, 629, 630, 631, 632, 633, 634, 635, 636, 637, 98, 93, 99, 776, 777, 778, 779, 97, 780, 88, 89, 90, 91, 92, 94, 781, 95, 96, 1077, 1078, 1079, 1080, 1096, 1097, 1098, 1099, 1100, 1101, 1102, 1103, 1104, 1105, 1106, 1121, 1122, 1123] (by decide +kernel) (by decide +kernel)) (goodIn_sub (fun _ h => List.mem_append_left _ (List.mem_append_left _ (List.mem_append_right _ h))) (by decide +kernel))
set_option maxRecDepth 20000 in
theorem gL_law_L_bestRule : GoodIn wsL_law (va_wsS RL 151 yL_bestRule wsL_bestRule) := goodIn_app (goodIn_of _ (by decide +kernel)) ggL_law_L_bestRule
set_option maxRecDepth 20000 in
theorem ggL_law_X5_bestRule : GoodIn wsL_law wsX5_bestRule := goodIn_r _ [874, 174, 678, 679, 680, 5, 681, 133, 134, 135, 136, 137, 138, 139, 140, 112, 123, 450, 451, 452, 453, 454, 455, 456, 875, 876, 877, 878, 114, 879, 92, 93, 94, 119, 120, 121, 122, 152, 153, 154, 155, 516, 517, 518, 519, 128, 129, 130, 131, 132, 98, 99, 520, 521, 522, 523, 141, 142, 143, 144, 145, 146, 147, 148, 149, 150, 151, 156, 157, 158, 159, 524, 525, 526, 527, 124, 125, 126, 127, 580, 581, 582, 583, 576, 577, 578, 579, 532, 533, 534, 535, 536, 537, 538, 539, 540, 541, 542, 543, 544, 545, 546, 547, 548, 549, 550, 551, 552, 553, 554, 555, 556, 557, 558, 559, 1081, 1082, 1083, 1084, 1085, 1086, 1087, 1088, 1089, 1090, 1091, 1092, 1093, 1094, 1095] (by decide +kernel) (by decide +kernel)
set_option maxRecDepth 20000 in
theorem gL_law_X5_bestRule : GoodIn wsL_law (wsV RL 153 RX5 yX5_bestRule wsX5_bestRule) := goodIn_app (goodIn_of _ (by decide +kernel)) ggL_law_X5_bestRule
set_option maxRecDepth 20000 in
theorem ggL_law_L_ranked : GoodIn wsL_law wsL_ranked := goodIn_ca (goodIn_r _ [882, 685, 883, 884, 885, 2, 886, 690, 691, 16, 619, 669, 670, 671, 15, 672, 62, 887, 888, 889, 890, 891, 105, 106, 107, 31, 91, 92, 93, 94, 1077, 1078, 1079, 1080, 1096, 1097, 1098, 1099, 1100, 1101, 1102, 1103, 1104, 1105, 1106] (by decide +kernel) (by decide +kernel)) (goodIn_sub (fun _ h => List.mem_append_left _ (List.mem_append_right _ h)) (by decide +kernel))
set_option maxRecDepth 20000 in
theorem gL_law_L_ranked : GoodIn wsL_law (va_wsS RL 154 yL_ranked wsL_ranked) := goodIn_app (goodIn_of _ (by decide +kernel)) ggL_law_L_ranked
set_option maxRecDepth 20000 in
theorem ggL_law_X5_ranked : GoodIn wsL_law wsX5_ranked := goodIn_r _ [895, 174, 133, 134, 135, 5, 136, 137, 138, 139, 140, 112, 123, 450, 451, 452, 453, 454, 455, 456, 152, 153, 154, 155, 1081, 1082, 1083, 1084, 1085, 1086, 1087, 1088, 1089, 1090, 1091, 1092, 1093, 1094, 1095] (by decide +kernel) (by decide +kernel)
set_option maxRecDepth 20000 in
theorem gL_law_X5_ranked : GoodIn wsL_law (wsV RL 156 RX5 yX5_ranked wsX5_ranked) := goodIn_app (goodIn_of _ (by decide +kernel)) ggL_law_X5_ranked
set_option maxRecDepth 20000 in
theorem ggL_law_X4_gap : GoodIn wsL_law wsX4_gap := goodIn_r _ [899, 16, 623, 624, 900, 634, 635, 15, 636, 62, 637, 98, 93, 99, 901, 902, 903, 904, 65, 100, 101, 102, 103, 32, 905, 725, 726, 727, 104, 105, 106, 107, 31, 91, 92, 94, 838, 397, 398, 35, 399, 41, 839, 401, 402, 403, 42, 906, 907, 908, 909, 910, 670, 671, 672, 1077, 1078, 1079, 1080, 1096, 1097, 1098, 1099, 1100, 1101, 1102, 1103, 1104, 1105, 1106, 1121, 1122, 1123] (by decide +kernel) (by decide +kernel)
set_option maxRecDepth 20000 in
theorem gL_law_X4_gap : GoodIn wsL_law (wsV RL 157 RX4 yX4_gap wsX4_gap) := goodIn_app (goodIn_of _ (by decide +kernel)) ggL_law_X4_gap
set_option maxRecDepth 20000 in
theorem ggL_law_X5_gap : GoodIn wsL_law wsX5_gap := goodIn_r _ [914, 174, 128, 129, 130, 5, 131, 132, 98, 93, 99, 133, 134, 135, 136, 137, 138, 139, 140, 112, 123, 915, 916, 917, 918, 540, 541, 542, 543, 145, 146, 147, 148, 149, 150, 151, 152, 153, 154, 155, 580, 581, 582, 583, 576, 577, 578, 579, 1081, 1082, 1083, 1084, 1085, 1086, 1087, 1088, 1089, 1090, 1091, 1092, 1093, 1094, 1095] (by decide +kernel) (by decide +kernel)
set_option maxRecDepth 20000 in
theorem gL_law_X5_gap : GoodIn wsL_law (wsV RL 160 RX5 yX5_gap wsX5_gap) := goodIn_app (goodIn_of _ (by decide +kernel)) ggL_law_X5_gap
set_option maxRecDepth 20000 in
theorem ggL_law_X4_costOfOne : GoodIn wsL_law wsX4_costOfOne := goodIn_r _ [922, 16, 627, 625, 626, 1077, 1078, 1079, 1080, 1096, 1097, 1098, 1099, 1100, 1101, 1102, 1103, 1104, 1105, 1106] (by decide +kernel) (by decide +kernel)
set_option maxRecDepth 20000 in
theorem gL_law_X4_costOfOne : GoodIn wsL_law (wsV RL 161 RX4 yX4_costOfOne wsX4_costOfOne) := goodIn_app (goodIn_of _ (by decide +kernel)) ggL_law_X4_costOfOne
