set_option maxRecDepth 20000 in
theorem ggL_law_X4_gap : GoodIn wsL_law wsX4_gap := goodIn_r _ [958, 404, 806, 807, 959, 789, 790, 403, 791, 450, 792, 105, 11, 106, 960, 961, 962, 963, 453, 483, 484, 485, 486, 420, 964, 965, 966, 967, 487, 488, 489, 490, 419, 479, 122, 123, 812, 709, 710, 423, 711, 429, 813, 713, 714, 715, 430, 968, 969, 970, 971, 972, 769, 770, 771, 988, 989, 990, 991, 1005, 1006, 1007, 1008, 1009, 1010, 1011, 1012, 1013, 1014, 1015, 1030, 1031, 1032] (by decide +kernel) (by decide +kernel)
set_option maxRecDepth 20000 in
theorem gL_law_X4_gap : GoodIn wsL_law (wsV RL 150 RX4 yX4_gap wsX4_gap) := goodIn_app (goodIn_of _ (by decide +kernel)) ggL_law_X4_gap
