set_option maxRecDepth 20000 in
theorem ggL_law_X8_help : GoodIn wsL_law wsX8_help := goodIn_r _ [814, 16, 41, 17, 398, 399, 400, 15, 401, 402, 403, 404, 58, 87, 88, 85, 89, 352, 353, 354, 355, 57, 815, 816, 817, 818, 819, 820, 821, 822, 348, 349, 350, 351, 356, 327, 328, 329, 330, 331, 332, 333, 949, 950, 951, 952, 953, 954, 955, 956, 957, 958, 959, 960, 961, 962, 963, 964, 965, 966, 967, 968, 1014, 1015, 1016, 1017, 1018] (by decide +kernel) (by decide +kernel)
set_option maxRecDepth 20000 in
theorem gL_law_X8_help : GoodIn wsL_law (wsV RL 106 RX8 yX8_help wsX8_help) := goodIn_app (goodIn_of _ (by decide +kernel)) ggL_law_X8_help
set_option maxRecDepth 20000 in
theorem ggL_law_X9_help : GoodIn wsL_law wsX9_help := goodIn_r _ [826, 409, 411, 272, 273, 412, 292, 293, 5, 294, 413, 414, 415, 416, 410, 254, 390, 391, 392, 393, 365, 366, 367, 368, 969, 970, 971, 972, 973, 974, 975, 976, 977, 978, 979, 980, 981, 982, 983, 984, 985, 986, 987, 988, 989, 990, 991, 992, 993, 994, 995, 996, 997, 998, 999, 1000, 1001, 1002, 1003, 1004, 1005, 1006, 1007, 1008, 1009, 1010, 1011, 1012, 1013] (by decide +kernel) (by decide +kernel)
set_option maxRecDepth 20000 in
theorem gL_law_X9_help : GoodIn wsL_law (wsV RL 109 RX9 yX9_help wsX9_help) := goodIn_app (goodIn_of _ (by decide +kernel)) ggL_law_X9_help
set_option maxRecDepth 20000 in
theorem ggL_law_X8_enough : GoodIn wsL_law wsX8_enough := goodIn_r _ [830, 831, 710, 711, 2, 712, 671, 672, 673, 674, 45, 949, 950, 951, 952, 953, 954, 955, 956, 957, 958, 959, 960, 961, 962, 963, 964, 965, 966, 967, 968] (by decide +kernel) (by decide +kernel)
set_option maxRecDepth 20000 in
theorem gL_law_X8_enough : GoodIn wsL_law (wsV RL 110 RX8 yX8_enough wsX8_enough) := goodIn_app (goodIn_of _ (by decide +kernel)) ggL_law_X8_enough
set_option maxRecDepth 20000 in
theorem ggL_law_X9_enough : GoodIn wsL_law wsX9_enough := goodIn_r _ [835, 291, 836, 292, 293, 5, 294, 680, 681, 682, 683, 257, 735, 736, 737, 969, 970, 971, 972, 973, 974, 975, 976, 977, 978, 979, 980, 981, 982, 983, 984, 985, 986, 987, 988, 989, 990, 991, 992, 993, 994, 995, 996, 997, 998, 999, 1000, 1001, 1002, 1003, 1004, 1005, 1006, 1007, 1008, 1009, 1010, 1011, 1012, 1013] (by decide +kernel) (by decide +kernel)
set_option maxRecDepth 20000 in
theorem gL_law_X9_enough : GoodIn wsL_law (wsV RL 113 RX9 yX9_enough wsX9_enough) := goodIn_app (goodIn_of _ (by decide +kernel)) ggL_law_X9_enough
set_option maxRecDepth 20000 in
theorem ggL_law_X8_order : GoodIn wsL_law wsX8_order := goodIn_r _ [840, 16, 307, 308, 309, 2, 310, 40, 311, 312, 313, 51, 314, 94, 841, 842, 843, 318, 319, 320, 321, 93, 322, 323, 324, 325, 95, 622, 623, 624, 625, 17, 626, 84, 85, 86, 844, 845, 846, 1036, 1037, 1038, 949, 950, 951, 952, 953, 954, 955, 956, 957, 958, 959, 960, 961, 962, 963, 964, 965, 966, 967, 968, 1014, 1015, 1016, 1017, 1018] (by decide +kernel) (by decide +kernel)
set_option maxRecDepth 20000 in
theorem gL_law_X8_order : GoodIn wsL_law (wsV RL 114 RX8 yX8_order wsX8_order) := goodIn_app (goodIn_of _ (by decide +kernel)) ggL_law_X8_order
set_option maxRecDepth 20000 in
theorem ggL_law_X9_order : GoodIn wsL_law wsX9_order := goodIn_r _ [850, 261, 263, 272, 264, 851, 273, 339, 340, 5, 341, 342, 292, 293, 294, 969, 970, 971, 972, 973, 974, 975, 976, 977, 978, 979, 980, 981, 982, 983, 984, 985, 986, 987, 988, 989, 990, 991, 992, 993, 994, 995, 996, 997, 998, 999, 1000, 1001, 1002, 1003, 1004, 1005, 1006, 1007, 1008, 1009, 1010, 1011, 1012, 1013] (by decide +kernel) (by decide +kernel)
set_option maxRecDepth 20000 in
theorem gL_law_X9_order : GoodIn wsL_law (wsV RL 117 RX9 yX9_order wsX9_order) := goodIn_app (goodIn_of _ (by decide +kernel)) ggL_law_X9_order
set_option maxRecDepth 20000 in
theorem ggL_law_X8_image : GoodIn wsL_law wsX8_image := goodIn_r _ [855, 19, 16, 17, 856, 18, 857, 20, 815, 816, 817, 15, 818, 58, 57, 819, 820, 821, 822, 949, 950, 951, 952, 953, 954, 955, 956, 957, 958, 959, 960, 961, 962, 963, 964, 965, 966, 967, 968, 1014, 1015, 1016, 1017, 1018] (by decide +kernel) (by decide +kernel)
set_option maxRecDepth 20000 in
theorem gL_law_X8_image : GoodIn wsL_law (wsV RL 118 RX8 yX8_image wsX8_image) := goodIn_app (goodIn_of _ (by decide +kernel)) ggL_law_X8_image
set_option maxRecDepth 20000 in
theorem ggL_law_X9_image : GoodIn wsL_law wsX9_image := goodIn_r _ [861, 862, 272, 863, 273, 864, 535, 865, 259, 254, 969, 970, 971, 972, 973, 974, 975, 976, 977, 978, 979, 980, 981, 982, 983, 984, 985, 986, 987, 988, 989, 990, 991, 992, 993, 994, 995, 996, 997, 998, 999, 1000, 1001, 1002, 1003, 1004, 1005, 1006, 1007, 1008, 1009, 1010, 1011, 1012, 1013] (by decide +kernel) (by decide +kernel)
set_option maxRecDepth 20000 in
theorem gL_law_X9_image : GoodIn wsL_law (wsV RL 121 RX9 yX9_image wsX9_image) := goodIn_app (goodIn_of _ (by decide +kernel)) ggL_law_X9_image
set_option maxRecDepth 20000 in
theorem ggL_law_X8_back : GoodIn wsL_law wsX8_back := goodIn_r _ [869, 20, 16, 19, 856, 17, 857, 18, 815, 816, 817, 15, 818, 58, 57, 819, 820, 821, 822, 949, 950, 951, 952, 953, 954, 955, 956, 957, 958, 959, 960, 961, 962, 963, 964, 965, 966, 967, 968, 1014, 1015, 1016, 1017, 1018] (by decide +kernel) (by decide +kernel)
set_option maxRecDepth 20000 in
theorem gL_law_X8_back : GoodIn wsL_law (wsV RL 122 RX8 yX8_back wsX8_back) := goodIn_app (goodIn_of _ (by decide +kernel)) ggL_law_X8_back
set_option maxRecDepth 20000 in
theorem ggL_law_X9_back : GoodIn wsL_law wsX9_back := goodIn_r _ [873, 862, 863, 272, 864, 273, 865, 535, 254, 259, 969, 970, 971, 972, 973, 974, 975, 976, 977, 978, 979, 980, 981, 982, 983, 984, 985, 986, 987, 988, 989, 990, 991, 992, 993, 994, 995, 996, 997, 998, 999, 1000, 1001, 1002, 1003, 1004, 1005, 1006, 1007, 1008, 1009, 1010, 1011, 1012, 1013] (by decide +kernel) (by decide +kernel)
set_option maxRecDepth 20000 in
theorem gL_law_X9_back : GoodIn wsL_law (wsV RL 125 RX9 yX9_back wsX9_back) := goodIn_app (goodIn_of _ (by decide +kernel)) ggL_law_X9_back
set_option maxRecDepth 20000 in
theorem ggL_law_X8_count : GoodIn wsL_law wsX8_count := goodIn_r _ [877, 16, 17, 23, 30, 34, 18, 949, 950, 951, 952, 953, 954, 955, 956, 957, 958, 959, 960, 961, 962, 963, 964, 965, 966, 967, 968, 1014, 1015, 1016, 1017, 1018, 1022, 1023] (by decide +kernel) (by decide +kernel)
set_option maxRecDepth 20000 in
theorem gL_law_X8_count : GoodIn wsL_law (wsV RL 126 RX8 yX8_count wsX8_count) := goodIn_app (goodIn_of _ (by decide +kernel)) ggL_law_X8_count
