set_option maxRecDepth 20000 in
theorem ggL_law_X8_bet : GoodIn wsL_law wsX8_bet := goodIn_r _ [539, 16, 43, 540, 541, 542, 2, 543, 398, 399, 400, 15, 401, 402, 403, 404, 58, 87, 88, 85, 89, 352, 353, 354, 355, 57, 544, 545, 546, 547, 18, 30, 29, 548, 549, 550, 53, 551, 552, 101, 99, 553, 554, 555, 556, 557, 558, 559, 560, 102, 561, 562, 563, 564, 565, 566, 567, 949, 950, 951, 952, 953, 954, 955, 956, 957, 958, 959, 960, 961, 962, 963, 964, 965, 966, 967, 968, 1014, 1015, 1016, 1017, 1018, 1039, 1040, 1041, 1042, 1043] (by decide +kernel) (by decide +kernel)
set_option maxRecDepth 20000 in
theorem gL_law_X8_bet : GoodIn wsL_law (wsV RL 59 RX8 yX8_bet wsX8_bet) := goodIn_app (goodIn_of _ (by decide +kernel)) ggL_law_X8_bet
set_option maxRecDepth 20000 in
theorem ggL_law_X9_bet : GoodIn wsL_law wsX9_bet := goodIn_r _ [571, 535, 413, 414, 415, 5, 416, 411, 412, 410, 272, 254, 390, 391, 392, 393, 437, 438, 439, 440, 441, 442, 443, 252, 444, 445, 446, 435, 447, 448, 449, 450, 451, 452, 453, 454, 455, 456, 457, 458, 459, 460, 338, 461, 462, 463, 464, 465, 466, 467, 251, 292, 293, 294, 468, 469, 470, 471, 472, 473, 474, 475, 476, 477, 478, 479, 436, 480, 481, 482, 483, 484, 485, 486, 487, 488, 489, 490, 491, 492, 493, 494, 495, 496, 497, 498, 499, 500, 501, 502, 503, 504, 505, 506, 507, 508, 509, 510, 511, 512, 513, 514, 515, 516, 517, 518, 519, 520, 521, 522, 523, 524, 525, 526, 969, 970, 971, 972, 973, 974, 975, 976, 977, 978, 979, 980, 981, 982, 983, 984, 985, 986, 987, 988, 989, 990, 991, 992, 993, 994, 995, 996, 997, 998, 999, 1000, 1001, 1002, 1003, 1004, 1005, 1006, 1007, 1008, 1009, 1010, 1011, 1012, 1013] (by decide +kernel) (by decide +kernel)
set_option maxRecDepth 20000 in
theorem gL_law_X9_bet : GoodIn wsL_law (wsV RL 62 RX9 yX9_bet wsX9_bet) := goodIn_app (goodIn_of _ (by decide +kernel)) ggL_law_X9_bet
set_option maxRecDepth 20000 in
theorem ggL_law_X8_plan : GoodIn wsL_law wsX8_plan := goodIn_r _ [575, 23, 22, 21, 25, 26, 576, 577, 578, 59, 60, 61, 62, 11, 12, 63, 47, 48, 64, 65, 66, 67, 68, 69, 70, 949, 950, 951, 952, 953, 954, 955, 956, 957, 958, 959, 960, 961, 962, 963, 964, 965, 966, 967, 968, 1019, 1020, 1021, 1029, 1030, 1031, 1032, 1033, 1034, 1035] (by decide +kernel) (by decide +kernel)
set_option maxRecDepth 20000 in
theorem gL_law_X8_plan : GoodIn wsL_law (wsV RL 63 RX8 yX8_plan wsX8_plan) := goodIn_app (goodIn_of _ (by decide +kernel)) ggL_law_X8_plan
set_option maxRecDepth 20000 in
theorem ggL_law_X9_plan : GoodIn wsL_law wsX9_plan := goodIn_r _ [582, 583, 584, 585, 255, 256, 292, 293, 5, 294, 969, 970, 971, 972, 973, 974, 975, 976, 977, 978, 979, 980, 981, 982, 983, 984, 985, 986, 987, 988, 989, 990, 991, 992, 993, 994, 995, 996, 997, 998, 999, 1000, 1001, 1002, 1003, 1004, 1005, 1006, 1007, 1008, 1009, 1010, 1011, 1012, 1013] (by decide +kernel) (by decide +kernel)
set_option maxRecDepth 20000 in
theorem gL_law_X9_plan : GoodIn wsL_law (wsV RL 66 RX9 yX9_plan wsX9_plan) := goodIn_app (goodIn_of _ (by decide +kernel)) ggL_law_X9_plan
set_option maxRecDepth 20000 in
theorem ggL_law_X8_next : GoodIn wsL_law wsX8_next := goodIn_r _ [589, 16, 590, 591, 592, 2, 593, 23, 22, 347, 331, 332, 15, 333, 58, 594, 595, 596, 26, 597, 65, 66, 373, 353, 354, 355, 57, 598, 599, 600, 601, 949, 950, 951, 952, 953, 954, 955, 956, 957, 958, 959, 960, 961, 962, 963, 964, 965, 966, 967, 968, 1014, 1015, 1016, 1017, 1018, 1019, 1020, 1021] (by decide +kernel) (by decide +kernel)
set_option maxRecDepth 20000 in
theorem gL_law_X8_next : GoodIn wsL_law (wsV RL 67 RX8 yX8_next wsX8_next) := goodIn_app (goodIn_of _ (by decide +kernel)) ggL_law_X8_next
set_option maxRecDepth 20000 in
theorem ggL_law_X9_next : GoodIn wsL_law wsX9_next := goodIn_r _ [605, 291, 255, 256, 606, 607, 608, 5, 609, 585, 292, 293, 294, 361, 362, 363, 364, 272, 610, 611, 612, 613, 614, 615, 616, 617, 254, 969, 970, 971, 972, 973, 974, 975, 976, 977, 978, 979, 980, 981, 982, 983, 984, 985, 986, 987, 988, 989, 990, 991, 992, 993, 994, 995, 996, 997, 998, 999, 1000, 1001, 1002, 1003, 1004, 1005, 1006, 1007, 1008, 1009, 1010, 1011, 1012, 1013] (by decide +kernel) (by decide +kernel)
set_option maxRecDepth 20000 in
theorem gL_law_X9_next : GoodIn wsL_law (wsV RL 71 RX9 yX9_next wsX9_next) := goodIn_app (goodIn_of _ (by decide +kernel)) ggL_law_X9_next
set_option maxRecDepth 20000 in
theorem ggL_law_X8_found : GoodIn wsL_law wsX8_found := goodIn_r _ [621, 16, 590, 591, 592, 2, 593, 23, 22, 347, 331, 332, 15, 333, 58, 622, 623, 624, 625, 17, 626, 84, 85, 86, 627, 628, 629, 26, 630, 631, 595, 596, 597, 65, 66, 632, 353, 354, 355, 57, 633, 599, 600, 601, 949, 950, 951, 952, 953, 954, 955, 956, 957, 958, 959, 960, 961, 962, 963, 964, 965, 966, 967, 968, 1014, 1015, 1016, 1017, 1018, 1019, 1020, 1021] (by decide +kernel) (by decide +kernel)
set_option maxRecDepth 20000 in
theorem gL_law_X8_found : GoodIn wsL_law (wsV RL 72 RX8 yX8_found wsX8_found) := goodIn_app (goodIn_of _ (by decide +kernel)) ggL_law_X8_found
set_option maxRecDepth 20000 in
theorem ggL_law_X9_found : GoodIn wsL_law wsX9_found := goodIn_r _ [637, 255, 256, 606, 607, 608, 5, 609, 585, 292, 293, 294, 361, 362, 363, 364, 272, 638, 639, 640, 641, 273, 642, 254, 610, 611, 612, 613, 614, 615, 616, 617, 969, 970, 971, 972, 973, 974, 975, 976, 977, 978, 979, 980, 981, 982, 983, 984, 985, 986, 987, 988, 989, 990, 991, 992, 993, 994, 995, 996, 997, 998, 999, 1000, 1001, 1002, 1003, 1004, 1005, 1006, 1007, 1008, 1009, 1010, 1011, 1012, 1013] (by decide +kernel) (by decide +kernel)
set_option maxRecDepth 20000 in
theorem gL_law_X9_found : GoodIn wsL_law (wsV RL 75 RX9 yX9_found wsX9_found) := goodIn_app (goodIn_of _ (by decide +kernel)) ggL_law_X9_found
set_option maxRecDepth 20000 in
theorem ggL_law_X8_run : GoodIn wsL_law wsX8_run := goodIn_r _ [646, 16, 43, 590, 591, 592, 2, 593, 23, 22, 540, 541, 542, 543, 398, 399, 400, 15, 401, 402, 403, 404, 58, 87, 88, 85, 89, 352, 353, 354, 355, 57, 647, 648, 649, 650, 626, 84, 86, 651, 652, 653, 654, 655, 622, 623, 624, 625, 17, 627, 628, 629, 26, 630, 631, 595, 596, 597, 65, 66, 632, 633, 599, 600, 601, 544, 545, 546, 547, 18, 30, 29, 548, 549, 550, 53, 551, 552, 101, 99, 553, 554, 555, 556, 557, 558, 559, 560, 102, 561, 562, 563, 564, 565, 566, 567, 949, 950, 951, 952, 953, 954, 955, 956, 957, 958, 959, 960, 961, 962, 963, 964, 965, 966, 967, 968, 1014, 1015, 1016, 1017, 1018, 1019, 1020, 1021, 1039, 1040, 1041, 1042, 1043] (by decide +kernel) (by decide +kernel)
set_option maxRecDepth 20000 in
theorem gL_law_X8_run : GoodIn wsL_law (wsV RL 76 RX8 yX8_run wsX8_run) := goodIn_app (goodIn_of _ (by decide +kernel)) ggL_law_X8_run
set_option maxRecDepth 20000 in
theorem ggL_law_X9_run : GoodIn wsL_law wsX9_run := goodIn_r _ [659, 409, 255, 256, 660, 661, 606, 607, 608, 5, 609, 585, 292, 293, 294, 662, 663, 664, 665, 272, 642, 535, 638, 639, 640, 641, 273, 254, 610, 611, 612, 613, 614, 615, 616, 617, 413, 414, 415, 416, 411, 412, 410, 390, 391, 392, 393, 437, 438, 439, 440, 441, 442, 443, 252, 444, 445, 446, 435, 447, 448, 449, 450, 451, 452, 453, 454, 455, 456, 457, 458, 459, 460, 338, 461, 462, 463, 464, 465, 466, 467, 251, 468, 469, 470, 471, 472, 473, 474, 475, 476, 477, 478, 479, 436, 480, 481, 482, 483, 484, 485, 486, 487, 488, 489, 490, 491, 492, 493, 494, 495, 496, 497, 498, 499, 500, 501, 502, 503, 504, 505, 506, 507, 508, 509, 510, 511, 512, 513, 514, 515, 516, 517, 518, 519, 520, 521, 522, 523, 524, 525, 526, 969, 970, 971, 972, 973, 974, 975, 976, 977, 978, 979, 980, 981, 982, 983, 984, 985, 986, 987, 988, 989, 990, 991, 992, 993, 994, 995, 996, 997, 998, 999, 1000, 1001, 1002, 1003, 1004, 1005, 1006, 1007, 1008, 1009, 1010, 1011, 1012, 1013] (by decide +kernel) (by decide +kernel)
set_option maxRecDepth 20000 in
theorem gL_law_X9_run : GoodIn wsL_law (wsV RL 79 RX9 yX9_run wsX9_run) := goodIn_app (goodIn_of _ (by decide +kernel)) ggL_law_X9_run
set_option maxRecDepth 20000 in
theorem ggL_law_X8_closed : GoodIn wsL_law wsX8_closed := goodIn_r _ [669, 670, 671, 672, 673, 2, 674, 45, 949, 950, 951, 952, 953, 954, 955, 956, 957, 958, 959, 960, 961, 962, 963, 964, 965, 966, 967, 968] (by decide +kernel) (by decide +kernel)
set_option maxRecDepth 20000 in
theorem gL_law_X8_closed : GoodIn wsL_law (wsV RL 80 RX8 yX8_closed wsX8_closed) := goodIn_app (goodIn_of _ (by decide +kernel)) ggL_law_X8_closed
