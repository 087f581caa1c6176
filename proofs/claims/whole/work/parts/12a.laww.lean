def wsL_law : List Cond := (wsL_law_r1 ++ (wsL_law_r2 ++ (wsL_law_r3 ++ (wsL_law_r4 ++ (wsL_law_r5 ++ (wsL_law_r6 ++ (wsL_law_r7 ++ (wsL_law_r8 ++ (wsL_law_r9 ++ (wsL_law_r10 ++ (wsL_law_r11 ++ (wsL_law_r12 ++ (wsL_law_r13 ++ (wsL_law_r14 ++ (wsL_law_r15 ++ (wsL_law_r16 ++ (wsL_law_r17 ++ (wsL_law_r18 ++ (wsL_law_r19 ++ (wsL_law_r20 ++ (wsL_law_r21 ++ (wsL_law_r22 ++ (wsL_law_r23 ++ (wsL_law_r24 ++ (wsL_law_r25 ++ (wsL_law_r26 ++ (wsL_law_r27 ++ (wsL_law_r28 ++ (wsL_law_r29 ++ (wsL_law_r30 ++ (wsL_law_r31 ++ (wsL_law_r32 ++ (wsL_law_r33 ++ (wsL_law_r34 ++ (wsL_law_r35 ++ (wsL_law_r36 ++ (wsL_law_r37 ++ (wsL_law_r38 ++ (wsL_law_r39 ++ wsL_law_r40))))))))))))))))))))))))))))))))))))))) ++ wsX80 ++ wsX90 ++ wsX00 ++ wsX10 ++ wsX50 ++ wsX20 ++ wsX40 ++ wsX30 ++ wsX60 ++ ([] : List Cond)
theorem mem_r {big : List Cond} (ws : List Cond) (ps : List Nat) (hp : ws = ps.filterMap (fun i => big[i]?)) : ∀ w ∈ ws, w ∈ big := by
  intro w hw
  rw [hp] at hw
  obtain ⟨i, -, hi⟩ := List.mem_filterMap.mp hw
  exact List.mem_of_getElem? hi
set_option maxRecDepth 20000 in
theorem wsL_law_r1_in : ∀ w ∈ wsL_law_r1, w ∈ lw_tbl := mem_r wsL_law_r1 [77, 78, 62, 792, 793, 75, 1252, 79, 80, 81, 82, 83, 84, 85, 86, 63, 407, 408, 409, 410, 413, 113, 414, 415] (by decide +kernel)
set_option maxRecDepth 20000 in
theorem wsL_law_r2_in : ∀ w ∈ wsL_law_r2, w ∈ lw_tbl := mem_r wsL_law_r2 [416, 115, 64, 417, 164, 418, 419, 166, 167, 66, 420, 180, 181, 67, 421, 202, 422, 423, 112, 424, 234, 425, 204, 121] (by decide +kernel)
set_option maxRecDepth 20000 in
theorem wsL_law_r3_in : ∀ w ∈ wsL_law_r3, w ∈ lw_tbl := mem_r wsL_law_r3 [65, 426, 216, 69, 235, 70, 88, 89, 90, 91, 92, 116, 117, 118, 119, 120, 155, 152, 153, 123, 124, 125, 126, 169] (by decide +kernel)
set_option maxRecDepth 20000 in
theorem wsL_law_r4_in : ∀ w ∈ wsL_law_r4, w ∈ lw_tbl := mem_r wsL_law_r4 [170, 171, 172, 173, 183, 184, 185, 206, 207, 208, 209, 210, 211, 68, 212, 213, 214, 215, 218, 219, 220, 221, 223, 225] (by decide +kernel)
set_option maxRecDepth 20000 in
theorem wsL_law_r5_in : ∀ w ∈ wsL_law_r5, w ∈ lw_tbl := mem_r wsL_law_r5 [237, 238, 239, 240, 241, 242, 243, 257, 258, 259, 71, 260, 1253, 261, 262, 263, 264, 265, 1254, 267, 268, 269, 270, 271] (by decide +kernel)
set_option maxRecDepth 20000 in
theorem wsL_law_r6_in : ∀ w ∈ wsL_law_r6, w ∈ lw_tbl := mem_r wsL_law_r6 [272, 273, 274, 275, 276, 72, 277, 278, 279, 280, 281, 283, 284, 73, 285, 286, 287, 74, 288, 289, 290, 291, 292, 293] (by decide +kernel)
set_option maxRecDepth 20000 in
theorem wsL_law_r7_in : ∀ w ∈ wsL_law_r7, w ∈ lw_tbl := mem_r wsL_law_r7 [294, 295, 296, 297, 298, 299, 301, 303, 305, 306, 307, 308, 309, 310, 311, 312, 186, 187, 190, 188, 189, 313, 314, 315] (by decide +kernel)
set_option maxRecDepth 20000 in
theorem wsL_law_r8_in : ∀ w ∈ wsL_law_r8, w ∈ lw_tbl := mem_r wsL_law_r8 [316, 317, 319, 0, 320, 321, 322, 323, 324, 325, 326, 327, 328, 329, 330, 331, 333, 1, 334, 336, 338, 2, 339, 340] (by decide +kernel)
set_option maxRecDepth 20000 in
theorem wsL_law_r9_in : ∀ w ∈ wsL_law_r9, w ∈ lw_tbl := mem_r wsL_law_r9 [341, 353, 354, 355, 356, 358, 3, 359, 360, 361, 362, 363, 365, 4, 366, 367, 369, 5, 370, 371, 373, 6, 395, 396] (by decide +kernel)
set_option maxRecDepth 20000 in
theorem wsL_law_r10_in : ∀ w ∈ wsL_law_r10, w ∈ lw_tbl := mem_r wsL_law_r10 [397, 398, 374, 375, 377, 7, 382, 383, 385, 9, 378, 379, 381, 8, 394, 391, 393, 11, 386, 387, 389, 10, 390, 399] (by decide +kernel)
set_option maxRecDepth 20000 in
theorem wsL_law_r11_in : ∀ w ∈ wsL_law_r11, w ∈ lw_tbl := mem_r wsL_law_r11 [400, 401, 402, 403, 404, 405, 406, 794, 795, 796, 797, 813, 814, 817, 819, 836, 837, 842, 843, 848, 948, 853, 854, 855] (by decide +kernel)
set_option maxRecDepth 20000 in
theorem wsL_law_r12_in : ∀ w ∈ wsL_law_r12, w ∈ lw_tbl := mem_r wsL_law_r12 [856, 798, 804, 805, 806, 807, 808, 815, 820, 821, 799, 801, 27, 802, 803, 809, 811, 28, 812, 469, 470, 471, 472, 949] (by decide +kernel)
set_option maxRecDepth 20000 in
theorem wsL_law_r13_in : ∀ w ∈ wsL_law_r13, w ∈ lw_tbl := mem_r wsL_law_r13 [950, 951, 952, 953, 954, 955, 956, 473, 474, 475, 476, 957, 958, 959, 960, 477, 478, 479, 480, 481, 483, 12, 484, 485] (by decide +kernel)
set_option maxRecDepth 20000 in
theorem wsL_law_r14_in : ∀ w ∈ wsL_law_r14, w ∈ lw_tbl := mem_r wsL_law_r14 [486, 487, 488, 489, 490, 491, 492, 493, 494, 495, 496, 497, 498, 499, 500, 501, 502, 503, 504, 505, 506, 507, 961, 962] (by decide +kernel)
set_option maxRecDepth 20000 in
theorem wsL_law_r15_in : ∀ w ∈ wsL_law_r15, w ∈ lw_tbl := mem_r wsL_law_r15 [963, 964, 969, 965, 966, 967, 968, 508, 509, 510, 511, 512, 513, 514, 515, 516, 517, 518, 519, 520, 521, 970, 971, 972] (by decide +kernel)
set_option maxRecDepth 20000 in
theorem wsL_law_r16_in : ∀ w ∈ wsL_law_r16, w ∈ lw_tbl := mem_r wsL_law_r16 [973, 974, 976, 29, 977, 978, 980, 30, 981, 522, 523, 524, 525, 526, 982, 983, 984, 985, 527, 528, 529, 530, 531, 532] (by decide +kernel)
set_option maxRecDepth 20000 in
theorem wsL_law_r17_in : ∀ w ∈ wsL_law_r17, w ∈ lw_tbl := mem_r wsL_law_r17 [533, 534, 986, 987, 988, 989, 990, 992, 31, 993, 535, 536, 537, 538, 539, 540, 541, 542, 95, 97, 99, 994, 995, 996] (by decide +kernel)
set_option maxRecDepth 20000 in
theorem wsL_law_r18_in : ∀ w ∈ wsL_law_r18, w ∈ lw_tbl := mem_r wsL_law_r18 [997, 998, 822, 823, 824, 999, 1001, 32, 1002, 543, 544, 545, 546, 1003, 1004, 1005, 1006, 1007, 818, 547, 548, 549, 550, 1008] (by decide +kernel)
set_option maxRecDepth 20000 in
theorem wsL_law_r19_in : ∀ w ∈ wsL_law_r19, w ∈ lw_tbl := mem_r wsL_law_r19 [1009, 1010, 1011, 832, 833, 1012, 1014, 33, 1015, 834, 835, 825, 826, 830, 831, 1031, 1091, 1092, 827, 1016, 1018, 34, 1019, 828] (by decide +kernel)
set_option maxRecDepth 20000 in
theorem wsL_law_r20_in : ∀ w ∈ wsL_law_r20, w ∈ lw_tbl := mem_r wsL_law_r20 [1024, 1025, 829, 1026, 1027, 1028, 1029, 1030, 1020, 1022, 35, 1023, 1032, 1034, 36, 1035, 1036, 1038, 37, 1039, 1040, 1042, 38, 1043] (by decide +kernel)
set_option maxRecDepth 20000 in
theorem wsL_law_r21_in : ∀ w ∈ wsL_law_r21, w ∈ lw_tbl := mem_r wsL_law_r21 [1044, 1046, 39, 1047, 1090, 1048, 1050, 40, 1064, 1087, 1065, 1067, 44, 1073, 1075, 46, 1076, 1051, 1089, 1052, 1054, 41, 1055, 1056] (by decide +kernel)
set_option maxRecDepth 20000 in
theorem wsL_law_r22_in : ∀ w ∈ wsL_law_r22, w ∈ lw_tbl := mem_r wsL_law_r22 [1088, 1057, 1059, 42, 1060, 1061, 1063, 43, 1072, 1069, 1071, 45, 1077, 1079, 47, 1080, 1081, 1082, 1083, 1084, 1085, 1086, 1068, 551] (by decide +kernel)
set_option maxRecDepth 20000 in
theorem wsL_law_r23_in : ∀ w ∈ wsL_law_r23, w ∈ lw_tbl := mem_r wsL_law_r23 [552, 553, 554, 1093, 1094, 1095, 1096, 816, 555, 556, 557, 558, 559, 561, 13, 562, 563, 565, 14, 566, 567, 568, 569, 570] (by decide +kernel)
set_option maxRecDepth 20000 in
theorem wsL_law_r24_in : ∀ w ∈ wsL_law_r24, w ∈ lw_tbl := mem_r wsL_law_r24 [244, 571, 573, 15, 574, 575, 577, 16, 578, 579, 581, 17, 582, 583, 584, 585, 1097, 1098, 1099, 1100, 586, 587, 588, 589] (by decide +kernel)
set_option maxRecDepth 20000 in
theorem wsL_law_r25_in : ∀ w ∈ wsL_law_r25, w ∈ lw_tbl := mem_r wsL_law_r25 [590, 591, 592, 1101, 1102, 1103, 1104, 1105, 1106, 838, 593, 594, 595, 596, 597, 599, 18, 600, 601, 602, 603, 604, 605, 606] (by decide +kernel)
set_option maxRecDepth 20000 in
theorem wsL_law_r26_in : ∀ w ∈ wsL_law_r26, w ∈ lw_tbl := mem_r wsL_law_r26 [607, 608, 1107, 1108, 1109, 1110, 1111, 1113, 48, 1114, 1115, 1117, 49, 1118, 1119, 1121, 50, 1122, 609, 610, 611, 612, 613, 615] (by decide +kernel)
set_option maxRecDepth 20000 in
theorem wsL_law_r27_in : ∀ w ∈ wsL_law_r27, w ∈ lw_tbl := mem_r wsL_law_r27 [19, 616, 617, 618, 619, 620, 621, 622, 623, 624, 1123, 1124, 1125, 1126, 1127, 1129, 51, 1130, 839, 625, 626, 627, 628, 629] (by decide +kernel)
set_option maxRecDepth 20000 in
theorem wsL_law_r28_in : ∀ w ∈ wsL_law_r28, w ∈ lw_tbl := mem_r wsL_law_r28 [631, 20, 632, 637, 633, 635, 21, 636, 1131, 1132, 1133, 1134, 840, 841, 1135, 1137, 52, 1138, 638, 639, 640, 641, 642, 643] (by decide +kernel)
set_option maxRecDepth 20000 in
theorem wsL_law_r29_in : ∀ w ∈ wsL_law_r29, w ∈ lw_tbl := mem_r wsL_law_r29 [645, 22, 646, 1139, 1140, 1141, 1142, 1147, 1143, 1145, 53, 1146, 647, 648, 649, 650, 651, 653, 23, 654, 655, 657, 24, 658] (by decide +kernel)
set_option maxRecDepth 20000 in
theorem wsL_law_r30_in : ∀ w ∈ wsL_law_r30, w ∈ lw_tbl := mem_r wsL_law_r30 [659, 660, 661, 662, 127, 128, 663, 664, 665, 666, 129, 135, 131, 133, 667, 668, 669, 670, 671, 672, 673, 674, 675, 676] (by decide +kernel)
set_option maxRecDepth 20000 in
theorem wsL_law_r31_in : ∀ w ∈ wsL_law_r31, w ∈ lw_tbl := mem_r wsL_law_r31 [677, 678, 679, 680, 681, 682, 1148, 1149, 1150, 1151, 844, 1152, 1154, 54, 1155, 1156, 1157, 1158, 1159, 1161, 55, 1162, 845, 846] (by decide +kernel)
set_option maxRecDepth 20000 in
theorem wsL_law_r32_in : ∀ w ∈ wsL_law_r32, w ∈ lw_tbl := mem_r wsL_law_r32 [847, 1163, 1165, 56, 1166, 1167, 1169, 57, 1170, 1171, 1173, 58, 1174, 1175, 1177, 59, 1178, 683, 684, 685, 686, 687, 688, 689] (by decide +kernel)
set_option maxRecDepth 20000 in
theorem wsL_law_r33_in : ∀ w ∈ wsL_law_r33, w ∈ lw_tbl := mem_r wsL_law_r33 [1179, 1180, 1181, 1182, 1183, 1184, 1185, 690, 691, 692, 693, 1186, 1187, 1188, 1189, 694, 695, 696, 697, 698, 700, 25, 701, 702] (by decide +kernel)
set_option maxRecDepth 20000 in
theorem wsL_law_r34_in : ∀ w ∈ wsL_law_r34, w ∈ lw_tbl := mem_r wsL_law_r34 [704, 26, 705, 1190, 1191, 1192, 1193, 1194, 1196, 60, 1197, 706, 707, 708, 709, 1198, 1199, 1200, 1201, 710, 711, 712, 713, 714] (by decide +kernel)
set_option maxRecDepth 20000 in
theorem wsL_law_r35_in : ∀ w ∈ wsL_law_r35, w ∈ lw_tbl := mem_r wsL_law_r35 [715, 716, 717, 718, 720, 719, 76, 1202, 1203, 1204, 1205, 721, 722, 723, 724, 725, 1206, 1207, 1208, 1209, 1210, 726, 727, 728] (by decide +kernel)
set_option maxRecDepth 20000 in
theorem wsL_law_r36_in : ∀ w ∈ wsL_law_r36, w ∈ lw_tbl := mem_r wsL_law_r36 [729, 730, 731, 732, 733, 734, 735, 1211, 1212, 1213, 1214, 1215, 736, 737, 738, 739, 411, 412, 1216, 1217, 1218, 1219, 849, 850] (by decide +kernel)
set_option maxRecDepth 20000 in
theorem wsL_law_r37_in : ∀ w ∈ wsL_law_r37, w ∈ lw_tbl := mem_r wsL_law_r37 [851, 852, 740, 741, 742, 743, 1220, 1221, 1222, 1223, 744, 745, 746, 747, 1224, 1225, 1226, 1227, 748, 749, 750, 751, 752, 753] (by decide +kernel)
set_option maxRecDepth 20000 in
theorem wsL_law_r38_in : ∀ w ∈ wsL_law_r38, w ∈ lw_tbl := mem_r wsL_law_r38 [754, 755, 756, 757, 1228, 1229, 1230, 1231, 758, 759, 760, 761, 762, 763, 764, 765, 766, 1232, 1233, 1234, 1235, 767, 768, 769] (by decide +kernel)
set_option maxRecDepth 20000 in
theorem wsL_law_r39_in : ∀ w ∈ wsL_law_r39, w ∈ lw_tbl := mem_r wsL_law_r39 [770, 775, 771, 772, 773, 774, 1236, 1237, 1238, 1239, 776, 777, 778, 779, 780, 1240, 1241, 1242, 1243, 1244, 781, 782, 783, 784] (by decide +kernel)
set_option maxRecDepth 20000 in
theorem wsL_law_r40_in : ∀ w ∈ wsL_law_r40, w ∈ lw_tbl := mem_r wsL_law_r40 [785, 786, 787, 788, 789, 791, 1245, 1246, 1247, 1248, 1249, 1250, 1251] (by decide +kernel)
set_option maxRecDepth 20000 in
theorem wsX80_lin : ∀ w ∈ wsX80, w ∈ lw_tbl := mem_r wsX80 [427, 429, 431, 433, 435, 437, 439, 441, 443, 445, 447, 449, 451, 453, 455, 457, 459, 461, 463, 465] (by decide +kernel)
set_option maxRecDepth 20000 in
theorem wsX90_lin : ∀ w ∈ wsX90, w ∈ lw_tbl := mem_r wsX90 [857, 859, 861, 863, 865, 867, 869, 871, 873, 875, 877, 879, 881, 883, 885, 887, 889, 891, 893, 895, 897, 899, 901, 903, 905, 907, 909, 911, 913, 915, 917, 919, 921, 923, 925, 927, 929, 931, 933, 935, 937, 939, 941, 943, 945] (by decide +kernel)
set_option maxRecDepth 20000 in
theorem wsX00_lin : ∀ w ∈ wsX00, w ∈ lw_tbl := mem_r wsX00 [101, 103, 105, 107, 109] (by decide +kernel)
set_option maxRecDepth 20000 in
theorem wsX10_lin : ∀ w ∈ wsX10, w ∈ lw_tbl := mem_r wsX10 [157, 159, 161] (by decide +kernel)
set_option maxRecDepth 20000 in
theorem wsX50_lin : ∀ w ∈ wsX50, w ∈ lw_tbl := mem_r wsX50 [175, 177] (by decide +kernel)
set_option maxRecDepth 20000 in
theorem wsX20_lin : ∀ w ∈ wsX20, w ∈ lw_tbl := mem_r wsX20 [191, 193, 195, 197, 199] (by decide +kernel)
set_option maxRecDepth 20000 in
theorem wsX40_lin : ∀ w ∈ wsX40, w ∈ lw_tbl := mem_r wsX40 [137, 139, 141, 143, 145, 147, 149] (by decide +kernel)
set_option maxRecDepth 20000 in
theorem wsX30_lin : ∀ w ∈ wsX30, w ∈ lw_tbl := mem_r wsX30 [227, 229, 231] (by decide +kernel)
set_option maxRecDepth 20000 in
theorem wsX60_lin : ∀ w ∈ wsX60, w ∈ lw_tbl := mem_r wsX60 [245, 247, 249, 251, 253] (by decide +kernel)
theorem wsL_law_in : ∀ w ∈ wsL_law, w ∈ lw_tbl := List.forall_mem_append.mpr ⟨List.forall_mem_append.mpr ⟨List.forall_mem_append.mpr ⟨List.forall_mem_append.mpr ⟨List.forall_mem_append.mpr ⟨List.forall_mem_append.mpr ⟨List.forall_mem_append.mpr ⟨List.forall_mem_append.mpr ⟨List.forall_mem_append.mpr ⟨List.forall_mem_append.mpr ⟨List.forall_mem_append.mpr ⟨wsL_law_r1_in, List.forall_mem_append.mpr ⟨wsL_law_r2_in, List.forall_mem_append.mpr ⟨wsL_law_r3_in, List.forall_mem_append.mpr ⟨wsL_law_r4_in, List.forall_mem_append.mpr ⟨wsL_law_r5_in, List.forall_mem_append.mpr ⟨wsL_law_r6_in, List.forall_mem_append.mpr ⟨wsL_law_r7_in, List.forall_mem_append.mpr ⟨wsL_law_r8_in, List.forall_mem_append.mpr ⟨wsL_law_r9_in, List.forall_mem_append.mpr ⟨wsL_law_r10_in, List.forall_mem_append.mpr ⟨wsL_law_r11_in, List.forall_mem_append.mpr ⟨wsL_law_r12_in, List.forall_mem_append.mpr ⟨wsL_law_r13_in, List.forall_mem_append.mpr ⟨wsL_law_r14_in, List.forall_mem_append.mpr ⟨wsL_law_r15_in, List.forall_mem_append.mpr ⟨wsL_law_r16_in, List.forall_mem_append.mpr ⟨wsL_law_r17_in, List.forall_mem_append.mpr ⟨wsL_law_r18_in, List.forall_mem_append.mpr ⟨wsL_law_r19_in, List.forall_mem_append.mpr ⟨wsL_law_r20_in, List.forall_mem_append.mpr ⟨wsL_law_r21_in, List.forall_mem_append.mpr ⟨wsL_law_r22_in, List.forall_mem_append.mpr ⟨wsL_law_r23_in, List.forall_mem_append.mpr ⟨wsL_law_r24_in, List.forall_mem_append.mpr ⟨wsL_law_r25_in, List.forall_mem_append.mpr ⟨wsL_law_r26_in, List.forall_mem_append.mpr ⟨wsL_law_r27_in, List.forall_mem_append.mpr ⟨wsL_law_r28_in, List.forall_mem_append.mpr ⟨wsL_law_r29_in, List.forall_mem_append.mpr ⟨wsL_law_r30_in, List.forall_mem_append.mpr ⟨wsL_law_r31_in, List.forall_mem_append.mpr ⟨wsL_law_r32_in, List.forall_mem_append.mpr ⟨wsL_law_r33_in, List.forall_mem_append.mpr ⟨wsL_law_r34_in, List.forall_mem_append.mpr ⟨wsL_law_r35_in, List.forall_mem_append.mpr ⟨wsL_law_r36_in, List.forall_mem_append.mpr ⟨wsL_law_r37_in, List.forall_mem_append.mpr ⟨wsL_law_r38_in, List.forall_mem_append.mpr ⟨wsL_law_r39_in, wsL_law_r40_in⟩⟩⟩⟩⟩⟩⟩⟩⟩⟩⟩⟩⟩⟩⟩⟩⟩⟩⟩⟩⟩⟩⟩⟩⟩⟩⟩⟩⟩⟩⟩⟩⟩⟩⟩⟩⟩⟩⟩, wsX80_lin⟩, wsX90_lin⟩, wsX00_lin⟩, wsX10_lin⟩, wsX50_lin⟩, wsX20_lin⟩, wsX40_lin⟩, wsX30_lin⟩, wsX60_lin⟩, fun _ h => absurd h List.not_mem_nil⟩
theorem inlX0 : ∀ w ∈ wsX00, w ∈ wsL_law := fun _ h => List.mem_append_left _ (List.mem_append_left _ (List.mem_append_left _ (List.mem_append_left _ (List.mem_append_left _ (List.mem_append_left _ (List.mem_append_left _ (List.mem_append_right _ h)))))))
theorem inX0 : ∀ w ∈ wsX00, w ∈ lw_tbl := fun w h => wsL_law_in w (inlX0 w h)
theorem inlX1 : ∀ w ∈ wsX10, w ∈ wsL_law := fun _ h => List.mem_append_left _ (List.mem_append_left _ (List.mem_append_left _ (List.mem_append_left _ (List.mem_append_left _ (List.mem_append_left _ (List.mem_append_right _ h))))))
theorem inX1 : ∀ w ∈ wsX10, w ∈ lw_tbl := fun w h => wsL_law_in w (inlX1 w h)
theorem inlX2 : ∀ w ∈ wsX20, w ∈ wsL_law := fun _ h => List.mem_append_left _ (List.mem_append_left _ (List.mem_append_left _ (List.mem_append_left _ (List.mem_append_right _ h))))
theorem inX2 : ∀ w ∈ wsX20, w ∈ lw_tbl := fun w h => wsL_law_in w (inlX2 w h)
theorem inlX3 : ∀ w ∈ wsX30, w ∈ wsL_law := fun _ h => List.mem_append_left _ (List.mem_append_left _ (List.mem_append_right _ h))
theorem inX3 : ∀ w ∈ wsX30, w ∈ lw_tbl := fun w h => wsL_law_in w (inlX3 w h)
theorem inlX4 : ∀ w ∈ wsX40, w ∈ wsL_law := fun _ h => List.mem_append_left _ (List.mem_append_left _ (List.mem_append_left _ (List.mem_append_right _ h)))
theorem inX4 : ∀ w ∈ wsX40, w ∈ lw_tbl := fun w h => wsL_law_in w (inlX4 w h)
theorem inlX5 : ∀ w ∈ wsX50, w ∈ wsL_law := fun _ h => List.mem_append_left _ (List.mem_append_left _ (List.mem_append_left _ (List.mem_append_left _ (List.mem_append_left _ (List.mem_append_right _ h)))))
theorem inX5 : ∀ w ∈ wsX50, w ∈ lw_tbl := fun w h => wsL_law_in w (inlX5 w h)
theorem inlX6 : ∀ w ∈ wsX60, w ∈ wsL_law := fun _ h => List.mem_append_left _ (List.mem_append_right _ h)
theorem inX6 : ∀ w ∈ wsX60, w ∈ lw_tbl := fun w h => wsL_law_in w (inlX6 w h)
theorem inX7 : ∀ w ∈ wsX70, w ∈ lw_tbl := by decide +kernel
theorem inlX8 : ∀ w ∈ wsX80, w ∈ wsL_law := fun _ h => List.mem_append_left _ (List.mem_append_left _ (List.mem_append_left _ (List.mem_append_left _ (List.mem_append_left _ (List.mem_append_left _ (List.mem_append_left _ (List.mem_append_left _ (List.mem_append_left _ (List.mem_append_right _ h)))))))))
theorem inX8 : ∀ w ∈ wsX80, w ∈ lw_tbl := fun w h => wsL_law_in w (inlX8 w h)
theorem inlX9 : ∀ w ∈ wsX90, w ∈ wsL_law := fun _ h => List.mem_append_left _ (List.mem_append_left _ (List.mem_append_left _ (List.mem_append_left _ (List.mem_append_left _ (List.mem_append_left _ (List.mem_append_left _ (List.mem_append_left _ (List.mem_append_right _ h))))))))
theorem inX9 : ∀ w ∈ wsX90, w ∈ lw_tbl := fun w h => wsL_law_in w (inlX9 w h)
theorem inJ9 : ∀ w ∈ wsJ90, w ∈ lw_tbl := by decide +kernel
theorem inJ0 : ∀ w ∈ wsJ00, w ∈ lw_tbl := by decide +kernel
theorem inJ1 : ∀ w ∈ wsJ10, w ∈ lw_tbl := by decide +kernel
theorem inJ2 : ∀ w ∈ wsJ20, w ∈ lw_tbl := by decide +kernel
theorem inJ10 : ∀ w ∈ wsJ100, w ∈ lw_tbl := by decide +kernel
theorem inJ3 : ∀ w ∈ wsJ30, w ∈ lw_tbl := by decide +kernel
