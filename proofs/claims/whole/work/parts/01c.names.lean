theorem dX8_box_1 : decode cX8_box 1 = .ok (.getfield 10, 3) := by decide +kernel
theorem dX8_box_4 : decode cX8_box 4 = .ok (.iload_n 1, 1) := by decide +kernel
theorem dX8_box_5 : decode cX8_box 5 = .ok (.invokevirtual 147, 3) := by decide +kernel
theorem dX8_box_8 : decode cX8_box 8 = .ok (.ifCond .eq 12, 3) := by decide +kernel
theorem dX8_box_11 : decode cX8_box 11 = .ok (.iload_n 2, 1) := by decide +kernel
theorem dX8_box_12 : decode cX8_box 12 = .ok (.ifCond .lt 8, 3) := by decide +kernel
theorem dX8_box_15 : decode cX8_box 15 = .ok (.iload_n 2, 1) := by decide +kernel
theorem dX8_box_16 : decode cX8_box 16 = .ok (.iconst 1, 1) := by decide +kernel
theorem dX8_box_17 : decode cX8_box 17 = .ok (.if_icmp .le 6, 3) := by decide +kernel
theorem dX8_box_20 : decode cX8_box 20 = .ok (.bipush (-2), 2) := by decide +kernel
theorem dX8_box_22 : decode cX8_box 22 = .ok (.ireturn, 1) := by decide +kernel
theorem dX8_box_23 : decode cX8_box 23 = .ok (.iload_n 2, 1) := by decide +kernel
theorem dX8_box_24 : decode cX8_box 24 = .ok (.ifCond .ne 14, 3) := by decide +kernel
theorem dX8_box_27 : decode cX8_box 27 = .ok (.aload_n 0, 1) := by decide +kernel
theorem dX8_box_28 : decode cX8_box 28 = .ok (.getfield 10, 3) := by decide +kernel
theorem dX8_box_31 : decode cX8_box 31 = .ok (.iload_n 1, 1) := by decide +kernel
theorem dX8_box_32 : decode cX8_box 32 = .ok (.invokevirtual 154, 3) := by decide +kernel
theorem dX8_box_35 : decode cX8_box 35 = .ok (.goto 11, 3) := by decide +kernel
theorem dX8_box_38 : decode cX8_box 38 = .ok (.aload_n 0, 1) := by decide +kernel
theorem dX8_box_39 : decode cX8_box 39 = .ok (.getfield 10, 3) := by decide +kernel
theorem dX8_box_42 : decode cX8_box 42 = .ok (.iload_n 1, 1) := by decide +kernel
theorem dX8_box_43 : decode cX8_box 43 = .ok (.invokevirtual 155, 3) := by decide +kernel
theorem dX8_box_46 : decode cX8_box 46 = .ok (.ireturn, 1) := by decide +kernel
set_option maxRecDepth 20000 in
theorem ggX8_rings_X0_survey : GoodIn wsX8_rings wsX0_survey := goodIn_r _ [6, 7, 8, 9, 10, 11, 12, 13, 14, 15, 16, 17, 5, 18, 19, 40, 41, 42, 43, 44] (by decide +kernel) (by decide +kernel)
set_option maxRecDepth 20000 in
theorem gX8_rings_X0_survey : GoodIn wsX8_rings (wsV RX8 158 RX0 yX0_survey wsX0_survey) := goodIn_app (goodIn_of _ (by decide +kernel)) ggX8_rings_X0_survey
theorem dX8_rings_0 : decode cX8_rings 0 = .ok (.iload_n 1, 1) := by decide +kernel
theorem dX8_rings_1 : decode cX8_rings 1 = .ok (.ifCond .lt 8, 3) := by decide +kernel
theorem dX8_rings_4 : decode cX8_rings 4 = .ok (.iload_n 1, 1) := by decide +kernel
theorem dX8_rings_5 : decode cX8_rings 5 = .ok (.iconst 2, 1) := by decide +kernel
theorem dX8_rings_6 : decode cX8_rings 6 = .ok (.if_icmp .le 6, 3) := by decide +kernel
theorem dX8_rings_9 : decode cX8_rings 9 = .ok (.bipush (-2), 2) := by decide +kernel
theorem dX8_rings_11 : decode cX8_rings 11 = .ok (.ireturn, 1) := by decide +kernel
theorem dX8_rings_12 : decode cX8_rings 12 = .ok (.aload_n 0, 1) := by decide +kernel
theorem dX8_rings_13 : decode cX8_rings 13 = .ok (.getfield 10, 3) := by decide +kernel
theorem dX8_rings_16 : decode cX8_rings 16 = .ok (.invokevirtual 158, 3) := by decide +kernel
theorem dX8_rings_19 : decode cX8_rings 19 = .ok (.iload_n 1, 1) := by decide +kernel
theorem dX8_rings_20 : decode cX8_rings 20 = .ok (.ifCond .ne 11, 3) := by decide +kernel
theorem dX8_rings_23 : decode cX8_rings 23 = .ok (.aload_n 0, 1) := by decide +kernel
theorem dX8_rings_24 : decode cX8_rings 24 = .ok (.getfield 10, 3) := by decide +kernel
theorem dX8_rings_27 : decode cX8_rings 27 = .ok (.getfield 161, 3) := by decide +kernel
theorem dX8_rings_30 : decode cX8_rings 30 = .ok (.ireturn, 1) := by decide +kernel
theorem dX8_rings_31 : decode cX8_rings 31 = .ok (.iload_n 1, 1) := by decide +kernel
theorem dX8_rings_32 : decode cX8_rings 32 = .ok (.iconst 1, 1) := by decide +kernel
theorem dX8_rings_33 : decode cX8_rings 33 = .ok (.if_icmp .ne 13, 3) := by decide +kernel
theorem dX8_rings_36 : decode cX8_rings 36 = .ok (.aload_n 0, 1) := by decide +kernel
theorem dX8_rings_37 : decode cX8_rings 37 = .ok (.getfield 10, 3) := by decide +kernel
theorem dX8_rings_40 : decode cX8_rings 40 = .ok (.getfield 164, 3) := by decide +kernel
theorem dX8_rings_43 : decode cX8_rings 43 = .ok (.goto 10, 3) := by decide +kernel
theorem dX8_rings_46 : decode cX8_rings 46 = .ok (.aload_n 0, 1) := by decide +kernel
theorem dX8_rings_47 : decode cX8_rings 47 = .ok (.getfield 10, 3) := by decide +kernel
theorem dX8_rings_50 : decode cX8_rings 50 = .ok (.getfield 167, 3) := by decide +kernel
theorem dX8_rings_53 : decode cX8_rings 53 = .ok (.ireturn, 1) := by decide +kernel
set_option maxRecDepth 20000 in
theorem ggX8_feed_X5_add : GoodIn wsX8_feed wsX5_add := goodIn_r _ [6, 7, 8, 29, 30] (by decide +kernel) (by decide +kernel)
set_option maxRecDepth 20000 in
theorem gX8_feed_X5_add : GoodIn wsX8_feed (wsV RX8 114 RX5 yX5_add wsX5_add) := goodIn_app (goodIn_of _ (by decide +kernel)) ggX8_feed_X5_add
theorem dX8_feed_0 : decode cX8_feed 0 = .ok (.iload_n 1, 1) := by decide +kernel
theorem dX8_feed_1 : decode cX8_feed 1 = .ok (.iconst 1, 1) := by decide +kernel
theorem dX8_feed_2 : decode cX8_feed 2 = .ok (.if_icmp .lt 9, 3) := by decide +kernel
theorem dX8_feed_5 : decode cX8_feed 5 = .ok (.iload_n 1, 1) := by decide +kernel
theorem dX8_feed_6 : decode cX8_feed 6 = .ok (.bipush 8, 2) := by decide +kernel
theorem dX8_feed_8 : decode cX8_feed 8 = .ok (.if_icmp .le 6, 3) := by decide +kernel
theorem dX8_feed_11 : decode cX8_feed 11 = .ok (.bipush (-2), 2) := by decide +kernel
theorem dX8_feed_13 : decode cX8_feed 13 = .ok (.ireturn, 1) := by decide +kernel
theorem dX8_feed_14 : decode cX8_feed 14 = .ok (.iload_n 1, 1) := by decide +kernel
theorem dX8_feed_15 : decode cX8_feed 15 = .ok (.sipush 160, 3) := by decide +kernel
theorem dX8_feed_18 : decode cX8_feed 18 = .ok (.aload_n 0, 1) := by decide +kernel
theorem dX8_feed_19 : decode cX8_feed 19 = .ok (.getfield 61, 3) := by decide +kernel
theorem dX8_feed_22 : decode cX8_feed 22 = .ok (.getfield 170, 3) := by decide +kernel
theorem dX8_feed_25 : decode cX8_feed 25 = .ok (.isub, 1) := by decide +kernel
theorem dX8_feed_26 : decode cX8_feed 26 = .ok (.if_icmp .le 6, 3) := by decide +kernel
theorem dX8_feed_29 : decode cX8_feed 29 = .ok (.bipush (-4), 2) := by decide +kernel
theorem dX8_feed_31 : decode cX8_feed 31 = .ok (.ireturn, 1) := by decide +kernel
theorem dX8_feed_32 : decode cX8_feed 32 = .ok (.iconst 0, 1) := by decide +kernel
theorem dX8_feed_33 : decode cX8_feed 33 = .ok (.istore 4, 2) := by decide +kernel
theorem dX8_feed_35 : decode cX8_feed 35 = .ok (.iload 4, 2) := by decide +kernel
theorem dX8_feed_37 : decode cX8_feed 37 = .ok (.iload_n 1, 1) := by decide +kernel
theorem dX8_feed_38 : decode cX8_feed 38 = .ok (.if_icmp .ge 28, 3) := by decide +kernel
theorem dX8_feed_41 : decode cX8_feed 41 = .ok (.aload_n 0, 1) := by decide +kernel
theorem dX8_feed_42 : decode cX8_feed 42 = .ok (.getfield 61, 3) := by decide +kernel
theorem dX8_feed_45 : decode cX8_feed 45 = .ok (.lload_n 2, 1) := by decide +kernel
theorem dX8_feed_46 : decode cX8_feed 46 = .ok (.bipush 8, 2) := by decide +kernel
theorem dX8_feed_48 : decode cX8_feed 48 = .ok (.iload 4, 2) := by decide +kernel
theorem dX8_feed_50 : decode cX8_feed 50 = .ok (.imul, 1) := by decide +kernel
theorem dX8_feed_51 : decode cX8_feed 51 = .ok (.lshr, 1) := by decide +kernel
theorem dX8_feed_52 : decode cX8_feed 52 = .ok (.l2i, 1) := by decide +kernel
theorem dX8_feed_53 : decode cX8_feed 53 = .ok (.sipush 255, 3) := by decide +kernel
theorem dX8_feed_56 : decode cX8_feed 56 = .ok (.iand, 1) := by decide +kernel
theorem dX8_feed_57 : decode cX8_feed 57 = .ok (.invokevirtual 114, 3) := by decide +kernel
theorem dX8_feed_60 : decode cX8_feed 60 = .ok (.iinc 4 1, 3) := by decide +kernel
theorem dX8_feed_63 : decode cX8_feed 63 = .ok (.goto (-28), 3) := by decide +kernel
theorem dX8_feed_66 : decode cX8_feed 66 = .ok (.aload_n 0, 1) := by decide +kernel
theorem dX8_feed_67 : decode cX8_feed 67 = .ok (.getfield 61, 3) := by decide +kernel
theorem dX8_feed_70 : decode cX8_feed 70 = .ok (.getfield 170, 3) := by decide +kernel
theorem dX8_feed_73 : decode cX8_feed 73 = .ok (.ireturn, 1) := by decide +kernel
set_option maxRecDepth 20000 in
theorem ggX8_text_X2_readText : GoodIn wsX8_text wsX2_readText := goodIn_r _ [9, 10, 11, 12, 13, 14, 15, 16, 17, 18, 19, 20, 21, 22, 23, 8, 24, 25, 26, 27, 28, 29, 30, 31, 32, 33, 34, 35, 36, 37, 38, 39, 40, 41, 42, 43, 44, 45, 46, 47, 48, 49, 50, 51, 52, 53, 54, 55, 56, 57, 58, 59, 60, 61, 62, 63, 64, 65, 66, 67, 68, 69, 70, 71, 72, 73, 74, 75, 76, 77, 78, 79, 80, 81, 82, 83, 84, 85, 86, 87, 88, 89, 90, 91, 92, 93, 94, 95, 96, 97, 98, 99, 100, 101, 102, 103, 104, 105, 106, 107, 108, 109, 110, 111, 112, 113, 114, 115, 116, 117, 118, 119, 120, 121, 122, 123, 124, 125, 126, 127, 128, 129, 130, 131, 132, 133, 134, 135, 136, 137, 138, 139, 140, 141, 142, 143, 144, 145, 146, 171, 172, 173, 174, 175, 176, 177, 178, 179, 180, 181, 182] (by decide +kernel) (by decide +kernel)
set_option maxRecDepth 20000 in
theorem gX8_text_X2_readText : GoodIn wsX8_text (wsV RX8 117 RX2 yX2_readText wsX2_readText) := goodIn_app (goodIn_of _ (by decide +kernel)) ggX8_text_X2_readText
set_option maxRecDepth 20000 in
theorem ggX8_text_X5_clear : GoodIn wsX8_text wsX5_clear := goodIn_r _ [150, 30, 181, 182] (by decide +kernel) (by decide +kernel)
set_option maxRecDepth 20000 in
theorem gX8_text_X5_clear : GoodIn wsX8_text (wsV RX8 121 RX5 yX5_clear wsX5_clear) := goodIn_app (goodIn_of _ (by decide +kernel)) ggX8_text_X5_clear
theorem dX8_text_0 : decode cX8_text 0 = .ok (.aload_n 0, 1) := by decide +kernel
theorem dX8_text_1 : decode cX8_text 1 = .ok (.getfield 55, 3) := by decide +kernel
theorem dX8_text_4 : decode cX8_text 4 = .ok (.bipush 6, 2) := by decide +kernel
theorem dX8_text_6 : decode cX8_text 6 = .ok (.if_icmp .lt 6, 3) := by decide +kernel
theorem dX8_text_9 : decode cX8_text 9 = .ok (.bipush (-4), 2) := by decide +kernel
theorem dX8_text_11 : decode cX8_text 11 = .ok (.ireturn, 1) := by decide +kernel
theorem dX8_text_12 : decode cX8_text 12 = .ok (.aload_n 0, 1) := by decide +kernel
theorem dX8_text_13 : decode cX8_text 13 = .ok (.getfield 68, 3) := by decide +kernel
theorem dX8_text_16 : decode cX8_text 16 = .ok (.aload_n 0, 1) := by decide +kernel
theorem dX8_text_17 : decode cX8_text 17 = .ok (.getfield 61, 3) := by decide +kernel
theorem dX8_text_20 : decode cX8_text 20 = .ok (.aload_n 0, 1) := by decide +kernel
theorem dX8_text_21 : decode cX8_text 21 = .ok (.getfield 51, 3) := by decide +kernel
theorem dX8_text_24 : decode cX8_text 24 = .ok (.aload_n 0, 1) := by decide +kernel
theorem dX8_text_25 : decode cX8_text 25 = .ok (.getfield 55, 3) := by decide +kernel
theorem dX8_text_28 : decode cX8_text 28 = .ok (.aaload, 1) := by decide +kernel
theorem dX8_text_29 : decode cX8_text 29 = .ok (.invokevirtual 117, 3) := by decide +kernel
theorem dX8_text_32 : decode cX8_text 32 = .ok (.istore_n 1, 1) := by decide +kernel
theorem dX8_text_33 : decode cX8_text 33 = .ok (.aload_n 0, 1) := by decide +kernel
theorem dX8_text_34 : decode cX8_text 34 = .ok (.getfield 61, 3) := by decide +kernel
theorem dX8_text_37 : decode cX8_text 37 = .ok (.invokevirtual 121, 3) := by decide +kernel
theorem dX8_text_40 : decode cX8_text 40 = .ok (.iload_n 1, 1) := by decide +kernel
theorem dX8_text_41 : decode cX8_text 41 = .ok (.iconst (-1), 1) := by decide +kernel
theorem dX8_text_42 : decode cX8_text 42 = .ok (.if_icmp .eq 8, 3) := by decide +kernel
theorem dX8_text_45 : decode cX8_text 45 = .ok (.bipush (-100), 2) := by decide +kernel
theorem dX8_text_47 : decode cX8_text 47 = .ok (.iload_n 1, 1) := by decide +kernel
theorem dX8_text_48 : decode cX8_text 48 = .ok (.isub, 1) := by decide +kernel
theorem dX8_text_49 : decode cX8_text 49 = .ok (.ireturn, 1) := by decide +kernel
theorem dX8_text_50 : decode cX8_text 50 = .ok (.aload_n 0, 1) := by decide +kernel
theorem dX8_text_51 : decode cX8_text 51 = .ok (.dup, 1) := by decide +kernel
theorem dX8_text_52 : decode cX8_text 52 = .ok (.getfield 55, 3) := by decide +kernel
theorem dX8_text_55 : decode cX8_text 55 = .ok (.iconst 1, 1) := by decide +kernel
theorem dX8_text_56 : decode cX8_text 56 = .ok (.iadd, 1) := by decide +kernel
theorem dX8_text_57 : decode cX8_text 57 = .ok (.putfield 55, 3) := by decide +kernel
theorem dX8_text_60 : decode cX8_text 60 = .ok (.aload_n 0, 1) := by decide +kernel
theorem dX8_text_61 : decode cX8_text 61 = .ok (.getfield 55, 3) := by decide +kernel
theorem dX8_text_64 : decode cX8_text 64 = .ok (.iconst 1, 1) := by decide +kernel
theorem dX8_text_65 : decode cX8_text 65 = .ok (.isub, 1) := by decide +kernel
theorem dX8_text_66 : decode cX8_text 66 = .ok (.ireturn, 1) := by decide +kernel
theorem dX8_force_0 : decode cX8_force 0 = .ok (.iload_n 1, 1) := by decide +kernel
theorem dX8_force_1 : decode cX8_force 1 = .ok (.ifCond .lt 11, 3) := by decide +kernel
theorem dX8_force_4 : decode cX8_force 4 = .ok (.iload_n 1, 1) := by decide +kernel
theorem dX8_force_5 : decode cX8_force 5 = .ok (.aload_n 0, 1) := by decide +kernel
theorem dX8_force_6 : decode cX8_force 6 = .ok (.getfield 55, 3) := by decide +kernel
theorem dX8_force_9 : decode cX8_force 9 = .ok (.if_icmp .lt 6, 3) := by decide +kernel
theorem dX8_force_12 : decode cX8_force 12 = .ok (.bipush (-2), 2) := by decide +kernel
theorem dX8_force_14 : decode cX8_force 14 = .ok (.ireturn, 1) := by decide +kernel
theorem dX8_force_15 : decode cX8_force 15 = .ok (.aload_n 0, 1) := by decide +kernel
theorem dX8_force_16 : decode cX8_force 16 = .ok (.getfield 20, 3) := by decide +kernel
theorem dX8_force_19 : decode cX8_force 19 = .ok (.istore_n 2, 1) := by decide +kernel
theorem dX8_force_20 : decode cX8_force 20 = .ok (.aload_n 0, 1) := by decide +kernel
theorem dX8_force_21 : decode cX8_force 21 = .ok (.iload_n 1, 1) := by decide +kernel
theorem dX8_force_22 : decode cX8_force 22 = .ok (.putfield 20, 3) := by decide +kernel
theorem dX8_force_25 : decode cX8_force 25 = .ok (.iload_n 2, 1) := by decide +kernel
theorem dX8_force_26 : decode cX8_force 26 = .ok (.ireturn, 1) := by decide +kernel
set_option maxRecDepth 20000 in
theorem ggX8_bet_X8_noteLaying : GoodIn wsX8_bet wsX8_noteLaying := goodIn_r _ [7, 2, 8, 9, 10, 11, 12, 13, 14, 15, 16, 17, 18, 19, 20, 21, 22, 23, 24, 25, 57, 58, 59, 60, 61, 62, 63, 64, 65, 66, 67, 68, 69, 70, 71, 72, 73, 74, 75, 76, 77, 78, 79, 80, 81] (by decide +kernel) (by decide +kernel)
set_option maxRecDepth 20000 in
theorem gX8_bet_X8_noteLaying : GoodIn wsX8_bet (wsV RX8 171 RX8 yX8_noteLaying wsX8_noteLaying) := goodIn_app (goodIn_of _ (by decide +kernel)) ggX8_bet_X8_noteLaying
set_option maxRecDepth 20000 in
theorem ggX8_bet_X8_worth : GoodIn wsX8_bet wsX8_worth := goodIn_r _ [29, 30, 31, 32, 2, 33, 34, 35, 36, 37, 38, 39, 40, 41, 42, 43, 44, 45, 46, 47, 48, 49, 50, 51, 52, 53, 54, 55, 56, 57, 58, 59, 60, 61, 62, 63, 64, 65, 66, 67, 68, 69, 70, 71, 72, 73, 74, 75, 76, 82, 83, 84, 85, 86] (by decide +kernel) (by decide +kernel)
set_option maxRecDepth 20000 in
theorem gX8_bet_X8_worth : GoodIn wsX8_bet (wsV RX8 175 RX8 yX8_worth wsX8_worth) := goodIn_app (goodIn_of _ (by decide +kernel)) ggX8_bet_X8_worth
theorem dX8_bet_0 : decode cX8_bet 0 = .ok (.aload_n 0, 1) := by decide +kernel
theorem dX8_bet_1 : decode cX8_bet 1 = .ok (.aload_n 0, 1) := by decide +kernel
theorem dX8_bet_2 : decode cX8_bet 2 = .ok (.getfield 10, 3) := by decide +kernel
theorem dX8_bet_5 : decode cX8_bet 5 = .ok (.invokevirtual 171, 3) := by decide +kernel
theorem dX8_bet_8 : decode cX8_bet 8 = .ok (.aload_n 0, 1) := by decide +kernel
theorem dX8_bet_9 : decode cX8_bet 9 = .ok (.getfield 81, 3) := by decide +kernel
theorem dX8_bet_12 : decode cX8_bet 12 = .ok (.iconst 0, 1) := by decide +kernel
theorem dX8_bet_13 : decode cX8_bet 13 = .ok (.iconst 0, 1) := by decide +kernel
theorem dX8_bet_14 : decode cX8_bet 14 = .ok (.iastore, 1) := by decide +kernel
theorem dX8_bet_15 : decode cX8_bet 15 = .ok (.aload_n 0, 1) := by decide +kernel
theorem dX8_bet_16 : decode cX8_bet 16 = .ok (.getfield 81, 3) := by decide +kernel
theorem dX8_bet_19 : decode cX8_bet 19 = .ok (.iconst 2, 1) := by decide +kernel
theorem dX8_bet_20 : decode cX8_bet 20 = .ok (.iconst 0, 1) := by decide +kernel
theorem dX8_bet_21 : decode cX8_bet 21 = .ok (.iastore, 1) := by decide +kernel
theorem dX8_bet_22 : decode cX8_bet 22 = .ok (.aload_n 0, 1) := by decide +kernel
theorem dX8_bet_23 : decode cX8_bet 23 = .ok (.iconst 2, 1) := by decide +kernel
theorem dX8_bet_24 : decode cX8_bet 24 = .ok (.invokevirtual 175, 3) := by decide +kernel
theorem dX8_bet_27 : decode cX8_bet 27 = .ok (.ireturn, 1) := by decide +kernel
set_option maxRecDepth 20000 in
theorem ggX8_plan_X1_isKind : GoodIn wsX8_plan wsX1_isKind := goodIn_r _ [8] (by decide +kernel) (by decide +kernel)
set_option maxRecDepth 20000 in
theorem gX8_plan_X1_isKind : GoodIn wsX8_plan (va_wsS RX8 178 yX1_isKind wsX1_isKind) := goodIn_app (goodIn_of _ (by decide +kernel)) ggX8_plan_X1_isKind
set_option maxRecDepth 20000 in
theorem ggX8_plan_X1_init : GoodIn wsX8_plan wsX1_init := goodIn_r _ [11, 12, 13, 14, 15, 16, 17, 18, 19, 20, 21, 22, 23, 24, 48, 49, 50, 51, 52, 53, 54, 45, 46, 47] (by decide +kernel) (by decide +kernel)
set_option maxRecDepth 20000 in
theorem gX8_plan_X1_init : GoodIn wsX8_plan (wsX1_init) := ggX8_plan_X1_init
theorem dX8_plan_0 : decode cX8_plan 0 = .ok (.iload_n 1, 1) := by decide +kernel
theorem dX8_plan_1 : decode cX8_plan 1 = .ok (.invokestatic 178, 3) := by decide +kernel
theorem dX8_plan_4 : decode cX8_plan 4 = .ok (.ifCond .eq 13, 3) := by decide +kernel
theorem dX8_plan_7 : decode cX8_plan 7 = .ok (.iload_n 2, 1) := by decide +kernel
theorem dX8_plan_8 : decode cX8_plan 8 = .ok (.ifCond .lt 9, 3) := by decide +kernel
theorem dX8_plan_11 : decode cX8_plan 11 = .ok (.iload_n 2, 1) := by decide +kernel
theorem dX8_plan_12 : decode cX8_plan 12 = .ok (.bipush 11, 2) := by decide +kernel
theorem dX8_plan_14 : decode cX8_plan 14 = .ok (.if_icmp .le 6, 3) := by decide +kernel
theorem dX8_plan_17 : decode cX8_plan 17 = .ok (.bipush (-2), 2) := by decide +kernel
theorem dX8_plan_19 : decode cX8_plan 19 = .ok (.ireturn, 1) := by decide +kernel
theorem dX8_plan_20 : decode cX8_plan 20 = .ok (.aload_n 0, 1) := by decide +kernel
theorem dX8_plan_21 : decode cX8_plan 21 = .ok (.getfield 36, 3) := by decide +kernel
theorem dX8_plan_24 : decode cX8_plan 24 = .ok (.bipush 8, 2) := by decide +kernel
theorem dX8_plan_26 : decode cX8_plan 26 = .ok (.if_icmp .lt 6, 3) := by decide +kernel
theorem dX8_plan_29 : decode cX8_plan 29 = .ok (.bipush (-4), 2) := by decide +kernel
theorem dX8_plan_31 : decode cX8_plan 31 = .ok (.ireturn, 1) := by decide +kernel
theorem dX8_plan_32 : decode cX8_plan 32 = .ok (.aload_n 0, 1) := by decide +kernel
theorem dX8_plan_33 : decode cX8_plan 33 = .ok (.getfield 32, 3) := by decide +kernel
theorem dX8_plan_36 : decode cX8_plan 36 = .ok (.aload_n 0, 1) := by decide +kernel
theorem dX8_plan_37 : decode cX8_plan 37 = .ok (.getfield 36, 3) := by decide +kernel
theorem dX8_plan_40 : decode cX8_plan 40 = .ok (.new 30, 3) := by decide +kernel
theorem dX8_plan_43 : decode cX8_plan 43 = .ok (.dup, 1) := by decide +kernel
theorem dX8_plan_44 : decode cX8_plan 44 = .ok (.iload_n 1, 1) := by decide +kernel
theorem dX8_plan_45 : decode cX8_plan 45 = .ok (.iload_n 2, 1) := by decide +kernel
theorem dX8_plan_46 : decode cX8_plan 46 = .ok (.invokespecial 42, 3) := by decide +kernel
theorem dX8_plan_49 : decode cX8_plan 49 = .ok (.aastore, 1) := by decide +kernel
theorem dX8_plan_50 : decode cX8_plan 50 = .ok (.aload_n 0, 1) := by decide +kernel
theorem dX8_plan_51 : decode cX8_plan 51 = .ok (.dup, 1) := by decide +kernel
theorem dX8_plan_52 : decode cX8_plan 52 = .ok (.getfield 36, 3) := by decide +kernel
theorem dX8_plan_55 : decode cX8_plan 55 = .ok (.iconst 1, 1) := by decide +kernel
theorem dX8_plan_56 : decode cX8_plan 56 = .ok (.iadd, 1) := by decide +kernel
theorem dX8_plan_57 : decode cX8_plan 57 = .ok (.putfield 36, 3) := by decide +kernel
theorem dX8_plan_60 : decode cX8_plan 60 = .ok (.aload_n 0, 1) := by decide +kernel
theorem dX8_plan_61 : decode cX8_plan 61 = .ok (.getfield 36, 3) := by decide +kernel
theorem dX8_plan_64 : decode cX8_plan 64 = .ok (.iconst 1, 1) := by decide +kernel
theorem dX8_plan_65 : decode cX8_plan 65 = .ok (.isub, 1) := by decide +kernel
theorem dX8_plan_66 : decode cX8_plan 66 = .ok (.ireturn, 1) := by decide +kernel
set_option maxRecDepth 20000 in
theorem ggX8_next_X8_planAt : GoodIn wsX8_next wsX8_planAt := goodIn_r _ [6, 7, 8, 31, 32, 33, 34, 35, 36, 37, 38, 39, 40, 41, 42, 43, 44, 45, 46, 47, 48, 49, 50] (by decide +kernel) (by decide +kernel)
set_option maxRecDepth 20000 in
theorem gX8_next_X8_planAt : GoodIn wsX8_next (wsV RX8 181 RX8 yX8_planAt wsX8_planAt) := goodIn_app (goodIn_of _ (by decide +kernel)) ggX8_next_X8_planAt
set_option maxRecDepth 20000 in
theorem ggX8_next_X0_has : GoodIn wsX8_next wsX0_has := goodIn_r _ [13, 14, 51, 52, 53, 54, 55] (by decide +kernel) (by decide +kernel)
set_option maxRecDepth 20000 in
theorem gX8_next_X0_has : GoodIn wsX8_next (wsV RX8 147 RX0 yX0_has wsX0_has) := goodIn_app (goodIn_of _ (by decide +kernel)) ggX8_next_X0_has
set_option maxRecDepth 20000 in
theorem ggX8_next_X1_firstBox : GoodIn wsX8_next wsX1_firstBox := goodIn_r _ [19, 20, 21, 56, 57, 58] (by decide +kernel) (by decide +kernel)
set_option maxRecDepth 20000 in
theorem gX8_next_X1_firstBox : GoodIn wsX8_next (wsV RX8 185 RX1 yX1_firstBox wsX1_firstBox) := goodIn_app (goodIn_of _ (by decide +kernel)) ggX8_next_X1_firstBox
set_option maxRecDepth 20000 in
theorem ggX8_next_X0_at : GoodIn wsX8_next wsX0_at := goodIn_r _ [25, 14, 26, 51, 52, 53, 54, 55] (by decide +kernel) (by decide +kernel)
set_option maxRecDepth 20000 in
theorem gX8_next_X0_at : GoodIn wsX8_next (wsV RX8 154 RX0 yX0_at wsX0_at) := goodIn_app (goodIn_of _ (by decide +kernel)) ggX8_next_X0_at
set_option maxRecDepth 20000 in
theorem ggX8_next_X1_boxBehind : GoodIn wsX8_next wsX1_boxBehind := goodIn_r _ [30, 20, 21, 56, 57, 58] (by decide +kernel) (by decide +kernel)
set_option maxRecDepth 20000 in
theorem gX8_next_X1_boxBehind : GoodIn wsX8_next (wsV RX8 189 RX1 yX1_boxBehind wsX1_boxBehind) := goodIn_app (goodIn_of _ (by decide +kernel)) ggX8_next_X1_boxBehind
theorem dX8_next_0 : decode cX8_next 0 = .ok (.aload_n 0, 1) := by decide +kernel
theorem dX8_next_1 : decode cX8_next 1 = .ok (.iload_n 1, 1) := by decide +kernel
theorem dX8_next_2 : decode cX8_next 2 = .ok (.invokevirtual 181, 3) := by decide +kernel
theorem dX8_next_5 : decode cX8_next 5 = .ok (.astore 5, 2) := by decide +kernel
theorem dX8_next_7 : decode cX8_next 7 = .ok (.aload 5, 2) := by decide +kernel
theorem dX8_next_9 : decode cX8_next 9 = .ok (.ifnull 26, 3) := by decide +kernel
theorem dX8_next_12 : decode cX8_next 12 = .ok (.aload_n 0, 1) := by decide +kernel
theorem dX8_next_13 : decode cX8_next 13 = .ok (.getfield 10, 3) := by decide +kernel
theorem dX8_next_16 : decode cX8_next 16 = .ok (.iload_n 2, 1) := by decide +kernel
theorem dX8_next_17 : decode cX8_next 17 = .ok (.invokevirtual 147, 3) := by decide +kernel
theorem dX8_next_20 : decode cX8_next 20 = .ok (.ifCond .eq 15, 3) := by decide +kernel
theorem dX8_next_23 : decode cX8_next 23 = .ok (.iload 4, 2) := by decide +kernel
theorem dX8_next_25 : decode cX8_next 25 = .ok (.ifCond .lt 10, 3) := by decide +kernel
theorem dX8_next_28 : decode cX8_next 28 = .ok (.iload 4, 2) := by decide +kernel
theorem dX8_next_30 : decode cX8_next 30 = .ok (.bipush 12, 2) := by decide +kernel
theorem dX8_next_32 : decode cX8_next 32 = .ok (.if_icmp .le 6, 3) := by decide +kernel
theorem dX8_next_35 : decode cX8_next 35 = .ok (.bipush (-2), 2) := by decide +kernel
theorem dX8_next_37 : decode cX8_next 37 = .ok (.ireturn, 1) := by decide +kernel
theorem dX8_next_38 : decode cX8_next 38 = .ok (.iload 4, 2) := by decide +kernel
theorem dX8_next_40 : decode cX8_next 40 = .ok (.ifCond .ne 17, 3) := by decide +kernel
theorem dX8_next_43 : decode cX8_next 43 = .ok (.aload 5, 2) := by decide +kernel
theorem dX8_next_45 : decode cX8_next 45 = .ok (.iload_n 2, 1) := by decide +kernel
theorem dX8_next_46 : decode cX8_next 46 = .ok (.aload_n 0, 1) := by decide +kernel
theorem dX8_next_47 : decode cX8_next 47 = .ok (.getfield 10, 3) := by decide +kernel
theorem dX8_next_50 : decode cX8_next 50 = .ok (.getfield 124, 3) := by decide +kernel
theorem dX8_next_53 : decode cX8_next 53 = .ok (.invokevirtual 185, 3) := by decide +kernel
theorem dX8_next_56 : decode cX8_next 56 = .ok (.ireturn, 1) := by decide +kernel
theorem dX8_next_57 : decode cX8_next 57 = .ok (.aload_n 0, 1) := by decide +kernel
theorem dX8_next_58 : decode cX8_next 58 = .ok (.getfield 10, 3) := by decide +kernel
theorem dX8_next_61 : decode cX8_next 61 = .ok (.iload_n 3, 1) := by decide +kernel
theorem dX8_next_62 : decode cX8_next 62 = .ok (.invokevirtual 147, 3) := by decide +kernel
theorem dX8_next_65 : decode cX8_next 65 = .ok (.ifCond .ne 6, 3) := by decide +kernel
theorem dX8_next_68 : decode cX8_next 68 = .ok (.bipush (-2), 2) := by decide +kernel
theorem dX8_next_70 : decode cX8_next 70 = .ok (.ireturn, 1) := by decide +kernel
theorem dX8_next_71 : decode cX8_next 71 = .ok (.aload 5, 2) := by decide +kernel
theorem dX8_next_73 : decode cX8_next 73 = .ok (.iload_n 3, 1) := by decide +kernel
theorem dX8_next_74 : decode cX8_next 74 = .ok (.aload_n 0, 1) := by decide +kernel
theorem dX8_next_75 : decode cX8_next 75 = .ok (.getfield 10, 3) := by decide +kernel
theorem dX8_next_78 : decode cX8_next 78 = .ok (.iload_n 3, 1) := by decide +kernel
theorem dX8_next_79 : decode cX8_next 79 = .ok (.invokevirtual 154, 3) := by decide +kernel
theorem dX8_next_82 : decode cX8_next 82 = .ok (.iload 4, 2) := by decide +kernel
theorem dX8_next_84 : decode cX8_next 84 = .ok (.aload_n 0, 1) := by decide +kernel
theorem dX8_next_85 : decode cX8_next 85 = .ok (.getfield 10, 3) := by decide +kernel
theorem dX8_next_88 : decode cX8_next 88 = .ok (.getfield 124, 3) := by decide +kernel
theorem dX8_next_91 : decode cX8_next 91 = .ok (.invokevirtual 189, 3) := by decide +kernel
theorem dX8_next_94 : decode cX8_next 94 = .ok (.ireturn, 1) := by decide +kernel
set_option maxRecDepth 20000 in
theorem ggX8_found_X8_planAt : GoodIn wsX8_found wsX8_planAt := goodIn_r _ [6, 7, 8, 44, 45, 46, 47, 48, 49, 50, 51, 52, 53, 54, 55, 56, 57, 58, 59, 60, 61, 62, 63] (by decide +kernel) (by decide +kernel)
set_option maxRecDepth 20000 in
theorem gX8_found_X8_planAt : GoodIn wsX8_found (wsV RX8 181 RX8 yX8_planAt wsX8_planAt) := goodIn_app (goodIn_of _ (by decide +kernel)) ggX8_found_X8_planAt
set_option maxRecDepth 20000 in
theorem ggX8_found_X0_has : GoodIn wsX8_found wsX0_has := goodIn_r _ [13, 14, 64, 65, 66, 67, 68] (by decide +kernel) (by decide +kernel)
set_option maxRecDepth 20000 in
theorem gX8_found_X0_has : GoodIn wsX8_found (wsV RX8 147 RX0 yX0_has wsX0_has) := goodIn_app (goodIn_of _ (by decide +kernel)) ggX8_found_X0_has
set_option maxRecDepth 20000 in
theorem ggX8_found_X8_looksOfEach : GoodIn wsX8_found wsX8_looksOfEach := goodIn_r _ [18, 19, 1, 20, 21, 22, 23, 44, 45, 46, 47, 48, 49, 50, 51, 52, 53, 54, 55, 56, 57, 58, 59, 60, 61, 62, 63, 64, 65, 66, 67, 68] (by decide +kernel) (by decide +kernel)
set_option maxRecDepth 20000 in
theorem gX8_found_X8_looksOfEach : GoodIn wsX8_found (wsV RX8 193 RX8 yX8_looksOfEach wsX8_looksOfEach) := goodIn_app (goodIn_of _ (by decide +kernel)) ggX8_found_X8_looksOfEach
set_option maxRecDepth 20000 in
theorem ggX8_found_X1_lookThatFinds : GoodIn wsX8_found wsX1_lookThatFinds := goodIn_r _ [28, 29, 30, 31, 27, 32, 33, 34, 35, 36, 37, 12, 38, 14, 39, 40, 41, 42, 43, 64, 65, 66, 67, 68, 69, 70, 71] (by decide +kernel) (by decide +kernel)
set_option maxRecDepth 20000 in
theorem gX8_found_X1_lookThatFinds : GoodIn wsX8_found (wsV RX8 196 RX1 yX1_lookThatFinds wsX1_lookThatFinds) := goodIn_app (goodIn_of _ (by decide +kernel)) ggX8_found_X1_lookThatFinds
theorem dX8_found_0 : decode cX8_found 0 = .ok (.aload_n 0, 1) := by decide +kernel
theorem dX8_found_1 : decode cX8_found 1 = .ok (.iload_n 1, 1) := by decide +kernel
theorem dX8_found_2 : decode cX8_found 2 = .ok (.invokevirtual 181, 3) := by decide +kernel
theorem dX8_found_5 : decode cX8_found 5 = .ok (.astore_n 3, 1) := by decide +kernel
theorem dX8_found_6 : decode cX8_found 6 = .ok (.aload_n 3, 1) := by decide +kernel
theorem dX8_found_7 : decode cX8_found 7 = .ok (.ifnull 14, 3) := by decide +kernel
theorem dX8_found_10 : decode cX8_found 10 = .ok (.aload_n 0, 1) := by decide +kernel
theorem dX8_found_11 : decode cX8_found 11 = .ok (.getfield 10, 3) := by decide +kernel
theorem dX8_found_14 : decode cX8_found 14 = .ok (.iload_n 2, 1) := by decide +kernel
theorem dX8_found_15 : decode cX8_found 15 = .ok (.invokevirtual 147, 3) := by decide +kernel
theorem dX8_found_18 : decode cX8_found 18 = .ok (.ifCond .ne 6, 3) := by decide +kernel
theorem dX8_found_21 : decode cX8_found 21 = .ok (.bipush (-2), 2) := by decide +kernel
theorem dX8_found_23 : decode cX8_found 23 = .ok (.ireturn, 1) := by decide +kernel
theorem dX8_found_24 : decode cX8_found 24 = .ok (.aload_n 3, 1) := by decide +kernel
theorem dX8_found_25 : decode cX8_found 25 = .ok (.aload_n 0, 1) := by decide +kernel
theorem dX8_found_26 : decode cX8_found 26 = .ok (.getfield 10, 3) := by decide +kernel
theorem dX8_found_29 : decode cX8_found 29 = .ok (.iload_n 2, 1) := by decide +kernel
theorem dX8_found_30 : decode cX8_found 30 = .ok (.aload_n 0, 1) := by decide +kernel
theorem dX8_found_31 : decode cX8_found 31 = .ok (.invokevirtual 193, 3) := by decide +kernel
theorem dX8_found_34 : decode cX8_found 34 = .ok (.invokevirtual 196, 3) := by decide +kernel
theorem dX8_found_37 : decode cX8_found 37 = .ok (.ireturn, 1) := by decide +kernel
set_option maxRecDepth 20000 in
theorem ggX8_run_X8_planAt : GoodIn wsX8_run wsX8_planAt := goodIn_r _ [7, 8, 9, 96, 97, 98, 99, 100, 101, 102, 103, 104, 105, 106, 107, 108, 109, 110, 111, 112, 113, 114, 115] (by decide +kernel) (by decide +kernel)
set_option maxRecDepth 20000 in
theorem gX8_run_X8_planAt : GoodIn wsX8_run (wsV RX8 181 RX8 yX8_planAt wsX8_planAt) := goodIn_app (goodIn_of _ (by decide +kernel)) ggX8_run_X8_planAt
set_option maxRecDepth 20000 in
theorem ggX8_run_X8_noteLaying : GoodIn wsX8_run wsX8_noteLaying := goodIn_r _ [13, 2, 14, 15, 16, 17, 18, 19, 20, 21, 22, 23, 24, 25, 26, 27, 28, 29, 30, 31, 96, 97, 98, 99, 100, 101, 102, 103, 104, 105, 106, 107, 108, 109, 110, 111, 112, 113, 114, 115, 116, 117, 118, 119, 120] (by decide +kernel) (by decide +kernel)
set_option maxRecDepth 20000 in
theorem gX8_run_X8_noteLaying : GoodIn wsX8_run (wsV RX8 171 RX8 yX8_noteLaying wsX8_noteLaying) := goodIn_app (goodIn_of _ (by decide +kernel)) ggX8_run_X8_noteLaying
set_option maxRecDepth 20000 in
theorem ggX8_run_X8_goHome : GoodIn wsX8_run wsX8_goHome := goodIn_r _ [35, 36, 37, 25, 38, 39, 24, 26, 40, 41, 42, 6, 43, 2, 44, 45, 46, 47, 48, 1, 49, 50, 51, 52, 53, 54, 55, 56, 57, 58, 59, 60, 28, 29, 17, 30, 22, 31, 61, 62, 63, 64, 65, 66, 67, 68, 69, 70, 71, 72, 73, 74, 75, 76, 77, 78, 79, 80, 81, 82, 83, 84, 85, 86, 87, 88, 89, 90, 91, 92, 93, 94, 95, 116, 117, 118, 119, 120, 96, 97, 98, 99, 100, 101, 102, 103, 104, 105, 106, 107, 108, 109, 110, 111, 112, 113, 114, 115, 121, 122, 123, 124, 125, 126, 127, 128] (by decide +kernel) (by decide +kernel)
set_option maxRecDepth 20000 in
theorem gX8_run_X8_goHome : GoodIn wsX8_run (wsV RX8 200 RX8 yX8_goHome wsX8_goHome) := goodIn_app (goodIn_of _ (by decide +kernel)) ggX8_run_X8_goHome
theorem dX8_run_0 : decode cX8_run 0 = .ok (.aload_n 0, 1) := by decide +kernel
theorem dX8_run_1 : decode cX8_run 1 = .ok (.iload_n 1, 1) := by decide +kernel
theorem dX8_run_2 : decode cX8_run 2 = .ok (.invokevirtual 181, 3) := by decide +kernel
theorem dX8_run_5 : decode cX8_run 5 = .ok (.astore_n 3, 1) := by decide +kernel
theorem dX8_run_6 : decode cX8_run 6 = .ok (.aload_n 3, 1) := by decide +kernel
theorem dX8_run_7 : decode cX8_run 7 = .ok (.ifnull 12, 3) := by decide +kernel
theorem dX8_run_10 : decode cX8_run 10 = .ok (.iload_n 2, 1) := by decide +kernel
theorem dX8_run_11 : decode cX8_run 11 = .ok (.ifCond .lt 8, 3) := by decide +kernel
theorem dX8_run_14 : decode cX8_run 14 = .ok (.iload_n 2, 1) := by decide +kernel
theorem dX8_run_15 : decode cX8_run 15 = .ok (.iconst 2, 1) := by decide +kernel
theorem dX8_run_16 : decode cX8_run 16 = .ok (.if_icmp .le 6, 3) := by decide +kernel
theorem dX8_run_19 : decode cX8_run 19 = .ok (.bipush (-2), 2) := by decide +kernel
theorem dX8_run_21 : decode cX8_run 21 = .ok (.ireturn, 1) := by decide +kernel
theorem dX8_run_22 : decode cX8_run 22 = .ok (.aload_n 0, 1) := by decide +kernel
theorem dX8_run_23 : decode cX8_run 23 = .ok (.aload_n 0, 1) := by decide +kernel
theorem dX8_run_24 : decode cX8_run 24 = .ok (.getfield 10, 3) := by decide +kernel
theorem dX8_run_27 : decode cX8_run 27 = .ok (.invokevirtual 171, 3) := by decide +kernel
theorem dX8_run_30 : decode cX8_run 30 = .ok (.aload_n 0, 1) := by decide +kernel
theorem dX8_run_31 : decode cX8_run 31 = .ok (.aload_n 3, 1) := by decide +kernel
theorem dX8_run_32 : decode cX8_run 32 = .ok (.aload_n 0, 1) := by decide +kernel
theorem dX8_run_33 : decode cX8_run 33 = .ok (.getfield 10, 3) := by decide +kernel
theorem dX8_run_36 : decode cX8_run 36 = .ok (.invokevirtual 200, 3) := by decide +kernel
theorem dX8_run_39 : decode cX8_run 39 = .ok (.istore 4, 2) := by decide +kernel
theorem dX8_run_41 : decode cX8_run 41 = .ok (.iload_n 2, 1) := by decide +kernel
theorem dX8_run_42 : decode cX8_run 42 = .ok (.iconst 2, 1) := by decide +kernel
theorem dX8_run_43 : decode cX8_run 43 = .ok (.if_icmp .ne 6, 3) := by decide +kernel
theorem dX8_run_46 : decode cX8_run 46 = .ok (.iload 4, 2) := by decide +kernel
theorem dX8_run_48 : decode cX8_run 48 = .ok (.ireturn, 1) := by decide +kernel
theorem dX8_run_49 : decode cX8_run 49 = .ok (.iload_n 2, 1) := by decide +kernel
theorem dX8_run_50 : decode cX8_run 50 = .ok (.ifCond .ne 12, 3) := by decide +kernel
theorem dX8_run_53 : decode cX8_run 53 = .ok (.aload_n 0, 1) := by decide +kernel
theorem dX8_run_54 : decode cX8_run 54 = .ok (.getfield 81, 3) := by decide +kernel
theorem dX8_run_57 : decode cX8_run 57 = .ok (.iconst 0, 1) := by decide +kernel
theorem dX8_run_58 : decode cX8_run 58 = .ok (.iaload, 1) := by decide +kernel
theorem dX8_run_59 : decode cX8_run 59 = .ok (.goto 9, 3) := by decide +kernel
theorem dX8_run_62 : decode cX8_run 62 = .ok (.aload_n 0, 1) := by decide +kernel
theorem dX8_run_63 : decode cX8_run 63 = .ok (.getfield 81, 3) := by decide +kernel
theorem dX8_run_66 : decode cX8_run 66 = .ok (.iconst 2, 1) := by decide +kernel
theorem dX8_run_67 : decode cX8_run 67 = .ok (.iaload, 1) := by decide +kernel
theorem dX8_run_68 : decode cX8_run 68 = .ok (.ireturn, 1) := by decide +kernel
theorem dX8_looksOfEach_0 : decode cX8_looksOfEach 0 = .ok (.aload_n 0, 1) := by decide +kernel
theorem dX8_looksOfEach_1 : decode cX8_looksOfEach 1 = .ok (.getfield 16, 3) := by decide +kernel
theorem dX8_looksOfEach_4 : decode cX8_looksOfEach 4 = .ok (.aload_n 0, 1) := by decide +kernel
theorem dX8_looksOfEach_5 : decode cX8_looksOfEach 5 = .ok (.getfield 10, 3) := by decide +kernel
theorem dX8_looksOfEach_8 : decode cX8_looksOfEach 8 = .ok (.getfield 124, 3) := by decide +kernel
theorem dX8_looksOfEach_11 : decode cX8_looksOfEach 11 = .ok (.invokestatic 204, 3) := by decide +kernel
theorem dX8_looksOfEach_14 : decode cX8_looksOfEach 14 = .ok (.ireturn, 1) := by decide +kernel
set_option maxRecDepth 20000 in
theorem ggX8_noteLaying_X0_survey : GoodIn wsX8_noteLaying wsX0_survey := goodIn_r _ [6, 7, 8, 9, 10, 11, 12, 13, 14, 15, 16, 17, 5, 18, 19, 40, 41, 42, 43, 44] (by decide +kernel) (by decide +kernel)
set_option maxRecDepth 20000 in
theorem gX8_noteLaying_X0_survey : GoodIn wsX8_noteLaying (wsV RX8 158 RX0 yX0_survey wsX0_survey) := goodIn_app (goodIn_of _ (by decide +kernel)) ggX8_noteLaying_X0_survey
theorem dX8_noteLaying_0 : decode cX8_noteLaying 0 = .ok (.aload_n 1, 1) := by decide +kernel
theorem dX8_noteLaying_1 : decode cX8_noteLaying 1 = .ok (.invokevirtual 158, 3) := by decide +kernel
theorem dX8_noteLaying_4 : decode cX8_noteLaying 4 = .ok (.aload_n 0, 1) := by decide +kernel
theorem dX8_noteLaying_5 : decode cX8_noteLaying 5 = .ok (.getfield 81, 3) := by decide +kernel
theorem dX8_noteLaying_8 : decode cX8_noteLaying 8 = .ok (.iconst 1, 1) := by decide +kernel
theorem dX8_noteLaying_9 : decode cX8_noteLaying 9 = .ok (.aload_n 1, 1) := by decide +kernel
theorem dX8_noteLaying_10 : decode cX8_noteLaying 10 = .ok (.getfield 124, 3) := by decide +kernel
theorem dX8_noteLaying_13 : decode cX8_noteLaying 13 = .ok (.iastore, 1) := by decide +kernel
theorem dX8_noteLaying_14 : decode cX8_noteLaying 14 = .ok (.aload_n 0, 1) := by decide +kernel
theorem dX8_noteLaying_15 : decode cX8_noteLaying 15 = .ok (.getfield 81, 3) := by decide +kernel
theorem dX8_noteLaying_18 : decode cX8_noteLaying 18 = .ok (.iconst 3, 1) := by decide +kernel
theorem dX8_noteLaying_19 : decode cX8_noteLaying 19 = .ok (.aload_n 1, 1) := by decide +kernel
theorem dX8_noteLaying_20 : decode cX8_noteLaying 20 = .ok (.getfield 167, 3) := by decide +kernel
theorem dX8_noteLaying_23 : decode cX8_noteLaying 23 = .ok (.iastore, 1) := by decide +kernel
theorem dX8_noteLaying_24 : decode cX8_noteLaying 24 = .ok (.aload_n 0, 1) := by decide +kernel
theorem dX8_noteLaying_25 : decode cX8_noteLaying 25 = .ok (.getfield 81, 3) := by decide +kernel
theorem dX8_noteLaying_28 : decode cX8_noteLaying 28 = .ok (.iconst 4, 1) := by decide +kernel
theorem dX8_noteLaying_29 : decode cX8_noteLaying 29 = .ok (.aload_n 1, 1) := by decide +kernel
theorem dX8_noteLaying_30 : decode cX8_noteLaying 30 = .ok (.getfield 161, 3) := by decide +kernel
theorem dX8_noteLaying_33 : decode cX8_noteLaying 33 = .ok (.iastore, 1) := by decide +kernel
theorem dX8_noteLaying_34 : decode cX8_noteLaying 34 = .ok (.aload_n 0, 1) := by decide +kernel
theorem dX8_noteLaying_35 : decode cX8_noteLaying 35 = .ok (.getfield 81, 3) := by decide +kernel
theorem dX8_noteLaying_38 : decode cX8_noteLaying 38 = .ok (.iconst 5, 1) := by decide +kernel
theorem dX8_noteLaying_39 : decode cX8_noteLaying 39 = .ok (.aload_n 1, 1) := by decide +kernel
theorem dX8_noteLaying_40 : decode cX8_noteLaying 40 = .ok (.getfield 164, 3) := by decide +kernel
theorem dX8_noteLaying_43 : decode cX8_noteLaying 43 = .ok (.iastore, 1) := by decide +kernel
theorem dX8_noteLaying_44 : decode cX8_noteLaying 44 = .ok (.return_, 1) := by decide +kernel
set_option maxRecDepth 20000 in
theorem ggX8_goHome_X8_noteRun : GoodIn wsX8_goHome wsX8_noteRun := goodIn_r _ [12, 13, 14, 15, 16, 11, 17, 18, 19, 1, 2, 3, 4, 20, 21, 22, 23, 24, 25, 26, 27, 28, 29, 30, 31, 32, 33, 34, 35, 36, 37, 38, 39, 40, 41, 73, 74, 75, 76, 77, 78, 79, 80, 81, 82, 83, 84, 85, 86, 87, 88, 89, 90, 91, 92, 93, 94, 95, 96, 97, 98, 99, 100] (by decide +kernel) (by decide +kernel)
set_option maxRecDepth 20000 in
theorem gX8_goHome_X8_noteRun : GoodIn wsX8_goHome (wsV RX8 209 RX8 yX8_noteRun wsX8_noteRun) := goodIn_app (goodIn_of _ (by decide +kernel)) ggX8_goHome_X8_noteRun
set_option maxRecDepth 20000 in
theorem ggX8_goHome_X8_worth : GoodIn wsX8_goHome wsX8_worth := goodIn_r _ [45, 46, 47, 48, 13, 49, 50, 51, 52, 53, 54, 55, 56, 57, 58, 59, 60, 61, 62, 63, 64, 65, 66, 67, 68, 69, 70, 71, 72, 78, 79, 80, 81, 82, 83, 84, 85, 86, 87, 88, 89, 90, 91, 92, 93, 94, 95, 96, 97, 101, 102, 103, 104, 105] (by decide +kernel) (by decide +kernel)
set_option maxRecDepth 20000 in
theorem gX8_goHome_X8_worth : GoodIn wsX8_goHome (wsV RX8 175 RX8 yX8_worth wsX8_worth) := goodIn_app (goodIn_of _ (by decide +kernel)) ggX8_goHome_X8_worth
theorem dX8_goHome_0 : decode cX8_goHome 0 = .ok (.aload_n 0, 1) := by decide +kernel
theorem dX8_goHome_1 : decode cX8_goHome 1 = .ok (.aload_n 1, 1) := by decide +kernel
theorem dX8_goHome_2 : decode cX8_goHome 2 = .ok (.aload_n 2, 1) := by decide +kernel
theorem dX8_goHome_3 : decode cX8_goHome 3 = .ok (.invokevirtual 209, 3) := by decide +kernel
theorem dX8_goHome_6 : decode cX8_goHome 6 = .ok (.aload_n 0, 1) := by decide +kernel
theorem dX8_goHome_7 : decode cX8_goHome 7 = .ok (.iconst 0, 1) := by decide +kernel
theorem dX8_goHome_8 : decode cX8_goHome 8 = .ok (.invokevirtual 175, 3) := by decide +kernel
theorem dX8_goHome_11 : decode cX8_goHome 11 = .ok (.ifCond .eq 8, 3) := by decide +kernel
theorem dX8_goHome_14 : decode cX8_goHome 14 = .ok (.aload_n 2, 1) := by decide +kernel
theorem dX8_goHome_15 : decode cX8_goHome 15 = .ok (.getfield 124, 3) := by decide +kernel
theorem dX8_goHome_18 : decode cX8_goHome 18 = .ok (.ireturn, 1) := by decide +kernel
theorem dX8_goHome_19 : decode cX8_goHome 19 = .ok (.iconst 0, 1) := by decide +kernel
theorem dX8_goHome_20 : decode cX8_goHome 20 = .ok (.aload_n 2, 1) := by decide +kernel
theorem dX8_goHome_21 : decode cX8_goHome 21 = .ok (.getfield 124, 3) := by decide +kernel
theorem dX8_goHome_24 : decode cX8_goHome 24 = .ok (.aload_n 0, 1) := by decide +kernel
theorem dX8_goHome_25 : decode cX8_goHome 25 = .ok (.iconst 1, 1) := by decide +kernel
theorem dX8_goHome_26 : decode cX8_goHome 26 = .ok (.invokevirtual 175, 3) := by decide +kernel
theorem dX8_goHome_29 : decode cX8_goHome 29 = .ok (.invokestatic 204, 3) := by decide +kernel
theorem dX8_goHome_32 : decode cX8_goHome 32 = .ok (.invokestatic 213, 3) := by decide +kernel
theorem dX8_goHome_35 : decode cX8_goHome 35 = .ok (.ireturn, 1) := by decide +kernel
set_option maxRecDepth 20000 in
theorem ggX8_noteRun_X8_looksOfEach : GoodIn wsX8_noteRun wsX8_looksOfEach := goodIn_r _ [6, 7, 8, 9, 10, 11, 12, 40, 41, 42, 43, 44, 45, 46, 47, 48, 49, 50, 51, 52, 53, 54, 55, 56, 57, 58, 59, 35, 36, 37, 38, 39] (by decide +kernel) (by decide +kernel)
set_option maxRecDepth 20000 in
theorem gX8_noteRun_X8_looksOfEach : GoodIn wsX8_noteRun (wsV RX8 193 RX8 yX8_looksOfEach wsX8_looksOfEach) := goodIn_app (goodIn_of _ (by decide +kernel)) ggX8_noteRun_X8_looksOfEach
set_option maxRecDepth 20000 in
theorem ggX8_noteRun_X1_lookThatFinds : GoodIn wsX8_noteRun wsX1_lookThatFinds := goodIn_r _ [17, 18, 19, 20, 16, 21, 22, 23, 24, 25, 26, 27, 28, 29, 30, 31, 32, 33, 34, 35, 36, 37, 38, 39, 60, 61, 62] (by decide +kernel) (by decide +kernel)
set_option maxRecDepth 20000 in
theorem gX8_noteRun_X1_lookThatFinds : GoodIn wsX8_noteRun (wsV RX8 196 RX1 yX1_lookThatFinds wsX1_lookThatFinds) := goodIn_app (goodIn_of _ (by decide +kernel)) ggX8_noteRun_X1_lookThatFinds
theorem dX8_noteRun_0 : decode cX8_noteRun 0 = .ok (.aload_n 0, 1) := by decide +kernel
theorem dX8_noteRun_1 : decode cX8_noteRun 1 = .ok (.invokevirtual 193, 3) := by decide +kernel
theorem dX8_noteRun_4 : decode cX8_noteRun 4 = .ok (.istore_n 3, 1) := by decide +kernel
theorem dX8_noteRun_5 : decode cX8_noteRun 5 = .ok (.iconst 0, 1) := by decide +kernel
theorem dX8_noteRun_6 : decode cX8_noteRun 6 = .ok (.istore 4, 2) := by decide +kernel
theorem dX8_noteRun_8 : decode cX8_noteRun 8 = .ok (.iconst 0, 1) := by decide +kernel
theorem dX8_noteRun_9 : decode cX8_noteRun 9 = .ok (.istore 5, 2) := by decide +kernel
theorem dX8_noteRun_11 : decode cX8_noteRun 11 = .ok (.iconst 0, 1) := by decide +kernel
theorem dX8_noteRun_12 : decode cX8_noteRun 12 = .ok (.istore 6, 2) := by decide +kernel
theorem dX8_noteRun_14 : decode cX8_noteRun 14 = .ok (.iload 6, 2) := by decide +kernel
theorem dX8_noteRun_16 : decode cX8_noteRun 16 = .ok (.aload_n 2, 1) := by decide +kernel
theorem dX8_noteRun_17 : decode cX8_noteRun 17 = .ok (.getfield 124, 3) := by decide +kernel
theorem dX8_noteRun_20 : decode cX8_noteRun 20 = .ok (.if_icmp .ge 43, 3) := by decide +kernel
theorem dX8_noteRun_23 : decode cX8_noteRun 23 = .ok (.aload_n 1, 1) := by decide +kernel
theorem dX8_noteRun_24 : decode cX8_noteRun 24 = .ok (.aload_n 2, 1) := by decide +kernel
theorem dX8_noteRun_25 : decode cX8_noteRun 25 = .ok (.iload 6, 2) := by decide +kernel
theorem dX8_noteRun_27 : decode cX8_noteRun 27 = .ok (.iload_n 3, 1) := by decide +kernel
theorem dX8_noteRun_28 : decode cX8_noteRun 28 = .ok (.invokevirtual 196, 3) := by decide +kernel
theorem dX8_noteRun_31 : decode cX8_noteRun 31 = .ok (.istore 7, 2) := by decide +kernel
theorem dX8_noteRun_33 : decode cX8_noteRun 33 = .ok (.iload 7, 2) := by decide +kernel
theorem dX8_noteRun_35 : decode cX8_noteRun 35 = .ok (.ifCond .le 16, 3) := by decide +kernel
theorem dX8_noteRun_38 : decode cX8_noteRun 38 = .ok (.iinc 4 1, 3) := by decide +kernel
theorem dX8_noteRun_41 : decode cX8_noteRun 41 = .ok (.iload 5, 2) := by decide +kernel
theorem dX8_noteRun_43 : decode cX8_noteRun 43 = .ok (.iload 7, 2) := by decide +kernel
theorem dX8_noteRun_45 : decode cX8_noteRun 45 = .ok (.iadd, 1) := by decide +kernel
theorem dX8_noteRun_46 : decode cX8_noteRun 46 = .ok (.istore 5, 2) := by decide +kernel
theorem dX8_noteRun_48 : decode cX8_noteRun 48 = .ok (.goto 9, 3) := by decide +kernel
theorem dX8_noteRun_51 : decode cX8_noteRun 51 = .ok (.iload 5, 2) := by decide +kernel
theorem dX8_noteRun_53 : decode cX8_noteRun 53 = .ok (.iload_n 3, 1) := by decide +kernel
theorem dX8_noteRun_54 : decode cX8_noteRun 54 = .ok (.iadd, 1) := by decide +kernel
theorem dX8_noteRun_55 : decode cX8_noteRun 55 = .ok (.istore 5, 2) := by decide +kernel
theorem dX8_noteRun_57 : decode cX8_noteRun 57 = .ok (.iinc 6 1, 3) := by decide +kernel
theorem dX8_noteRun_60 : decode cX8_noteRun 60 = .ok (.goto (-46), 3) := by decide +kernel
theorem dX8_noteRun_63 : decode cX8_noteRun 63 = .ok (.aload_n 0, 1) := by decide +kernel
theorem dX8_noteRun_64 : decode cX8_noteRun 64 = .ok (.getfield 81, 3) := by decide +kernel
theorem dX8_noteRun_67 : decode cX8_noteRun 67 = .ok (.iconst 0, 1) := by decide +kernel
theorem dX8_noteRun_68 : decode cX8_noteRun 68 = .ok (.iload 4, 2) := by decide +kernel
theorem dX8_noteRun_70 : decode cX8_noteRun 70 = .ok (.iastore, 1) := by decide +kernel
theorem dX8_noteRun_71 : decode cX8_noteRun 71 = .ok (.aload_n 0, 1) := by decide +kernel
theorem dX8_noteRun_72 : decode cX8_noteRun 72 = .ok (.getfield 81, 3) := by decide +kernel
theorem dX8_noteRun_75 : decode cX8_noteRun 75 = .ok (.iconst 2, 1) := by decide +kernel
theorem dX8_noteRun_76 : decode cX8_noteRun 76 = .ok (.iload 5, 2) := by decide +kernel
theorem dX8_noteRun_78 : decode cX8_noteRun 78 = .ok (.iastore, 1) := by decide +kernel
theorem dX8_noteRun_79 : decode cX8_noteRun 79 = .ok (.return_, 1) := by decide +kernel
set_option maxRecDepth 20000 in
theorem ggX8_worth_X6_worth : GoodIn wsX8_worth wsX6_worth := goodIn_r _ [9, 10, 11, 12, 13, 14, 15, 8, 16, 17, 18, 19, 20, 21, 22, 23, 24, 25, 26, 27, 28, 49, 50, 51, 52, 53] (by decide +kernel) (by decide +kernel)
set_option maxRecDepth 20000 in
theorem gX8_worth_X6_worth : GoodIn wsX8_worth (wsV RX8 216 RX6 yX6_worth wsX6_worth) := goodIn_app (goodIn_of _ (by decide +kernel)) ggX8_worth_X6_worth
theorem dX8_worth_0 : decode cX8_worth 0 = .ok (.aload_n 0, 1) := by decide +kernel
theorem dX8_worth_1 : decode cX8_worth 1 = .ok (.getfield 20, 3) := by decide +kernel
theorem dX8_worth_4 : decode cX8_worth 4 = .ok (.ifCond .lt 34, 3) := by decide +kernel
theorem dX8_worth_7 : decode cX8_worth 7 = .ok (.aload_n 0, 1) := by decide +kernel
theorem dX8_worth_8 : decode cX8_worth 8 = .ok (.getfield 20, 3) := by decide +kernel
theorem dX8_worth_11 : decode cX8_worth 11 = .ok (.aload_n 0, 1) := by decide +kernel
theorem dX8_worth_12 : decode cX8_worth 12 = .ok (.getfield 55, 3) := by decide +kernel
theorem dX8_worth_15 : decode cX8_worth 15 = .ok (.if_icmp .ge 23, 3) := by decide +kernel
theorem dX8_worth_18 : decode cX8_worth 18 = .ok (.aload_n 0, 1) := by decide +kernel
theorem dX8_worth_19 : decode cX8_worth 19 = .ok (.getfield 51, 3) := by decide +kernel
theorem dX8_worth_22 : decode cX8_worth 22 = .ok (.aload_n 0, 1) := by decide +kernel
theorem dX8_worth_23 : decode cX8_worth 23 = .ok (.getfield 20, 3) := by decide +kernel
theorem dX8_worth_26 : decode cX8_worth 26 = .ok (.aaload, 1) := by decide +kernel
theorem dX8_worth_27 : decode cX8_worth 27 = .ok (.iload_n 1, 1) := by decide +kernel
theorem dX8_worth_28 : decode cX8_worth 28 = .ok (.aload_n 0, 1) := by decide +kernel
theorem dX8_worth_29 : decode cX8_worth 29 = .ok (.getfield 81, 3) := by decide +kernel
theorem dX8_worth_32 : decode cX8_worth 32 = .ok (.invokevirtual 216, 3) := by decide +kernel
theorem dX8_worth_35 : decode cX8_worth 35 = .ok (.goto 4, 3) := by decide +kernel
theorem dX8_worth_38 : decode cX8_worth 38 = .ok (.iconst 0, 1) := by decide +kernel
theorem dX8_worth_39 : decode cX8_worth 39 = .ok (.ireturn, 1) := by decide +kernel
set_option maxRecDepth 20000 in
theorem ggX8_closed_X8_waysClosed : GoodIn wsX8_closed wsX8_waysClosed := goodIn_r _ [6, 7, 8, 9, 10, 11, 12, 13, 14, 15, 16, 17, 18, 19, 20, 21, 22, 23, 24, 25, 26, 27] (by decide +kernel) (by decide +kernel)
set_option maxRecDepth 20000 in
theorem gX8_closed_X8_waysClosed : GoodIn wsX8_closed (wsV RX8 221 RX8 yX8_waysClosed wsX8_waysClosed) := goodIn_app (goodIn_of _ (by decide +kernel)) ggX8_closed_X8_waysClosed
theorem dX8_closed_0 : decode cX8_closed 0 = .ok (.iload_n 1, 1) := by decide +kernel
theorem dX8_closed_1 : decode cX8_closed 1 = .ok (.iconst 1, 1) := by decide +kernel
theorem dX8_closed_2 : decode cX8_closed 2 = .ok (.if_icmp .lt 19, 3) := by decide +kernel
theorem dX8_closed_5 : decode cX8_closed 5 = .ok (.iload_n 1, 1) := by decide +kernel
theorem dX8_closed_6 : decode cX8_closed 6 = .ok (.bipush 12, 2) := by decide +kernel
theorem dX8_closed_8 : decode cX8_closed 8 = .ok (.if_icmp .gt 13, 3) := by decide +kernel
theorem dX8_closed_11 : decode cX8_closed 11 = .ok (.iload_n 2, 1) := by decide +kernel
theorem dX8_closed_12 : decode cX8_closed 12 = .ok (.ifCond .lt 9, 3) := by decide +kernel
theorem dX8_closed_15 : decode cX8_closed 15 = .ok (.iload_n 2, 1) := by decide +kernel
theorem dX8_closed_16 : decode cX8_closed 16 = .ok (.bipush 12, 2) := by decide +kernel
theorem dX8_closed_18 : decode cX8_closed 18 = .ok (.if_icmp .le 7, 3) := by decide +kernel
theorem dX8_closed_21 : decode cX8_closed 21 = .ok (.ldc2_w 219, 3) := by decide +kernel
theorem dX8_closed_24 : decode cX8_closed 24 = .ok (.lreturn, 1) := by decide +kernel
theorem dX8_closed_25 : decode cX8_closed 25 = .ok (.aload_n 0, 1) := by decide +kernel
theorem dX8_closed_26 : decode cX8_closed 26 = .ok (.iload_n 1, 1) := by decide +kernel
theorem dX8_closed_27 : decode cX8_closed 27 = .ok (.iload_n 2, 1) := by decide +kernel
theorem dX8_closed_28 : decode cX8_closed 28 = .ok (.invokevirtual 221, 3) := by decide +kernel
theorem dX8_closed_31 : decode cX8_closed 31 = .ok (.lreturn, 1) := by decide +kernel
theorem dX8_waysClosed_0 : decode cX8_waysClosed 0 = .ok (.aload_n 0, 1) := by decide +kernel
theorem dX8_waysClosed_1 : decode cX8_waysClosed 1 = .ok (.getfield 85, 3) := by decide +kernel
theorem dX8_waysClosed_4 : decode cX8_waysClosed 4 = .ok (.iconst 0, 1) := by decide +kernel
theorem dX8_waysClosed_5 : decode cX8_waysClosed 5 = .ok (.lconst 1, 1) := by decide +kernel
theorem dX8_waysClosed_6 : decode cX8_waysClosed 6 = .ok (.lastore, 1) := by decide +kernel
theorem dX8_waysClosed_7 : decode cX8_waysClosed 7 = .ok (.iconst 1, 1) := by decide +kernel
theorem dX8_waysClosed_8 : decode cX8_waysClosed 8 = .ok (.istore_n 3, 1) := by decide +kernel
theorem dX8_waysClosed_9 : decode cX8_waysClosed 9 = .ok (.iload_n 3, 1) := by decide +kernel
theorem dX8_waysClosed_10 : decode cX8_waysClosed 10 = .ok (.iload_n 1, 1) := by decide +kernel
theorem dX8_waysClosed_11 : decode cX8_waysClosed 11 = .ok (.if_icmp .gt 77, 3) := by decide +kernel
theorem dX8_waysClosed_14 : decode cX8_waysClosed 14 = .ok (.iload_n 3, 1) := by decide +kernel
theorem dX8_waysClosed_15 : decode cX8_waysClosed 15 = .ok (.bipush 12, 2) := by decide +kernel
theorem dX8_waysClosed_17 : decode cX8_waysClosed 17 = .ok (.if_icmp .gt 71, 3) := by decide +kernel
theorem dX8_waysClosed_20 : decode cX8_waysClosed 20 = .ok (.lconst 0, 1) := by decide +kernel
theorem dX8_waysClosed_21 : decode cX8_waysClosed 21 = .ok (.lstore 4, 2) := by decide +kernel
theorem dX8_waysClosed_23 : decode cX8_waysClosed 23 = .ok (.lconst 1, 1) := by decide +kernel
theorem dX8_waysClosed_24 : decode cX8_waysClosed 24 = .ok (.lstore 6, 2) := by decide +kernel
theorem dX8_waysClosed_26 : decode cX8_waysClosed 26 = .ok (.iconst 1, 1) := by decide +kernel
theorem dX8_waysClosed_27 : decode cX8_waysClosed 27 = .ok (.istore 8, 2) := by decide +kernel
theorem dX8_waysClosed_29 : decode cX8_waysClosed 29 = .ok (.iload 8, 2) := by decide +kernel
theorem dX8_waysClosed_31 : decode cX8_waysClosed 31 = .ok (.iload_n 3, 1) := by decide +kernel
theorem dX8_waysClosed_32 : decode cX8_waysClosed 32 = .ok (.if_icmp .gt 42, 3) := by decide +kernel
theorem dX8_waysClosed_35 : decode cX8_waysClosed 35 = .ok (.iload 8, 2) := by decide +kernel
theorem dX8_waysClosed_37 : decode cX8_waysClosed 37 = .ok (.iload_n 2, 1) := by decide +kernel
theorem dX8_waysClosed_38 : decode cX8_waysClosed 38 = .ok (.if_icmp .gt 36, 3) := by decide +kernel
theorem dX8_waysClosed_41 : decode cX8_waysClosed 41 = .ok (.lload 4, 2) := by decide +kernel
theorem dX8_waysClosed_43 : decode cX8_waysClosed 43 = .ok (.lload 6, 2) := by decide +kernel
theorem dX8_waysClosed_45 : decode cX8_waysClosed 45 = .ok (.aload_n 0, 1) := by decide +kernel
theorem dX8_waysClosed_46 : decode cX8_waysClosed 46 = .ok (.getfield 85, 3) := by decide +kernel
theorem dX8_waysClosed_49 : decode cX8_waysClosed 49 = .ok (.iload_n 3, 1) := by decide +kernel
theorem dX8_waysClosed_50 : decode cX8_waysClosed 50 = .ok (.iload 8, 2) := by decide +kernel
theorem dX8_waysClosed_52 : decode cX8_waysClosed 52 = .ok (.isub, 1) := by decide +kernel
theorem dX8_waysClosed_53 : decode cX8_waysClosed 53 = .ok (.laload, 1) := by decide +kernel
theorem dX8_waysClosed_54 : decode cX8_waysClosed 54 = .ok (.lmul, 1) := by decide +kernel
theorem dX8_waysClosed_55 : decode cX8_waysClosed 55 = .ok (.ladd, 1) := by decide +kernel
theorem dX8_waysClosed_56 : decode cX8_waysClosed 56 = .ok (.lstore 4, 2) := by decide +kernel
theorem dX8_waysClosed_58 : decode cX8_waysClosed 58 = .ok (.lload 6, 2) := by decide +kernel
theorem dX8_waysClosed_60 : decode cX8_waysClosed 60 = .ok (.iload_n 3, 1) := by decide +kernel
theorem dX8_waysClosed_61 : decode cX8_waysClosed 61 = .ok (.iload 8, 2) := by decide +kernel
theorem dX8_waysClosed_63 : decode cX8_waysClosed 63 = .ok (.isub, 1) := by decide +kernel
theorem dX8_waysClosed_64 : decode cX8_waysClosed 64 = .ok (.i2l, 1) := by decide +kernel
theorem dX8_waysClosed_65 : decode cX8_waysClosed 65 = .ok (.lmul, 1) := by decide +kernel
theorem dX8_waysClosed_66 : decode cX8_waysClosed 66 = .ok (.lstore 6, 2) := by decide +kernel
theorem dX8_waysClosed_68 : decode cX8_waysClosed 68 = .ok (.iinc 8 1, 3) := by decide +kernel
theorem dX8_waysClosed_71 : decode cX8_waysClosed 71 = .ok (.goto (-42), 3) := by decide +kernel
theorem dX8_waysClosed_74 : decode cX8_waysClosed 74 = .ok (.aload_n 0, 1) := by decide +kernel
theorem dX8_waysClosed_75 : decode cX8_waysClosed 75 = .ok (.getfield 85, 3) := by decide +kernel
theorem dX8_waysClosed_78 : decode cX8_waysClosed 78 = .ok (.iload_n 3, 1) := by decide +kernel
theorem dX8_waysClosed_79 : decode cX8_waysClosed 79 = .ok (.lload 4, 2) := by decide +kernel
theorem dX8_waysClosed_81 : decode cX8_waysClosed 81 = .ok (.lastore, 1) := by decide +kernel
theorem dX8_waysClosed_82 : decode cX8_waysClosed 82 = .ok (.iinc 3 1, 3) := by decide +kernel
theorem dX8_waysClosed_85 : decode cX8_waysClosed 85 = .ok (.goto (-76), 3) := by decide +kernel
theorem dX8_waysClosed_88 : decode cX8_waysClosed 88 = .ok (.iload_n 1, 1) := by decide +kernel
theorem dX8_waysClosed_89 : decode cX8_waysClosed 89 = .ok (.ifCond .lt 18, 3) := by decide +kernel
theorem dX8_waysClosed_92 : decode cX8_waysClosed 92 = .ok (.iload_n 1, 1) := by decide +kernel
theorem dX8_waysClosed_93 : decode cX8_waysClosed 93 = .ok (.bipush 12, 2) := by decide +kernel
theorem dX8_waysClosed_95 : decode cX8_waysClosed 95 = .ok (.if_icmp .gt 12, 3) := by decide +kernel
theorem dX8_waysClosed_98 : decode cX8_waysClosed 98 = .ok (.aload_n 0, 1) := by decide +kernel
theorem dX8_waysClosed_99 : decode cX8_waysClosed 99 = .ok (.getfield 85, 3) := by decide +kernel
theorem dX8_waysClosed_102 : decode cX8_waysClosed 102 = .ok (.iload_n 1, 1) := by decide +kernel
theorem dX8_waysClosed_103 : decode cX8_waysClosed 103 = .ok (.laload, 1) := by decide +kernel
theorem dX8_waysClosed_104 : decode cX8_waysClosed 104 = .ok (.goto 4, 3) := by decide +kernel
theorem dX8_waysClosed_107 : decode cX8_waysClosed 107 = .ok (.lconst 0, 1) := by decide +kernel
theorem dX8_waysClosed_108 : decode cX8_waysClosed 108 = .ok (.lreturn, 1) := by decide +kernel
theorem dX8_factorial_0 : decode cX8_factorial 0 = .ok (.lconst 1, 1) := by decide +kernel
theorem dX8_factorial_1 : decode cX8_factorial 1 = .ok (.lstore_n 1, 1) := by decide +kernel
theorem dX8_factorial_2 : decode cX8_factorial 2 = .ok (.iconst 2, 1) := by decide +kernel
theorem dX8_factorial_3 : decode cX8_factorial 3 = .ok (.istore_n 3, 1) := by decide +kernel
theorem dX8_factorial_4 : decode cX8_factorial 4 = .ok (.iload_n 3, 1) := by decide +kernel
theorem dX8_factorial_5 : decode cX8_factorial 5 = .ok (.iload_n 0, 1) := by decide +kernel
theorem dX8_factorial_6 : decode cX8_factorial 6 = .ok (.if_icmp .gt 14, 3) := by decide +kernel
theorem dX8_factorial_9 : decode cX8_factorial 9 = .ok (.lload_n 1, 1) := by decide +kernel
theorem dX8_factorial_10 : decode cX8_factorial 10 = .ok (.iload_n 3, 1) := by decide +kernel
theorem dX8_factorial_11 : decode cX8_factorial 11 = .ok (.i2l, 1) := by decide +kernel
theorem dX8_factorial_12 : decode cX8_factorial 12 = .ok (.lmul, 1) := by decide +kernel
theorem dX8_factorial_13 : decode cX8_factorial 13 = .ok (.lstore_n 1, 1) := by decide +kernel
theorem dX8_factorial_14 : decode cX8_factorial 14 = .ok (.iinc 3 1, 3) := by decide +kernel
theorem dX8_factorial_17 : decode cX8_factorial 17 = .ok (.goto (-13), 3) := by decide +kernel
theorem dX8_factorial_20 : decode cX8_factorial 20 = .ok (.lload_n 1, 1) := by decide +kernel
theorem dX8_factorial_21 : decode cX8_factorial 21 = .ok (.lreturn, 1) := by decide +kernel
set_option maxRecDepth 20000 in
theorem ggX8_wins_X8_planAt : GoodIn wsX8_wins wsX8_planAt := goodIn_r _ [7, 8, 9, 161, 162, 163, 164, 165, 166, 167, 168, 169, 170, 171, 172, 173, 174, 175, 176, 177, 178, 179, 180] (by decide +kernel) (by decide +kernel)
set_option maxRecDepth 20000 in
theorem gX8_wins_X8_planAt : GoodIn wsX8_wins (wsV RX8 181 RX8 yX8_planAt wsX8_planAt) := goodIn_app (goodIn_of _ (by decide +kernel)) ggX8_wins_X8_planAt
set_option maxRecDepth 20000 in
theorem ggX8_wins_X8_hasTooManyLayings : GoodIn wsX8_wins wsX8_hasTooManyLayings := goodIn_r _ [13, 2, 161, 162, 163, 164, 165, 166, 167, 168, 169, 170, 171, 172, 173, 174, 175, 176, 177, 178, 179, 180, 181, 182, 183, 184, 185] (by decide +kernel) (by decide +kernel)
set_option maxRecDepth 20000 in
theorem gX8_wins_X8_hasTooManyLayings : GoodIn wsX8_wins (wsV RX8 225 RX8 yX8_hasTooManyLayings wsX8_hasTooManyLayings) := goodIn_app (goodIn_of _ (by decide +kernel)) ggX8_wins_X8_hasTooManyLayings
set_option maxRecDepth 20000 in
theorem ggX8_wins_X8_tallyOf : GoodIn wsX8_wins wsX8_tallyOf := goodIn_r _ [17, 2, 18, 19, 20, 21, 22, 23, 24, 25, 26, 27, 28, 29, 30, 31, 32, 33, 34, 35, 36, 37, 38, 39, 40, 41, 42, 43, 44, 45, 46, 47, 48, 49, 50, 51, 52, 6, 53, 54, 55, 56, 57, 58, 59, 60, 61, 62, 63, 64, 65, 66, 67, 68, 69, 70, 71, 72, 73, 74, 75, 76, 77, 78, 79, 80, 81, 82, 83, 84, 85, 86, 87, 88, 89, 90, 91, 92, 93, 94, 95, 96, 97, 98, 99, 100, 101, 102, 103, 104, 105, 106, 107, 108, 109, 110, 111, 112, 113, 114, 115, 116, 117, 118, 119, 120, 121, 122, 123, 124, 125, 126, 127, 128, 129, 130, 131, 132, 133, 134, 135, 136, 137, 138, 139, 140, 141, 142, 143, 144, 145, 146, 147, 148, 149, 150, 151, 152, 153, 186, 187, 188, 161, 162, 163, 164, 165, 166, 167, 168, 169, 170, 171, 172, 173, 174, 175, 176, 177, 178, 179, 180, 181, 182, 183, 184, 185, 154, 155, 156, 157, 158, 159, 160, 189, 190, 191, 192, 193] (by decide +kernel) (by decide +kernel)
set_option maxRecDepth 20000 in
theorem gX8_wins_X8_tallyOf : GoodIn wsX8_wins (wsV RX8 228 RX8 yX8_tallyOf wsX8_tallyOf) := goodIn_app (goodIn_of _ (by decide +kernel)) ggX8_wins_X8_tallyOf
set_option maxRecDepth 20000 in
theorem ggX8_wins_X8_factorial : GoodIn wsX8_wins wsX8_factorial := goodIn_r _ [53] (by decide +kernel) (by decide +kernel)
set_option maxRecDepth 20000 in
theorem gX8_wins_X8_factorial : GoodIn wsX8_wins (va_wsS RX8 235 yX8_factorial wsX8_factorial) := goodIn_app (goodIn_of _ (by decide +kernel)) ggX8_wins_X8_factorial
theorem dX8_wins_0 : decode cX8_wins 0 = .ok (.aload_n 0, 1) := by decide +kernel
theorem dX8_wins_1 : decode cX8_wins 1 = .ok (.iload_n 1, 1) := by decide +kernel
theorem dX8_wins_2 : decode cX8_wins 2 = .ok (.invokevirtual 181, 3) := by decide +kernel
theorem dX8_wins_5 : decode cX8_wins 5 = .ok (.astore_n 3, 1) := by decide +kernel
theorem dX8_wins_6 : decode cX8_wins 6 = .ok (.aload_n 3, 1) := by decide +kernel
theorem dX8_wins_7 : decode cX8_wins 7 = .ok (.ifnull 19, 3) := by decide +kernel
theorem dX8_wins_10 : decode cX8_wins 10 = .ok (.iload_n 2, 1) := by decide +kernel
theorem dX8_wins_11 : decode cX8_wins 11 = .ok (.ifCond .lt 15, 3) := by decide +kernel
theorem dX8_wins_14 : decode cX8_wins 14 = .ok (.iload_n 2, 1) := by decide +kernel
theorem dX8_wins_15 : decode cX8_wins 15 = .ok (.iconst 1, 1) := by decide +kernel
theorem dX8_wins_16 : decode cX8_wins 16 = .ok (.if_icmp .gt 10, 3) := by decide +kernel
theorem dX8_wins_19 : decode cX8_wins 19 = .ok (.aload_n 0, 1) := by decide +kernel
theorem dX8_wins_20 : decode cX8_wins 20 = .ok (.invokevirtual 225, 3) := by decide +kernel
theorem dX8_wins_23 : decode cX8_wins 23 = .ok (.ifCond .eq 7, 3) := by decide +kernel
theorem dX8_wins_26 : decode cX8_wins 26 = .ok (.ldc2_w 219, 3) := by decide +kernel
theorem dX8_wins_29 : decode cX8_wins 29 = .ok (.lreturn, 1) := by decide +kernel
theorem dX8_wins_30 : decode cX8_wins 30 = .ok (.iload_n 2, 1) := by decide +kernel
theorem dX8_wins_31 : decode cX8_wins 31 = .ok (.ifCond .ne 15, 3) := by decide +kernel
theorem dX8_wins_34 : decode cX8_wins 34 = .ok (.aload_n 0, 1) := by decide +kernel
theorem dX8_wins_35 : decode cX8_wins 35 = .ok (.aload_n 3, 1) := by decide +kernel
theorem dX8_wins_36 : decode cX8_wins 36 = .ok (.invokevirtual 228, 3) := by decide +kernel
theorem dX8_wins_39 : decode cX8_wins 39 = .ok (.getfield 232, 3) := by decide +kernel
theorem dX8_wins_42 : decode cX8_wins 42 = .ok (.i2l, 1) := by decide +kernel
theorem dX8_wins_43 : decode cX8_wins 43 = .ok (.goto 13, 3) := by decide +kernel
theorem dX8_wins_46 : decode cX8_wins 46 = .ok (.aload_n 0, 1) := by decide +kernel
theorem dX8_wins_47 : decode cX8_wins 47 = .ok (.getfield 10, 3) := by decide +kernel
theorem dX8_wins_50 : decode cX8_wins 50 = .ok (.getfield 124, 3) := by decide +kernel
theorem dX8_wins_53 : decode cX8_wins 53 = .ok (.invokestatic 235, 3) := by decide +kernel
theorem dX8_wins_56 : decode cX8_wins 56 = .ok (.lreturn, 1) := by decide +kernel
set_option maxRecDepth 20000 in
theorem ggX8_mean_X8_planAt : GoodIn wsX8_mean wsX8_planAt := goodIn_r _ [7, 8, 9, 164, 165, 166, 167, 168, 169, 170, 171, 172, 173, 174, 175, 176, 177, 178, 179, 180, 181, 182, 183] (by decide +kernel) (by decide +kernel)
set_option maxRecDepth 20000 in
theorem gX8_mean_X8_planAt : GoodIn wsX8_mean (wsV RX8 181 RX8 yX8_planAt wsX8_planAt) := goodIn_app (goodIn_of _ (by decide +kernel)) ggX8_mean_X8_planAt
set_option maxRecDepth 20000 in
theorem ggX8_mean_X8_hasTooManyLayings : GoodIn wsX8_mean wsX8_hasTooManyLayings := goodIn_r _ [13, 2, 164, 165, 166, 167, 168, 169, 170, 171, 172, 173, 174, 175, 176, 177, 178, 179, 180, 181, 182, 183, 184, 185, 186, 187, 188] (by decide +kernel) (by decide +kernel)
set_option maxRecDepth 20000 in
theorem gX8_mean_X8_hasTooManyLayings : GoodIn wsX8_mean (wsV RX8 225 RX8 yX8_hasTooManyLayings wsX8_hasTooManyLayings) := goodIn_app (goodIn_of _ (by decide +kernel)) ggX8_mean_X8_hasTooManyLayings
set_option maxRecDepth 20000 in
theorem ggX8_mean_X8_tallyOf : GoodIn wsX8_mean wsX8_tallyOf := goodIn_r _ [17, 2, 18, 19, 20, 21, 22, 23, 24, 25, 26, 27, 28, 29, 30, 31, 32, 33, 34, 35, 36, 37, 38, 39, 40, 41, 42, 43, 44, 45, 46, 47, 48, 49, 50, 51, 52, 6, 53, 54, 55, 56, 57, 58, 59, 60, 61, 62, 63, 64, 65, 66, 67, 68, 69, 70, 71, 72, 73, 74, 75, 76, 77, 78, 79, 80, 81, 82, 83, 84, 85, 86, 87, 88, 89, 90, 91, 92, 93, 94, 95, 96, 97, 98, 99, 100, 101, 102, 103, 104, 105, 106, 107, 108, 109, 110, 111, 112, 113, 114, 115, 116, 117, 118, 119, 120, 121, 122, 123, 124, 125, 126, 127, 128, 129, 130, 131, 132, 133, 134, 135, 136, 137, 138, 139, 140, 141, 142, 143, 144, 145, 146, 147, 148, 149, 150, 151, 152, 153, 189, 190, 191, 164, 165, 166, 167, 168, 169, 170, 171, 172, 173, 174, 175, 176, 177, 178, 179, 180, 181, 182, 183, 184, 185, 186, 187, 188, 157, 158, 159, 160, 161, 162, 163, 192, 193, 194, 195, 196] (by decide +kernel) (by decide +kernel)
set_option maxRecDepth 20000 in
theorem gX8_mean_X8_tallyOf : GoodIn wsX8_mean (wsV RX8 228 RX8 yX8_tallyOf wsX8_tallyOf) := goodIn_app (goodIn_of _ (by decide +kernel)) ggX8_mean_X8_tallyOf
set_option maxRecDepth 20000 in
theorem ggX8_mean_X8_factorial : GoodIn wsX8_mean wsX8_factorial := goodIn_r _ [53] (by decide +kernel) (by decide +kernel)
set_option maxRecDepth 20000 in
theorem gX8_mean_X8_factorial : GoodIn wsX8_mean (va_wsS RX8 235 yX8_factorial wsX8_factorial) := goodIn_app (goodIn_of _ (by decide +kernel)) ggX8_mean_X8_factorial
set_option maxRecDepth 20000 in
theorem ggX8_mean_X8_commonDivisor : GoodIn wsX8_mean wsX8_commonDivisor := goodIn_r _ [156] (by decide +kernel) (by decide +kernel)
set_option maxRecDepth 20000 in
theorem gX8_mean_X8_commonDivisor : GoodIn wsX8_mean (va_wsS RX8 243 yX8_commonDivisor wsX8_commonDivisor) := goodIn_app (goodIn_of _ (by decide +kernel)) ggX8_mean_X8_commonDivisor
theorem dX8_mean_0 : decode cX8_mean 0 = .ok (.aload_n 0, 1) := by decide +kernel
theorem dX8_mean_1 : decode cX8_mean 1 = .ok (.iload_n 1, 1) := by decide +kernel
theorem dX8_mean_2 : decode cX8_mean 2 = .ok (.invokevirtual 181, 3) := by decide +kernel
theorem dX8_mean_5 : decode cX8_mean 5 = .ok (.astore_n 3, 1) := by decide +kernel
theorem dX8_mean_6 : decode cX8_mean 6 = .ok (.aload_n 3, 1) := by decide +kernel
theorem dX8_mean_7 : decode cX8_mean 7 = .ok (.ifnull 19, 3) := by decide +kernel
theorem dX8_mean_10 : decode cX8_mean 10 = .ok (.iload_n 2, 1) := by decide +kernel
theorem dX8_mean_11 : decode cX8_mean 11 = .ok (.ifCond .lt 15, 3) := by decide +kernel
theorem dX8_mean_14 : decode cX8_mean 14 = .ok (.iload_n 2, 1) := by decide +kernel
theorem dX8_mean_15 : decode cX8_mean 15 = .ok (.iconst 1, 1) := by decide +kernel
theorem dX8_mean_16 : decode cX8_mean 16 = .ok (.if_icmp .gt 10, 3) := by decide +kernel
theorem dX8_mean_19 : decode cX8_mean 19 = .ok (.aload_n 0, 1) := by decide +kernel
theorem dX8_mean_20 : decode cX8_mean 20 = .ok (.invokevirtual 225, 3) := by decide +kernel
theorem dX8_mean_23 : decode cX8_mean 23 = .ok (.ifCond .eq 7, 3) := by decide +kernel
theorem dX8_mean_26 : decode cX8_mean 26 = .ok (.ldc2_w 219, 3) := by decide +kernel
theorem dX8_mean_29 : decode cX8_mean 29 = .ok (.lreturn, 1) := by decide +kernel
theorem dX8_mean_30 : decode cX8_mean 30 = .ok (.aload_n 0, 1) := by decide +kernel
theorem dX8_mean_31 : decode cX8_mean 31 = .ok (.aload_n 3, 1) := by decide +kernel
theorem dX8_mean_32 : decode cX8_mean 32 = .ok (.invokevirtual 228, 3) := by decide +kernel
theorem dX8_mean_35 : decode cX8_mean 35 = .ok (.getfield 239, 3) := by decide +kernel
theorem dX8_mean_38 : decode cX8_mean 38 = .ok (.lstore 4, 2) := by decide +kernel
theorem dX8_mean_40 : decode cX8_mean 40 = .ok (.aload_n 0, 1) := by decide +kernel
theorem dX8_mean_41 : decode cX8_mean 41 = .ok (.getfield 10, 3) := by decide +kernel
theorem dX8_mean_44 : decode cX8_mean 44 = .ok (.getfield 124, 3) := by decide +kernel
theorem dX8_mean_47 : decode cX8_mean 47 = .ok (.invokestatic 235, 3) := by decide +kernel
theorem dX8_mean_50 : decode cX8_mean 50 = .ok (.lstore 6, 2) := by decide +kernel
theorem dX8_mean_52 : decode cX8_mean 52 = .ok (.lload 6, 2) := by decide +kernel
theorem dX8_mean_54 : decode cX8_mean 54 = .ok (.lload 4, 2) := by decide +kernel
theorem dX8_mean_56 : decode cX8_mean 56 = .ok (.invokestatic 243, 3) := by decide +kernel
theorem dX8_mean_59 : decode cX8_mean 59 = .ok (.lstore 8, 2) := by decide +kernel
theorem dX8_mean_61 : decode cX8_mean 61 = .ok (.lload 8, 2) := by decide +kernel
theorem dX8_mean_63 : decode cX8_mean 63 = .ok (.lconst 1, 1) := by decide +kernel
theorem dX8_mean_64 : decode cX8_mean 64 = .ok (.lcmp, 1) := by decide +kernel
theorem dX8_mean_65 : decode cX8_mean 65 = .ok (.ifCond .ge 7, 3) := by decide +kernel
theorem dX8_mean_68 : decode cX8_mean 68 = .ok (.ldc2_w 219, 3) := by decide +kernel
theorem dX8_mean_71 : decode cX8_mean 71 = .ok (.lreturn, 1) := by decide +kernel
theorem dX8_mean_72 : decode cX8_mean 72 = .ok (.iload_n 2, 1) := by decide +kernel
theorem dX8_mean_73 : decode cX8_mean 73 = .ok (.ifCond .ne 11, 3) := by decide +kernel
theorem dX8_mean_76 : decode cX8_mean 76 = .ok (.lload 4, 2) := by decide +kernel
theorem dX8_mean_78 : decode cX8_mean 78 = .ok (.lload 8, 2) := by decide +kernel
theorem dX8_mean_80 : decode cX8_mean 80 = .ok (.ldiv, 1) := by decide +kernel
theorem dX8_mean_81 : decode cX8_mean 81 = .ok (.goto 8, 3) := by decide +kernel
theorem dX8_mean_84 : decode cX8_mean 84 = .ok (.lload 6, 2) := by decide +kernel
theorem dX8_mean_86 : decode cX8_mean 86 = .ok (.lload 8, 2) := by decide +kernel
theorem dX8_mean_88 : decode cX8_mean 88 = .ok (.ldiv, 1) := by decide +kernel
theorem dX8_mean_89 : decode cX8_mean 89 = .ok (.lreturn, 1) := by decide +kernel
theorem dX8_commonDivisor_0 : decode cX8_commonDivisor 0 = .ok (.iconst 0, 1) := by decide +kernel
theorem dX8_commonDivisor_1 : decode cX8_commonDivisor 1 = .ok (.istore 4, 2) := by decide +kernel
theorem dX8_commonDivisor_3 : decode cX8_commonDivisor 3 = .ok (.iload 4, 2) := by decide +kernel
theorem dX8_commonDivisor_5 : decode cX8_commonDivisor 5 = .ok (.sipush 200, 3) := by decide +kernel
theorem dX8_commonDivisor_8 : decode cX8_commonDivisor 8 = .ok (.if_icmp .ge 25, 3) := by decide +kernel
theorem dX8_commonDivisor_11 : decode cX8_commonDivisor 11 = .ok (.lload_n 2, 1) := by decide +kernel
theorem dX8_commonDivisor_12 : decode cX8_commonDivisor 12 = .ok (.lconst 0, 1) := by decide +kernel
theorem dX8_commonDivisor_13 : decode cX8_commonDivisor 13 = .ok (.lcmp, 1) := by decide +kernel
theorem dX8_commonDivisor_14 : decode cX8_commonDivisor 14 = .ok (.ifCond .eq 19, 3) := by decide +kernel
theorem dX8_commonDivisor_17 : decode cX8_commonDivisor 17 = .ok (.lload_n 0, 1) := by decide +kernel
theorem dX8_commonDivisor_18 : decode cX8_commonDivisor 18 = .ok (.lload_n 2, 1) := by decide +kernel
theorem dX8_commonDivisor_19 : decode cX8_commonDivisor 19 = .ok (.lrem, 1) := by decide +kernel
theorem dX8_commonDivisor_20 : decode cX8_commonDivisor 20 = .ok (.lstore 5, 2) := by decide +kernel
theorem dX8_commonDivisor_22 : decode cX8_commonDivisor 22 = .ok (.lload_n 2, 1) := by decide +kernel
theorem dX8_commonDivisor_23 : decode cX8_commonDivisor 23 = .ok (.lstore_n 0, 1) := by decide +kernel
theorem dX8_commonDivisor_24 : decode cX8_commonDivisor 24 = .ok (.lload 5, 2) := by decide +kernel
theorem dX8_commonDivisor_26 : decode cX8_commonDivisor 26 = .ok (.lstore_n 2, 1) := by decide +kernel
theorem dX8_commonDivisor_27 : decode cX8_commonDivisor 27 = .ok (.iinc 4 1, 3) := by decide +kernel
theorem dX8_commonDivisor_30 : decode cX8_commonDivisor 30 = .ok (.goto (-27), 3) := by decide +kernel
theorem dX8_commonDivisor_33 : decode cX8_commonDivisor 33 = .ok (.lload_n 0, 1) := by decide +kernel
theorem dX8_commonDivisor_34 : decode cX8_commonDivisor 34 = .ok (.lreturn, 1) := by decide +kernel
set_option maxRecDepth 20000 in
theorem ggX8_worst_X8_planAt : GoodIn wsX8_worst wsX8_planAt := goodIn_r _ [5, 6, 7, 160, 161, 162, 163, 164, 165, 166, 167, 168, 169, 170, 171, 172, 173, 174, 175, 176, 177, 178, 179] (by decide +kernel) (by decide +kernel)
set_option maxRecDepth 20000 in
theorem gX8_worst_X8_planAt : GoodIn wsX8_worst (wsV RX8 181 RX8 yX8_planAt wsX8_planAt) := goodIn_app (goodIn_of _ (by decide +kernel)) ggX8_worst_X8_planAt
set_option maxRecDepth 20000 in
theorem ggX8_worst_X8_hasTooManyLayings : GoodIn wsX8_worst wsX8_hasTooManyLayings := goodIn_r _ [11, 12, 160, 161, 162, 163, 164, 165, 166, 167, 168, 169, 170, 171, 172, 173, 174, 175, 176, 177, 178, 179, 180, 181, 182, 183, 184] (by decide +kernel) (by decide +kernel)
set_option maxRecDepth 20000 in
theorem gX8_worst_X8_hasTooManyLayings : GoodIn wsX8_worst (wsV RX8 225 RX8 yX8_hasTooManyLayings wsX8_hasTooManyLayings) := goodIn_app (goodIn_of _ (by decide +kernel)) ggX8_worst_X8_hasTooManyLayings
set_option maxRecDepth 20000 in
theorem ggX8_worst_X8_tallyOf : GoodIn wsX8_worst wsX8_tallyOf := goodIn_r _ [16, 12, 17, 18, 19, 20, 21, 22, 23, 24, 25, 26, 27, 28, 29, 30, 31, 32, 33, 34, 35, 36, 37, 38, 39, 40, 41, 42, 43, 44, 45, 46, 47, 48, 49, 50, 51, 4, 52, 53, 54, 55, 56, 57, 58, 59, 60, 61, 62, 63, 64, 65, 66, 67, 68, 69, 70, 71, 72, 73, 74, 75, 76, 77, 78, 79, 80, 81, 82, 83, 84, 85, 86, 87, 88, 89, 90, 91, 92, 93, 94, 95, 96, 97, 98, 99, 100, 101, 102, 103, 104, 105, 106, 107, 108, 109, 110, 111, 112, 113, 114, 115, 116, 117, 118, 119, 120, 121, 122, 123, 124, 125, 126, 127, 128, 129, 130, 131, 132, 133, 134, 135, 136, 137, 138, 139, 140, 141, 142, 143, 144, 145, 146, 147, 148, 149, 150, 151, 152, 185, 186, 187, 160, 161, 162, 163, 164, 165, 166, 167, 168, 169, 170, 171, 172, 173, 174, 175, 176, 177, 178, 179, 180, 181, 182, 183, 184, 153, 154, 155, 156, 157, 158, 159, 188, 189, 190, 191, 192] (by decide +kernel) (by decide +kernel)
set_option maxRecDepth 20000 in
theorem gX8_worst_X8_tallyOf : GoodIn wsX8_worst (wsV RX8 228 RX8 yX8_tallyOf wsX8_tallyOf) := goodIn_app (goodIn_of _ (by decide +kernel)) ggX8_worst_X8_tallyOf
theorem dX8_worst_0 : decode cX8_worst 0 = .ok (.aload_n 0, 1) := by decide +kernel
theorem dX8_worst_1 : decode cX8_worst 1 = .ok (.iload_n 1, 1) := by decide +kernel
theorem dX8_worst_2 : decode cX8_worst 2 = .ok (.invokevirtual 181, 3) := by decide +kernel
theorem dX8_worst_5 : decode cX8_worst 5 = .ok (.astore_n 3, 1) := by decide +kernel
theorem dX8_worst_6 : decode cX8_worst 6 = .ok (.aload_n 3, 1) := by decide +kernel
theorem dX8_worst_7 : decode cX8_worst 7 = .ok (.ifnull 12, 3) := by decide +kernel
theorem dX8_worst_10 : decode cX8_worst 10 = .ok (.iload_n 2, 1) := by decide +kernel
theorem dX8_worst_11 : decode cX8_worst 11 = .ok (.ifCond .lt 8, 3) := by decide +kernel
theorem dX8_worst_14 : decode cX8_worst 14 = .ok (.iload_n 2, 1) := by decide +kernel
theorem dX8_worst_15 : decode cX8_worst 15 = .ok (.iconst 1, 1) := by decide +kernel
theorem dX8_worst_16 : decode cX8_worst 16 = .ok (.if_icmp .le 6, 3) := by decide +kernel
theorem dX8_worst_19 : decode cX8_worst 19 = .ok (.bipush (-2), 2) := by decide +kernel
theorem dX8_worst_21 : decode cX8_worst 21 = .ok (.ireturn, 1) := by decide +kernel
theorem dX8_worst_22 : decode cX8_worst 22 = .ok (.aload_n 0, 1) := by decide +kernel
theorem dX8_worst_23 : decode cX8_worst 23 = .ok (.invokevirtual 225, 3) := by decide +kernel
theorem dX8_worst_26 : decode cX8_worst 26 = .ok (.ifCond .eq 6, 3) := by decide +kernel
theorem dX8_worst_29 : decode cX8_worst 29 = .ok (.bipush (-3), 2) := by decide +kernel
theorem dX8_worst_31 : decode cX8_worst 31 = .ok (.ireturn, 1) := by decide +kernel
theorem dX8_worst_32 : decode cX8_worst 32 = .ok (.aload_n 0, 1) := by decide +kernel
theorem dX8_worst_33 : decode cX8_worst 33 = .ok (.aload_n 3, 1) := by decide +kernel
theorem dX8_worst_34 : decode cX8_worst 34 = .ok (.invokevirtual 228, 3) := by decide +kernel
theorem dX8_worst_37 : decode cX8_worst 37 = .ok (.astore 4, 2) := by decide +kernel
theorem dX8_worst_39 : decode cX8_worst 39 = .ok (.iload_n 2, 1) := by decide +kernel
theorem dX8_worst_40 : decode cX8_worst 40 = .ok (.ifCond .ne 11, 3) := by decide +kernel
theorem dX8_worst_43 : decode cX8_worst 43 = .ok (.aload 4, 2) := by decide +kernel
theorem dX8_worst_45 : decode cX8_worst 45 = .ok (.getfield 247, 3) := by decide +kernel
theorem dX8_worst_48 : decode cX8_worst 48 = .ok (.goto 8, 3) := by decide +kernel
theorem dX8_worst_51 : decode cX8_worst 51 = .ok (.aload 4, 2) := by decide +kernel
theorem dX8_worst_53 : decode cX8_worst 53 = .ok (.getfield 250, 3) := by decide +kernel
theorem dX8_worst_56 : decode cX8_worst 56 = .ok (.ireturn, 1) := by decide +kernel
set_option maxRecDepth 20000 in
theorem ggX8_draws_X8_drawsThatWin : GoodIn wsX8_draws wsX8_drawsThatWin := goodIn_r _ [6, 7, 8, 9, 10, 5, 11, 12, 13, 14, 15, 16, 17, 18, 19, 20, 21, 22, 23, 24, 25, 26, 27, 28, 29, 30, 31, 32, 33, 34, 35, 36, 37, 38, 39, 40, 41, 42, 43, 44, 45, 46, 47, 1, 48, 49, 50, 51, 52, 53, 54, 55, 56, 57, 58, 59, 60, 61, 62, 63, 64, 65, 66, 67, 68, 69, 70, 71, 72, 73, 74, 75, 76, 77, 78, 79, 80, 81, 82, 83, 84, 85, 86, 87, 88, 89, 90, 91, 92, 93, 94, 173, 174, 175, 176, 177, 153, 154, 155, 156, 157, 158, 159, 160, 161, 162, 163, 164, 165, 166, 167, 168, 169, 170, 171, 172, 178, 179, 180, 181, 182, 183, 184, 185] (by decide +kernel) (by decide +kernel)
set_option maxRecDepth 20000 in
theorem gX8_draws_X8_drawsThatWin : GoodIn wsX8_draws (wsV RX8 253 RX8 yX8_drawsThatWin wsX8_drawsThatWin) := goodIn_app (goodIn_of _ (by decide +kernel)) ggX8_draws_X8_drawsThatWin
set_option maxRecDepth 20000 in
theorem ggX8_draws_X8_hasTooManyLayings : GoodIn wsX8_draws wsX8_hasTooManyLayings := goodIn_r _ [98, 1, 153, 154, 155, 156, 157, 158, 159, 160, 161, 162, 163, 164, 165, 166, 167, 168, 169, 170, 171, 172, 173, 174, 175, 176, 177] (by decide +kernel) (by decide +kernel)
set_option maxRecDepth 20000 in
theorem gX8_draws_X8_hasTooManyLayings : GoodIn wsX8_draws (wsV RX8 225 RX8 yX8_hasTooManyLayings wsX8_hasTooManyLayings) := goodIn_app (goodIn_of _ (by decide +kernel)) ggX8_draws_X8_hasTooManyLayings
set_option maxRecDepth 20000 in
theorem ggX8_draws_X8_leastDraws : GoodIn wsX8_draws wsX8_leastDraws := goodIn_r _ [102, 103, 1, 47, 68, 104, 105, 106, 107, 108, 109, 110, 111, 112, 113, 114, 115, 116, 117, 118, 119, 120, 121, 122, 123, 16, 124, 125, 36, 24, 37, 22, 23, 25, 21, 30, 126, 127, 5, 128, 2, 3, 4, 6, 7, 8, 9, 10, 11, 12, 13, 14, 15, 17, 18, 19, 20, 26, 27, 28, 29, 31, 32, 33, 34, 35, 38, 39, 40, 41, 42, 43, 44, 45, 46, 48, 49, 50, 51, 52, 53, 54, 55, 56, 57, 58, 59, 60, 61, 62, 63, 64, 65, 66, 67, 69, 70, 71, 72, 73, 74, 75, 76, 77, 78, 79, 80, 81, 82, 83, 84, 85, 86, 87, 88, 89, 90, 91, 92, 93, 94, 129, 130, 131, 132, 133, 134, 135, 136, 137, 138, 139, 140, 141, 142, 143, 144, 145, 146, 147, 148, 149, 150, 151, 152, 153, 154, 155, 156, 157, 158, 159, 160, 161, 162, 163, 164, 165, 166, 167, 168, 169, 170, 171, 172, 173, 174, 175, 176, 177, 186, 187, 188, 189, 190, 191, 192, 178, 179, 180, 181, 182, 183, 184, 185] (by decide +kernel) (by decide +kernel)
set_option maxRecDepth 20000 in
theorem gX8_draws_X8_leastDraws : GoodIn wsX8_draws (wsV RX8 257 RX8 yX8_leastDraws wsX8_leastDraws) := goodIn_app (goodIn_of _ (by decide +kernel)) ggX8_draws_X8_leastDraws
theorem dX8_draws_0 : decode cX8_draws 0 = .ok (.iload_n 1, 1) := by decide +kernel
theorem dX8_draws_1 : decode cX8_draws 1 = .ok (.ifCond .lt 8, 3) := by decide +kernel
theorem dX8_draws_4 : decode cX8_draws 4 = .ok (.iload_n 1, 1) := by decide +kernel
theorem dX8_draws_5 : decode cX8_draws 5 = .ok (.iconst 1, 1) := by decide +kernel
theorem dX8_draws_6 : decode cX8_draws 6 = .ok (.if_icmp .le 6, 3) := by decide +kernel
theorem dX8_draws_9 : decode cX8_draws 9 = .ok (.bipush (-2), 2) := by decide +kernel
theorem dX8_draws_11 : decode cX8_draws 11 = .ok (.ireturn, 1) := by decide +kernel
theorem dX8_draws_12 : decode cX8_draws 12 = .ok (.iload_n 1, 1) := by decide +kernel
theorem dX8_draws_13 : decode cX8_draws 13 = .ok (.ifCond .ne 12, 3) := by decide +kernel
theorem dX8_draws_16 : decode cX8_draws 16 = .ok (.aload_n 0, 1) := by decide +kernel
theorem dX8_draws_17 : decode cX8_draws 17 = .ok (.aload_n 0, 1) := by decide +kernel
theorem dX8_draws_18 : decode cX8_draws 18 = .ok (.getfield 10, 3) := by decide +kernel
theorem dX8_draws_21 : decode cX8_draws 21 = .ok (.invokevirtual 253, 3) := by decide +kernel
theorem dX8_draws_24 : decode cX8_draws 24 = .ok (.ireturn, 1) := by decide +kernel
theorem dX8_draws_25 : decode cX8_draws 25 = .ok (.aload_n 0, 1) := by decide +kernel
theorem dX8_draws_26 : decode cX8_draws 26 = .ok (.invokevirtual 225, 3) := by decide +kernel
theorem dX8_draws_29 : decode cX8_draws 29 = .ok (.ifCond .eq 8, 3) := by decide +kernel
theorem dX8_draws_32 : decode cX8_draws 32 = .ok (.bipush (-3), 2) := by decide +kernel
theorem dX8_draws_34 : decode cX8_draws 34 = .ok (.goto 7, 3) := by decide +kernel
theorem dX8_draws_37 : decode cX8_draws 37 = .ok (.aload_n 0, 1) := by decide +kernel
theorem dX8_draws_38 : decode cX8_draws 38 = .ok (.invokevirtual 257, 3) := by decide +kernel
theorem dX8_draws_41 : decode cX8_draws 41 = .ok (.ireturn, 1) := by decide +kernel
set_option maxRecDepth 20000 in
theorem ggX8_drawsThatWin_X8_noteLaying : GoodIn wsX8_drawsThatWin wsX8_noteLaying := goodIn_r _ [6, 7, 8, 9, 10, 11, 12, 13, 14, 15, 16, 17, 18, 19, 20, 21, 22, 23, 24, 25, 96, 97, 98, 99, 100, 101, 102, 103, 104, 105, 106, 107, 108, 109, 110, 111, 112, 113, 114, 115, 91, 92, 93, 94, 95] (by decide +kernel) (by decide +kernel)
set_option maxRecDepth 20000 in
theorem gX8_drawsThatWin_X8_noteLaying : GoodIn wsX8_drawsThatWin (wsV RX8 171 RX8 yX8_noteLaying wsX8_noteLaying) := goodIn_app (goodIn_of _ (by decide +kernel)) ggX8_drawsThatWin_X8_noteLaying
set_option maxRecDepth 20000 in
theorem ggX8_drawsThatWin_X8_goHome : GoodIn wsX8_drawsThatWin wsX8_goHome := goodIn_r _ [29, 30, 31, 19, 32, 33, 18, 20, 34, 35, 36, 5, 37, 7, 38, 39, 40, 41, 42, 43, 44, 45, 46, 47, 48, 49, 50, 51, 52, 53, 54, 55, 22, 23, 11, 24, 16, 25, 56, 57, 58, 59, 60, 61, 62, 63, 64, 65, 66, 67, 68, 69, 70, 71, 72, 73, 74, 75, 76, 77, 78, 79, 80, 81, 82, 83, 84, 85, 86, 87, 88, 89, 90, 91, 92, 93, 94, 95, 96, 97, 98, 99, 100, 101, 102, 103, 104, 105, 106, 107, 108, 109, 110, 111, 112, 113, 114, 115, 116, 117, 118, 119, 120, 121, 122, 123] (by decide +kernel) (by decide +kernel)
set_option maxRecDepth 20000 in
theorem gX8_drawsThatWin_X8_goHome : GoodIn wsX8_drawsThatWin (wsV RX8 200 RX8 yX8_goHome wsX8_goHome) := goodIn_app (goodIn_of _ (by decide +kernel)) ggX8_drawsThatWin_X8_goHome
theorem dX8_drawsThatWin_0 : decode cX8_drawsThatWin 0 = .ok (.aload_n 0, 1) := by decide +kernel
theorem dX8_drawsThatWin_1 : decode cX8_drawsThatWin 1 = .ok (.aload_n 1, 1) := by decide +kernel
theorem dX8_drawsThatWin_2 : decode cX8_drawsThatWin 2 = .ok (.invokevirtual 171, 3) := by decide +kernel
theorem dX8_drawsThatWin_5 : decode cX8_drawsThatWin 5 = .ok (.iconst 0, 1) := by decide +kernel
theorem dX8_drawsThatWin_6 : decode cX8_drawsThatWin 6 = .ok (.istore_n 2, 1) := by decide +kernel
theorem dX8_drawsThatWin_7 : decode cX8_drawsThatWin 7 = .ok (.iconst 0, 1) := by decide +kernel
theorem dX8_drawsThatWin_8 : decode cX8_drawsThatWin 8 = .ok (.istore_n 3, 1) := by decide +kernel
theorem dX8_drawsThatWin_9 : decode cX8_drawsThatWin 9 = .ok (.iload_n 3, 1) := by decide +kernel
theorem dX8_drawsThatWin_10 : decode cX8_drawsThatWin 10 = .ok (.aload_n 1, 1) := by decide +kernel
theorem dX8_drawsThatWin_11 : decode cX8_drawsThatWin 11 = .ok (.getfield 124, 3) := by decide +kernel
theorem dX8_drawsThatWin_14 : decode cX8_drawsThatWin 14 = .ok (.if_icmp .ge 36, 3) := by decide +kernel
theorem dX8_drawsThatWin_17 : decode cX8_drawsThatWin 17 = .ok (.iload_n 3, 1) := by decide +kernel
theorem dX8_drawsThatWin_18 : decode cX8_drawsThatWin 18 = .ok (.bipush 12, 2) := by decide +kernel
theorem dX8_drawsThatWin_20 : decode cX8_drawsThatWin 20 = .ok (.if_icmp .ge 30, 3) := by decide +kernel
theorem dX8_drawsThatWin_23 : decode cX8_drawsThatWin 23 = .ok (.aload_n 0, 1) := by decide +kernel
theorem dX8_drawsThatWin_24 : decode cX8_drawsThatWin 24 = .ok (.aload_n 0, 1) := by decide +kernel
theorem dX8_drawsThatWin_25 : decode cX8_drawsThatWin 25 = .ok (.getfield 39, 3) := by decide +kernel
theorem dX8_drawsThatWin_28 : decode cX8_drawsThatWin 28 = .ok (.iload_n 3, 1) := by decide +kernel
theorem dX8_drawsThatWin_29 : decode cX8_drawsThatWin 29 = .ok (.aaload, 1) := by decide +kernel
theorem dX8_drawsThatWin_30 : decode cX8_drawsThatWin 30 = .ok (.aload_n 1, 1) := by decide +kernel
theorem dX8_drawsThatWin_31 : decode cX8_drawsThatWin 31 = .ok (.invokevirtual 200, 3) := by decide +kernel
theorem dX8_drawsThatWin_34 : decode cX8_drawsThatWin 34 = .ok (.aload_n 1, 1) := by decide +kernel
theorem dX8_drawsThatWin_35 : decode cX8_drawsThatWin 35 = .ok (.getfield 124, 3) := by decide +kernel
theorem dX8_drawsThatWin_38 : decode cX8_drawsThatWin 38 = .ok (.if_icmp .ne 6, 3) := by decide +kernel
theorem dX8_drawsThatWin_41 : decode cX8_drawsThatWin 41 = .ok (.iinc 2 1, 3) := by decide +kernel
theorem dX8_drawsThatWin_44 : decode cX8_drawsThatWin 44 = .ok (.iinc 3 1, 3) := by decide +kernel
theorem dX8_drawsThatWin_47 : decode cX8_drawsThatWin 47 = .ok (.goto (-38), 3) := by decide +kernel
theorem dX8_drawsThatWin_50 : decode cX8_drawsThatWin 50 = .ok (.iload_n 2, 1) := by decide +kernel
theorem dX8_drawsThatWin_51 : decode cX8_drawsThatWin 51 = .ok (.ireturn, 1) := by decide +kernel
set_option maxRecDepth 20000 in
theorem ggX8_leastDraws_X4_isOf : GoodIn wsX8_leastDraws wsX4_isOf := goodIn_r _ [10, 11, 12, 13, 170, 171, 172, 173, 174, 175, 176] (by decide +kernel) (by decide +kernel)
set_option maxRecDepth 20000 in
theorem gX8_leastDraws_X4_isOf : GoodIn wsX8_leastDraws (wsV RX8 260 RX4 yX4_isOf wsX4_isOf) := goodIn_app (goodIn_of _ (by decide +kernel)) ggX8_leastDraws_X4_isOf
set_option maxRecDepth 20000 in
theorem ggX8_leastDraws_X4_begin : GoodIn wsX8_leastDraws wsX4_begin := goodIn_r _ [17, 11, 12, 13, 18, 19, 20, 21, 170, 171, 172, 173, 174, 175, 176] (by decide +kernel) (by decide +kernel)
set_option maxRecDepth 20000 in
theorem gX8_leastDraws_X4_begin : GoodIn wsX8_leastDraws (wsV RX8 264 RX4 yX4_begin wsX4_begin) := goodIn_app (goodIn_of _ (by decide +kernel)) ggX8_leastDraws_X4_begin
set_option maxRecDepth 20000 in
theorem ggX8_leastDraws_X0_layOwn : GoodIn wsX8_leastDraws wsX0_layOwn := goodIn_r _ [26, 27, 28, 29, 30, 31, 32, 33, 34, 35, 165, 166, 167, 168, 169] (by decide +kernel) (by decide +kernel)
set_option maxRecDepth 20000 in
theorem gX8_leastDraws_X0_layOwn : GoodIn wsX8_leastDraws (wsV RX8 96 RX0 yX0_layOwn wsX0_layOwn) := goodIn_app (goodIn_of _ (by decide +kernel)) ggX8_leastDraws_X0_layOwn
set_option maxRecDepth 20000 in
theorem ggX8_leastDraws_X8_factorial : GoodIn wsX8_leastDraws wsX8_factorial := goodIn_r _ [39] (by decide +kernel) (by decide +kernel)
set_option maxRecDepth 20000 in
theorem gX8_leastDraws_X8_factorial : GoodIn wsX8_leastDraws (va_wsS RX8 235 yX8_factorial wsX8_factorial) := goodIn_app (goodIn_of _ (by decide +kernel)) ggX8_leastDraws_X8_factorial
set_option maxRecDepth 20000 in
theorem ggX8_leastDraws_X8_drawsThatWin : GoodIn wsX8_leastDraws wsX8_drawsThatWin := goodIn_r _ [43, 44, 45, 46, 47, 38, 48, 49, 50, 51, 52, 25, 53, 54, 55, 56, 34, 31, 32, 29, 33, 57, 58, 59, 60, 35, 61, 62, 63, 64, 65, 28, 30, 66, 67, 68, 69, 70, 71, 72, 73, 74, 3, 2, 75, 76, 77, 78, 79, 80, 81, 82, 83, 84, 85, 86, 87, 88, 89, 90, 91, 92, 93, 94, 4, 95, 96, 97, 98, 99, 100, 101, 102, 103, 104, 105, 106, 107, 108, 109, 110, 111, 112, 113, 114, 115, 116, 117, 118, 119, 120, 165, 166, 167, 168, 169, 145, 146, 147, 148, 149, 150, 151, 152, 153, 154, 155, 156, 157, 158, 159, 160, 161, 162, 163, 164, 177, 178, 179, 180, 181, 182, 183, 184] (by decide +kernel) (by decide +kernel)
set_option maxRecDepth 20000 in
theorem gX8_leastDraws_X8_drawsThatWin : GoodIn wsX8_leastDraws (wsV RX8 253 RX8 yX8_drawsThatWin wsX8_drawsThatWin) := goodIn_app (goodIn_of _ (by decide +kernel)) ggX8_leastDraws_X8_drawsThatWin
set_option maxRecDepth 20000 in
theorem ggX8_leastDraws_X4_add : GoodIn wsX8_leastDraws wsX4_add := goodIn_r _ [124, 19, 11, 18, 20, 21, 125, 126, 127, 25, 128, 34, 57, 58, 59, 60, 35, 170, 171, 172, 173, 174, 175, 176, 165, 166, 167, 168, 169] (by decide +kernel) (by decide +kernel)
set_option maxRecDepth 20000 in
theorem gX8_leastDraws_X4_add : GoodIn wsX8_leastDraws (wsV RX8 268 RX4 yX4_add wsX4_add) := goodIn_app (goodIn_of _ (by decide +kernel)) ggX8_leastDraws_X4_add
set_option maxRecDepth 20000 in
theorem ggX8_leastDraws_X0_advance : GoodIn wsX8_leastDraws wsX0_advance := goodIn_r _ [132, 34, 57, 58, 59, 25, 60, 35, 133, 134, 135, 136, 137, 138, 139, 140, 141, 142, 143, 144, 165, 166, 167, 168, 169] (by decide +kernel) (by decide +kernel)
set_option maxRecDepth 20000 in
theorem gX8_leastDraws_X0_advance : GoodIn wsX8_leastDraws (wsV RX8 271 RX0 yX0_advance wsX0_advance) := goodIn_app (goodIn_of _ (by decide +kernel)) ggX8_leastDraws_X0_advance
theorem dX8_leastDraws_0 : decode cX8_leastDraws 0 = .ok (.aload_n 0, 1) := by decide +kernel
theorem dX8_leastDraws_1 : decode cX8_leastDraws 1 = .ok (.getfield 92, 3) := by decide +kernel
theorem dX8_leastDraws_4 : decode cX8_leastDraws 4 = .ok (.aload_n 0, 1) := by decide +kernel
theorem dX8_leastDraws_5 : decode cX8_leastDraws 5 = .ok (.getfield 10, 3) := by decide +kernel
theorem dX8_leastDraws_8 : decode cX8_leastDraws 8 = .ok (.getfield 124, 3) := by decide +kernel
theorem dX8_leastDraws_11 : decode cX8_leastDraws 11 = .ok (.aload_n 0, 1) := by decide +kernel
theorem dX8_leastDraws_12 : decode cX8_leastDraws 12 = .ok (.getfield 16, 3) := by decide +kernel
theorem dX8_leastDraws_15 : decode cX8_leastDraws 15 = .ok (.aload_n 0, 1) := by decide +kernel
theorem dX8_leastDraws_16 : decode cX8_leastDraws 16 = .ok (.getfield 20, 3) := by decide +kernel
theorem dX8_leastDraws_19 : decode cX8_leastDraws 19 = .ok (.invokevirtual 260, 3) := by decide +kernel
theorem dX8_leastDraws_22 : decode cX8_leastDraws 22 = .ok (.ifCond .ne 101, 3) := by decide +kernel
theorem dX8_leastDraws_25 : decode cX8_leastDraws 25 = .ok (.aload_n 0, 1) := by decide +kernel
theorem dX8_leastDraws_26 : decode cX8_leastDraws 26 = .ok (.getfield 92, 3) := by decide +kernel
theorem dX8_leastDraws_29 : decode cX8_leastDraws 29 = .ok (.aload_n 0, 1) := by decide +kernel
theorem dX8_leastDraws_30 : decode cX8_leastDraws 30 = .ok (.getfield 10, 3) := by decide +kernel
theorem dX8_leastDraws_33 : decode cX8_leastDraws 33 = .ok (.getfield 124, 3) := by decide +kernel
theorem dX8_leastDraws_36 : decode cX8_leastDraws 36 = .ok (.aload_n 0, 1) := by decide +kernel
theorem dX8_leastDraws_37 : decode cX8_leastDraws 37 = .ok (.getfield 16, 3) := by decide +kernel
theorem dX8_leastDraws_40 : decode cX8_leastDraws 40 = .ok (.aload_n 0, 1) := by decide +kernel
theorem dX8_leastDraws_41 : decode cX8_leastDraws 41 = .ok (.getfield 20, 3) := by decide +kernel
theorem dX8_leastDraws_44 : decode cX8_leastDraws 44 = .ok (.invokevirtual 264, 3) := by decide +kernel
theorem dX8_leastDraws_47 : decode cX8_leastDraws 47 = .ok (.aload_n 0, 1) := by decide +kernel
theorem dX8_leastDraws_48 : decode cX8_leastDraws 48 = .ok (.getfield 78, 3) := by decide +kernel
theorem dX8_leastDraws_51 : decode cX8_leastDraws 51 = .ok (.aload_n 0, 1) := by decide +kernel
theorem dX8_leastDraws_52 : decode cX8_leastDraws 52 = .ok (.getfield 10, 3) := by decide +kernel
theorem dX8_leastDraws_55 : decode cX8_leastDraws 55 = .ok (.getfield 124, 3) := by decide +kernel
theorem dX8_leastDraws_58 : decode cX8_leastDraws 58 = .ok (.invokevirtual 96, 3) := by decide +kernel
theorem dX8_leastDraws_61 : decode cX8_leastDraws 61 = .ok (.aload_n 0, 1) := by decide +kernel
theorem dX8_leastDraws_62 : decode cX8_leastDraws 62 = .ok (.getfield 10, 3) := by decide +kernel
theorem dX8_leastDraws_65 : decode cX8_leastDraws 65 = .ok (.getfield 124, 3) := by decide +kernel
theorem dX8_leastDraws_68 : decode cX8_leastDraws 68 = .ok (.invokestatic 235, 3) := by decide +kernel
theorem dX8_leastDraws_71 : decode cX8_leastDraws 71 = .ok (.lstore_n 1, 1) := by decide +kernel
theorem dX8_leastDraws_72 : decode cX8_leastDraws 72 = .ok (.lconst 0, 1) := by decide +kernel
theorem dX8_leastDraws_73 : decode cX8_leastDraws 73 = .ok (.lstore_n 3, 1) := by decide +kernel
theorem dX8_leastDraws_74 : decode cX8_leastDraws 74 = .ok (.lload_n 3, 1) := by decide +kernel
theorem dX8_leastDraws_75 : decode cX8_leastDraws 75 = .ok (.lload_n 1, 1) := by decide +kernel
theorem dX8_leastDraws_76 : decode cX8_leastDraws 76 = .ok (.lcmp, 1) := by decide +kernel
theorem dX8_leastDraws_77 : decode cX8_leastDraws 77 = .ok (.ifCond .ge 46, 3) := by decide +kernel
theorem dX8_leastDraws_80 : decode cX8_leastDraws 80 = .ok (.aload_n 0, 1) := by decide +kernel
theorem dX8_leastDraws_81 : decode cX8_leastDraws 81 = .ok (.getfield 92, 3) := by decide +kernel
theorem dX8_leastDraws_84 : decode cX8_leastDraws 84 = .ok (.getfield 247, 3) := by decide +kernel
theorem dX8_leastDraws_87 : decode cX8_leastDraws 87 = .ok (.ifCond .eq 36, 3) := by decide +kernel
theorem dX8_leastDraws_90 : decode cX8_leastDraws 90 = .ok (.aload_n 0, 1) := by decide +kernel
theorem dX8_leastDraws_91 : decode cX8_leastDraws 91 = .ok (.getfield 92, 3) := by decide +kernel
theorem dX8_leastDraws_94 : decode cX8_leastDraws 94 = .ok (.aload_n 0, 1) := by decide +kernel
theorem dX8_leastDraws_95 : decode cX8_leastDraws 95 = .ok (.aload_n 0, 1) := by decide +kernel
theorem dX8_leastDraws_96 : decode cX8_leastDraws 96 = .ok (.getfield 78, 3) := by decide +kernel
theorem dX8_leastDraws_99 : decode cX8_leastDraws 99 = .ok (.invokevirtual 253, 3) := by decide +kernel
theorem dX8_leastDraws_102 : decode cX8_leastDraws 102 = .ok (.aload_n 0, 1) := by decide +kernel
theorem dX8_leastDraws_103 : decode cX8_leastDraws 103 = .ok (.getfield 78, 3) := by decide +kernel
theorem dX8_leastDraws_106 : decode cX8_leastDraws 106 = .ok (.invokevirtual 268, 3) := by decide +kernel
theorem dX8_leastDraws_109 : decode cX8_leastDraws 109 = .ok (.aload_n 0, 1) := by decide +kernel
theorem dX8_leastDraws_110 : decode cX8_leastDraws 110 = .ok (.getfield 78, 3) := by decide +kernel
theorem dX8_leastDraws_113 : decode cX8_leastDraws 113 = .ok (.invokevirtual 271, 3) := by decide +kernel
theorem dX8_leastDraws_116 : decode cX8_leastDraws 116 = .ok (.lload_n 3, 1) := by decide +kernel
theorem dX8_leastDraws_117 : decode cX8_leastDraws 117 = .ok (.lconst 1, 1) := by decide +kernel
theorem dX8_leastDraws_118 : decode cX8_leastDraws 118 = .ok (.ladd, 1) := by decide +kernel
theorem dX8_leastDraws_119 : decode cX8_leastDraws 119 = .ok (.lstore_n 3, 1) := by decide +kernel
theorem dX8_leastDraws_120 : decode cX8_leastDraws 120 = .ok (.goto (-46), 3) := by decide +kernel
theorem dX8_leastDraws_123 : decode cX8_leastDraws 123 = .ok (.aload_n 0, 1) := by decide +kernel
theorem dX8_leastDraws_124 : decode cX8_leastDraws 124 = .ok (.getfield 92, 3) := by decide +kernel
theorem dX8_leastDraws_127 : decode cX8_leastDraws 127 = .ok (.getfield 247, 3) := by decide +kernel
theorem dX8_leastDraws_130 : decode cX8_leastDraws 130 = .ok (.ireturn, 1) := by decide +kernel
set_option maxRecDepth 20000 in
theorem ggX8_costs_X8_planAt : GoodIn wsX8_costs wsX8_planAt := goodIn_r _ [7, 8, 9, 155, 156, 157, 158, 159, 160, 161, 162, 163, 164, 165, 166, 167, 168, 169, 170, 171, 172, 173, 174] (by decide +kernel) (by decide +kernel)
set_option maxRecDepth 20000 in
theorem gX8_costs_X8_planAt : GoodIn wsX8_costs (wsV RX8 181 RX8 yX8_planAt wsX8_planAt) := goodIn_app (goodIn_of _ (by decide +kernel)) ggX8_costs_X8_planAt
set_option maxRecDepth 20000 in
theorem ggX8_costs_X8_hasTooManyLayings : GoodIn wsX8_costs wsX8_hasTooManyLayings := goodIn_r _ [13, 14, 155, 156, 157, 158, 159, 160, 161, 162, 163, 164, 165, 166, 167, 168, 169, 170, 171, 172, 173, 174, 182, 183, 184, 185, 186] (by decide +kernel) (by decide +kernel)
set_option maxRecDepth 20000 in
theorem gX8_costs_X8_hasTooManyLayings : GoodIn wsX8_costs (wsV RX8 225 RX8 yX8_hasTooManyLayings wsX8_hasTooManyLayings) := goodIn_app (goodIn_of _ (by decide +kernel)) ggX8_costs_X8_hasTooManyLayings
set_option maxRecDepth 20000 in
theorem ggX8_costs_X8_tallyOf : GoodIn wsX8_costs wsX8_tallyOf := goodIn_r _ [18, 14, 19, 20, 21, 22, 23, 24, 25, 26, 27, 28, 29, 30, 31, 32, 33, 34, 35, 36, 37, 38, 39, 40, 41, 42, 43, 44, 45, 46, 47, 48, 49, 50, 51, 52, 53, 6, 54, 55, 56, 57, 58, 59, 60, 61, 62, 63, 64, 65, 66, 67, 68, 69, 70, 71, 72, 73, 74, 75, 76, 77, 78, 79, 80, 81, 82, 83, 84, 85, 86, 87, 88, 89, 90, 91, 92, 93, 94, 95, 96, 97, 98, 99, 100, 101, 102, 103, 104, 105, 106, 107, 108, 109, 110, 111, 112, 113, 114, 115, 116, 117, 118, 119, 120, 121, 122, 123, 124, 125, 126, 127, 128, 129, 130, 131, 132, 133, 134, 135, 136, 137, 138, 139, 140, 141, 142, 143, 144, 145, 146, 147, 148, 149, 150, 151, 152, 153, 154, 187, 188, 189, 155, 156, 157, 158, 159, 160, 161, 162, 163, 164, 165, 166, 167, 168, 169, 170, 171, 172, 173, 174, 182, 183, 184, 185, 186, 175, 176, 177, 178, 179, 180, 181, 190, 191, 192, 193, 194] (by decide +kernel) (by decide +kernel)
set_option maxRecDepth 20000 in
theorem gX8_costs_X8_tallyOf : GoodIn wsX8_costs (wsV RX8 228 RX8 yX8_tallyOf wsX8_tallyOf) := goodIn_app (goodIn_of _ (by decide +kernel)) ggX8_costs_X8_tallyOf
theorem dX8_costs_0 : decode cX8_costs 0 = .ok (.aload_n 0, 1) := by decide +kernel
theorem dX8_costs_1 : decode cX8_costs 1 = .ok (.iload_n 1, 1) := by decide +kernel
theorem dX8_costs_2 : decode cX8_costs 2 = .ok (.invokevirtual 181, 3) := by decide +kernel
theorem dX8_costs_5 : decode cX8_costs 5 = .ok (.astore_n 2, 1) := by decide +kernel
theorem dX8_costs_6 : decode cX8_costs 6 = .ok (.aload_n 2, 1) := by decide +kernel
theorem dX8_costs_7 : decode cX8_costs 7 = .ok (.ifnull 10, 3) := by decide +kernel
theorem dX8_costs_10 : decode cX8_costs 10 = .ok (.aload_n 0, 1) := by decide +kernel
theorem dX8_costs_11 : decode cX8_costs 11 = .ok (.invokevirtual 225, 3) := by decide +kernel
theorem dX8_costs_14 : decode cX8_costs 14 = .ok (.ifCond .eq 7, 3) := by decide +kernel
theorem dX8_costs_17 : decode cX8_costs 17 = .ok (.ldc2_w 219, 3) := by decide +kernel
theorem dX8_costs_20 : decode cX8_costs 20 = .ok (.lreturn, 1) := by decide +kernel
theorem dX8_costs_21 : decode cX8_costs 21 = .ok (.aload_n 0, 1) := by decide +kernel
theorem dX8_costs_22 : decode cX8_costs 22 = .ok (.aload_n 0, 1) := by decide +kernel
theorem dX8_costs_23 : decode cX8_costs 23 = .ok (.getfield 45, 3) := by decide +kernel
theorem dX8_costs_26 : decode cX8_costs 26 = .ok (.invokevirtual 228, 3) := by decide +kernel
theorem dX8_costs_29 : decode cX8_costs 29 = .ok (.getfield 239, 3) := by decide +kernel
theorem dX8_costs_32 : decode cX8_costs 32 = .ok (.aload_n 0, 1) := by decide +kernel
theorem dX8_costs_33 : decode cX8_costs 33 = .ok (.aload_n 2, 1) := by decide +kernel
theorem dX8_costs_34 : decode cX8_costs 34 = .ok (.invokevirtual 228, 3) := by decide +kernel
theorem dX8_costs_37 : decode cX8_costs 37 = .ok (.getfield 239, 3) := by decide +kernel
theorem dX8_costs_40 : decode cX8_costs 40 = .ok (.lsub, 1) := by decide +kernel
theorem dX8_costs_41 : decode cX8_costs 41 = .ok (.lreturn, 1) := by decide +kernel
theorem dX8_hasTooManyLayings_0 : decode cX8_hasTooManyLayings 0 = .ok (.aload_n 0, 1) := by decide +kernel
theorem dX8_hasTooManyLayings_1 : decode cX8_hasTooManyLayings 1 = .ok (.getfield 10, 3) := by decide +kernel
theorem dX8_hasTooManyLayings_4 : decode cX8_hasTooManyLayings 4 = .ok (.getfield 124, 3) := by decide +kernel
theorem dX8_hasTooManyLayings_7 : decode cX8_hasTooManyLayings 7 = .ok (.bipush 7, 2) := by decide +kernel
theorem dX8_hasTooManyLayings_9 : decode cX8_hasTooManyLayings 9 = .ok (.if_icmp .le 7, 3) := by decide +kernel
theorem dX8_hasTooManyLayings_12 : decode cX8_hasTooManyLayings 12 = .ok (.iconst 1, 1) := by decide +kernel
theorem dX8_hasTooManyLayings_13 : decode cX8_hasTooManyLayings 13 = .ok (.goto 4, 3) := by decide +kernel
theorem dX8_hasTooManyLayings_16 : decode cX8_hasTooManyLayings 16 = .ok (.iconst 0, 1) := by decide +kernel
theorem dX8_hasTooManyLayings_17 : decode cX8_hasTooManyLayings 17 = .ok (.ireturn, 1) := by decide +kernel
set_option maxRecDepth 20000 in
theorem ggX8_tallyOf_X4_isOf : GoodIn wsX8_tallyOf wsX4_isOf := goodIn_r _ [9, 10, 11, 12, 167, 168, 169, 170, 171, 172, 173] (by decide +kernel) (by decide +kernel)
set_option maxRecDepth 20000 in
theorem gX8_tallyOf_X4_isOf : GoodIn wsX8_tallyOf (wsV RX8 260 RX4 yX4_isOf wsX4_isOf) := goodIn_app (goodIn_of _ (by decide +kernel)) ggX8_tallyOf_X4_isOf
set_option maxRecDepth 20000 in
theorem ggX8_tallyOf_X4_begin : GoodIn wsX8_tallyOf wsX4_begin := goodIn_r _ [16, 10, 11, 12, 17, 18, 19, 20, 167, 168, 169, 170, 171, 172, 173] (by decide +kernel) (by decide +kernel)
set_option maxRecDepth 20000 in
theorem gX8_tallyOf_X4_begin : GoodIn wsX8_tallyOf (wsV RX8 264 RX4 yX4_begin wsX4_begin) := goodIn_app (goodIn_of _ (by decide +kernel)) ggX8_tallyOf_X4_begin
set_option maxRecDepth 20000 in
theorem ggX8_tallyOf_X0_layOwn : GoodIn wsX8_tallyOf wsX0_layOwn := goodIn_r _ [25, 26, 27, 28, 29, 30, 31, 32, 33, 34, 162, 163, 164, 165, 166] (by decide +kernel) (by decide +kernel)
set_option maxRecDepth 20000 in
theorem gX8_tallyOf_X0_layOwn : GoodIn wsX8_tallyOf (wsV RX8 96 RX0 yX0_layOwn wsX0_layOwn) := goodIn_app (goodIn_of _ (by decide +kernel)) ggX8_tallyOf_X0_layOwn
set_option maxRecDepth 20000 in
theorem ggX8_tallyOf_X8_factorial : GoodIn wsX8_tallyOf wsX8_factorial := goodIn_r _ [38] (by decide +kernel) (by decide +kernel)
set_option maxRecDepth 20000 in
theorem gX8_tallyOf_X8_factorial : GoodIn wsX8_tallyOf (va_wsS RX8 235 yX8_factorial wsX8_factorial) := goodIn_app (goodIn_of _ (by decide +kernel)) ggX8_tallyOf_X8_factorial
set_option maxRecDepth 20000 in
theorem ggX8_tallyOf_X8_noteLaying : GoodIn wsX8_tallyOf wsX8_noteLaying := goodIn_r _ [42, 43, 44, 45, 46, 24, 47, 48, 49, 50, 33, 30, 31, 28, 32, 51, 52, 53, 54, 34, 142, 143, 144, 145, 146, 147, 148, 149, 150, 151, 152, 153, 154, 155, 156, 157, 158, 159, 160, 161, 162, 163, 164, 165, 166] (by decide +kernel) (by decide +kernel)
set_option maxRecDepth 20000 in
theorem gX8_tallyOf_X8_noteLaying : GoodIn wsX8_tallyOf (wsV RX8 171 RX8 yX8_noteLaying wsX8_noteLaying) := goodIn_app (goodIn_of _ (by decide +kernel)) ggX8_tallyOf_X8_noteLaying
set_option maxRecDepth 20000 in
theorem ggX8_tallyOf_X8_goHome : GoodIn wsX8_tallyOf wsX8_goHome := goodIn_r _ [58, 59, 27, 28, 29, 60, 31, 32, 61, 62, 63, 37, 64, 43, 65, 66, 67, 68, 2, 1, 69, 70, 71, 72, 73, 74, 75, 76, 77, 78, 79, 80, 52, 53, 24, 54, 33, 34, 81, 82, 83, 84, 85, 86, 87, 88, 3, 89, 90, 91, 92, 93, 94, 95, 96, 97, 98, 99, 100, 101, 102, 103, 104, 105, 106, 107, 108, 109, 110, 111, 112, 113, 114, 162, 163, 164, 165, 166, 142, 143, 144, 145, 146, 147, 148, 149, 150, 151, 152, 153, 154, 155, 156, 157, 158, 159, 160, 161, 139, 140, 141, 174, 175, 176, 177, 178] (by decide +kernel) (by decide +kernel)
set_option maxRecDepth 20000 in
theorem gX8_tallyOf_X8_goHome : GoodIn wsX8_tallyOf (wsV RX8 200 RX8 yX8_goHome wsX8_goHome) := goodIn_app (goodIn_of _ (by decide +kernel)) ggX8_tallyOf_X8_goHome
set_option maxRecDepth 20000 in
theorem ggX8_tallyOf_X4_add : GoodIn wsX8_tallyOf wsX4_add := goodIn_r _ [118, 18, 10, 17, 19, 20, 119, 120, 121, 24, 122, 33, 51, 52, 53, 54, 34, 167, 168, 169, 170, 171, 172, 173, 162, 163, 164, 165, 166] (by decide +kernel) (by decide +kernel)
set_option maxRecDepth 20000 in
theorem gX8_tallyOf_X4_add : GoodIn wsX8_tallyOf (wsV RX8 268 RX4 yX4_add wsX4_add) := goodIn_app (goodIn_of _ (by decide +kernel)) ggX8_tallyOf_X4_add
set_option maxRecDepth 20000 in
theorem ggX8_tallyOf_X0_advance : GoodIn wsX8_tallyOf wsX0_advance := goodIn_r _ [126, 33, 51, 52, 53, 24, 54, 34, 127, 128, 129, 130, 131, 132, 133, 134, 135, 136, 137, 138, 162, 163, 164, 165, 166] (by decide +kernel) (by decide +kernel)
set_option maxRecDepth 20000 in
theorem gX8_tallyOf_X0_advance : GoodIn wsX8_tallyOf (wsV RX8 271 RX0 yX0_advance wsX0_advance) := goodIn_app (goodIn_of _ (by decide +kernel)) ggX8_tallyOf_X0_advance
theorem dX8_tallyOf_0 : decode cX8_tallyOf 0 = .ok (.aload_n 1, 1) := by decide +kernel
theorem dX8_tallyOf_1 : decode cX8_tallyOf 1 = .ok (.getfield 274, 3) := by decide +kernel
theorem dX8_tallyOf_4 : decode cX8_tallyOf 4 = .ok (.astore_n 2, 1) := by decide +kernel
theorem dX8_tallyOf_5 : decode cX8_tallyOf 5 = .ok (.aload_n 2, 1) := by decide +kernel
theorem dX8_tallyOf_6 : decode cX8_tallyOf 6 = .ok (.aload_n 0, 1) := by decide +kernel
theorem dX8_tallyOf_7 : decode cX8_tallyOf 7 = .ok (.getfield 10, 3) := by decide +kernel
theorem dX8_tallyOf_10 : decode cX8_tallyOf 10 = .ok (.getfield 124, 3) := by decide +kernel
theorem dX8_tallyOf_13 : decode cX8_tallyOf 13 = .ok (.aload_n 0, 1) := by decide +kernel
theorem dX8_tallyOf_14 : decode cX8_tallyOf 14 = .ok (.getfield 16, 3) := by decide +kernel
theorem dX8_tallyOf_17 : decode cX8_tallyOf 17 = .ok (.aload_n 0, 1) := by decide +kernel
theorem dX8_tallyOf_18 : decode cX8_tallyOf 18 = .ok (.getfield 20, 3) := by decide +kernel
theorem dX8_tallyOf_21 : decode cX8_tallyOf 21 = .ok (.invokevirtual 260, 3) := by decide +kernel
theorem dX8_tallyOf_24 : decode cX8_tallyOf 24 = .ok (.ifCond .ne 98, 3) := by decide +kernel
theorem dX8_tallyOf_27 : decode cX8_tallyOf 27 = .ok (.aload_n 2, 1) := by decide +kernel
theorem dX8_tallyOf_28 : decode cX8_tallyOf 28 = .ok (.aload_n 0, 1) := by decide +kernel
theorem dX8_tallyOf_29 : decode cX8_tallyOf 29 = .ok (.getfield 10, 3) := by decide +kernel
theorem dX8_tallyOf_32 : decode cX8_tallyOf 32 = .ok (.getfield 124, 3) := by decide +kernel
theorem dX8_tallyOf_35 : decode cX8_tallyOf 35 = .ok (.aload_n 0, 1) := by decide +kernel
theorem dX8_tallyOf_36 : decode cX8_tallyOf 36 = .ok (.getfield 16, 3) := by decide +kernel
theorem dX8_tallyOf_39 : decode cX8_tallyOf 39 = .ok (.aload_n 0, 1) := by decide +kernel
theorem dX8_tallyOf_40 : decode cX8_tallyOf 40 = .ok (.getfield 20, 3) := by decide +kernel
theorem dX8_tallyOf_43 : decode cX8_tallyOf 43 = .ok (.invokevirtual 264, 3) := by decide +kernel
theorem dX8_tallyOf_46 : decode cX8_tallyOf 46 = .ok (.aload_n 0, 1) := by decide +kernel
theorem dX8_tallyOf_47 : decode cX8_tallyOf 47 = .ok (.getfield 78, 3) := by decide +kernel
theorem dX8_tallyOf_50 : decode cX8_tallyOf 50 = .ok (.aload_n 0, 1) := by decide +kernel
theorem dX8_tallyOf_51 : decode cX8_tallyOf 51 = .ok (.getfield 10, 3) := by decide +kernel
theorem dX8_tallyOf_54 : decode cX8_tallyOf 54 = .ok (.getfield 124, 3) := by decide +kernel
theorem dX8_tallyOf_57 : decode cX8_tallyOf 57 = .ok (.invokevirtual 96, 3) := by decide +kernel
theorem dX8_tallyOf_60 : decode cX8_tallyOf 60 = .ok (.aload_n 0, 1) := by decide +kernel
theorem dX8_tallyOf_61 : decode cX8_tallyOf 61 = .ok (.getfield 10, 3) := by decide +kernel
theorem dX8_tallyOf_64 : decode cX8_tallyOf 64 = .ok (.getfield 124, 3) := by decide +kernel
theorem dX8_tallyOf_67 : decode cX8_tallyOf 67 = .ok (.invokestatic 235, 3) := by decide +kernel
theorem dX8_tallyOf_70 : decode cX8_tallyOf 70 = .ok (.lstore_n 3, 1) := by decide +kernel
theorem dX8_tallyOf_71 : decode cX8_tallyOf 71 = .ok (.lconst 0, 1) := by decide +kernel
theorem dX8_tallyOf_72 : decode cX8_tallyOf 72 = .ok (.lstore 5, 2) := by decide +kernel
theorem dX8_tallyOf_74 : decode cX8_tallyOf 74 = .ok (.lload 5, 2) := by decide +kernel
theorem dX8_tallyOf_76 : decode cX8_tallyOf 76 = .ok (.lload_n 3, 1) := by decide +kernel
theorem dX8_tallyOf_77 : decode cX8_tallyOf 77 = .ok (.lcmp, 1) := by decide +kernel
theorem dX8_tallyOf_78 : decode cX8_tallyOf 78 = .ok (.ifCond .ge 44, 3) := by decide +kernel
theorem dX8_tallyOf_81 : decode cX8_tallyOf 81 = .ok (.aload_n 0, 1) := by decide +kernel
theorem dX8_tallyOf_82 : decode cX8_tallyOf 82 = .ok (.aload_n 0, 1) := by decide +kernel
theorem dX8_tallyOf_83 : decode cX8_tallyOf 83 = .ok (.getfield 78, 3) := by decide +kernel
theorem dX8_tallyOf_86 : decode cX8_tallyOf 86 = .ok (.invokevirtual 171, 3) := by decide +kernel
theorem dX8_tallyOf_89 : decode cX8_tallyOf 89 = .ok (.aload_n 2, 1) := by decide +kernel
theorem dX8_tallyOf_90 : decode cX8_tallyOf 90 = .ok (.aload_n 0, 1) := by decide +kernel
theorem dX8_tallyOf_91 : decode cX8_tallyOf 91 = .ok (.aload_n 1, 1) := by decide +kernel
theorem dX8_tallyOf_92 : decode cX8_tallyOf 92 = .ok (.aload_n 0, 1) := by decide +kernel
theorem dX8_tallyOf_93 : decode cX8_tallyOf 93 = .ok (.getfield 78, 3) := by decide +kernel
theorem dX8_tallyOf_96 : decode cX8_tallyOf 96 = .ok (.invokevirtual 200, 3) := by decide +kernel
theorem dX8_tallyOf_99 : decode cX8_tallyOf 99 = .ok (.aload_n 0, 1) := by decide +kernel
theorem dX8_tallyOf_100 : decode cX8_tallyOf 100 = .ok (.getfield 78, 3) := by decide +kernel
theorem dX8_tallyOf_103 : decode cX8_tallyOf 103 = .ok (.invokevirtual 268, 3) := by decide +kernel
theorem dX8_tallyOf_106 : decode cX8_tallyOf 106 = .ok (.aload_n 0, 1) := by decide +kernel
theorem dX8_tallyOf_107 : decode cX8_tallyOf 107 = .ok (.getfield 78, 3) := by decide +kernel
theorem dX8_tallyOf_110 : decode cX8_tallyOf 110 = .ok (.invokevirtual 271, 3) := by decide +kernel
theorem dX8_tallyOf_113 : decode cX8_tallyOf 113 = .ok (.lload 5, 2) := by decide +kernel
theorem dX8_tallyOf_115 : decode cX8_tallyOf 115 = .ok (.lconst 1, 1) := by decide +kernel
theorem dX8_tallyOf_116 : decode cX8_tallyOf 116 = .ok (.ladd, 1) := by decide +kernel
theorem dX8_tallyOf_117 : decode cX8_tallyOf 117 = .ok (.lstore 5, 2) := by decide +kernel
theorem dX8_tallyOf_119 : decode cX8_tallyOf 119 = .ok (.goto (-45), 3) := by decide +kernel
theorem dX8_tallyOf_122 : decode cX8_tallyOf 122 = .ok (.aload_n 2, 1) := by decide +kernel
theorem dX8_tallyOf_123 : decode cX8_tallyOf 123 = .ok (.areturn, 1) := by decide +kernel
set_option maxRecDepth 20000 in
theorem ggX8_help_X0_survey : GoodIn wsX8_help wsX0_survey := goodIn_r _ [8, 9, 10, 11, 12, 13, 14, 15, 16, 17, 18, 19, 7, 20, 21, 62, 63, 64, 65, 66] (by decide +kernel) (by decide +kernel)
set_option maxRecDepth 20000 in
theorem gX8_help_X0_survey : GoodIn wsX8_help (wsV RX8 158 RX0 yX0_survey wsX0_survey) := goodIn_app (goodIn_of _ (by decide +kernel)) ggX8_help_X0_survey
set_option maxRecDepth 20000 in
theorem ggX8_help_X0_layAs : GoodIn wsX8_help wsX0_layAs := goodIn_r _ [25, 12, 21, 26, 27, 28, 29, 62, 63, 64, 65, 66] (by decide +kernel) (by decide +kernel)
set_option maxRecDepth 20000 in
theorem gX8_help_X0_layAs : GoodIn wsX8_help (wsV RX8 277 RX0 yX0_layAs wsX0_layAs) := goodIn_app (goodIn_of _ (by decide +kernel)) ggX8_help_X0_layAs
set_option maxRecDepth 20000 in
theorem ggX8_help_X0_change : GoodIn wsX8_help wsX0_change := goodIn_r _ [33, 17, 18, 19, 7, 20, 12, 21, 34, 35, 36, 37, 38, 39, 40, 41, 62, 63, 64, 65, 66] (by decide +kernel) (by decide +kernel)
set_option maxRecDepth 20000 in
theorem gX8_help_X0_change : GoodIn wsX8_help (wsV RX8 151 RX0 yX0_change wsX0_change) := goodIn_app (goodIn_of _ (by decide +kernel)) ggX8_help_X0_change
theorem dX8_help_0 : decode cX8_help 0 = .ok (.iload_n 1, 1) := by decide +kernel
theorem dX8_help_1 : decode cX8_help 1 = .ok (.ifCond .lt 8, 3) := by decide +kernel
theorem dX8_help_4 : decode cX8_help 4 = .ok (.iload_n 1, 1) := by decide +kernel
theorem dX8_help_5 : decode cX8_help 5 = .ok (.iconst 2, 1) := by decide +kernel
theorem dX8_help_6 : decode cX8_help 6 = .ok (.if_icmp .le 6, 3) := by decide +kernel
theorem dX8_help_9 : decode cX8_help 9 = .ok (.bipush (-2), 2) := by decide +kernel
theorem dX8_help_11 : decode cX8_help 11 = .ok (.ireturn, 1) := by decide +kernel
theorem dX8_help_12 : decode cX8_help 12 = .ok (.aload_n 0, 1) := by decide +kernel
theorem dX8_help_13 : decode cX8_help 13 = .ok (.getfield 10, 3) := by decide +kernel
theorem dX8_help_16 : decode cX8_help 16 = .ok (.invokevirtual 158, 3) := by decide +kernel
theorem dX8_help_19 : decode cX8_help 19 = .ok (.aload_n 0, 1) := by decide +kernel
theorem dX8_help_20 : decode cX8_help 20 = .ok (.getfield 10, 3) := by decide +kernel
theorem dX8_help_23 : decode cX8_help 23 = .ok (.getfield 164, 3) := by decide +kernel
theorem dX8_help_26 : decode cX8_help 26 = .ok (.istore_n 2, 1) := by decide +kernel
theorem dX8_help_27 : decode cX8_help 27 = .ok (.iconst (-1), 1) := by decide +kernel
theorem dX8_help_28 : decode cX8_help 28 = .ok (.istore_n 3, 1) := by decide +kernel
theorem dX8_help_29 : decode cX8_help 29 = .ok (.aload_n 0, 1) := by decide +kernel
theorem dX8_help_30 : decode cX8_help 30 = .ok (.getfield 78, 3) := by decide +kernel
theorem dX8_help_33 : decode cX8_help 33 = .ok (.aload_n 0, 1) := by decide +kernel
theorem dX8_help_34 : decode cX8_help 34 = .ok (.getfield 10, 3) := by decide +kernel
theorem dX8_help_37 : decode cX8_help 37 = .ok (.invokevirtual 277, 3) := by decide +kernel
theorem dX8_help_40 : decode cX8_help 40 = .ok (.iconst 0, 1) := by decide +kernel
theorem dX8_help_41 : decode cX8_help 41 = .ok (.istore 4, 2) := by decide +kernel
theorem dX8_help_43 : decode cX8_help 43 = .ok (.iload 4, 2) := by decide +kernel
theorem dX8_help_45 : decode cX8_help 45 = .ok (.aload_n 0, 1) := by decide +kernel
theorem dX8_help_46 : decode cX8_help 46 = .ok (.getfield 10, 3) := by decide +kernel
theorem dX8_help_49 : decode cX8_help 49 = .ok (.getfield 124, 3) := by decide +kernel
theorem dX8_help_52 : decode cX8_help 52 = .ok (.if_icmp .ge 90, 3) := by decide +kernel
theorem dX8_help_55 : decode cX8_help 55 = .ok (.iload 4, 2) := by decide +kernel
theorem dX8_help_57 : decode cX8_help 57 = .ok (.iconst 1, 1) := by decide +kernel
theorem dX8_help_58 : decode cX8_help 58 = .ok (.iadd, 1) := by decide +kernel
theorem dX8_help_59 : decode cX8_help 59 = .ok (.istore 5, 2) := by decide +kernel
theorem dX8_help_61 : decode cX8_help 61 = .ok (.iload 5, 2) := by decide +kernel
theorem dX8_help_63 : decode cX8_help 63 = .ok (.aload_n 0, 1) := by decide +kernel
theorem dX8_help_64 : decode cX8_help 64 = .ok (.getfield 10, 3) := by decide +kernel
theorem dX8_help_67 : decode cX8_help 67 = .ok (.getfield 124, 3) := by decide +kernel
theorem dX8_help_70 : decode cX8_help 70 = .ok (.if_icmp .ge 66, 3) := by decide +kernel
theorem dX8_help_73 : decode cX8_help 73 = .ok (.aload_n 0, 1) := by decide +kernel
theorem dX8_help_74 : decode cX8_help 74 = .ok (.getfield 78, 3) := by decide +kernel
theorem dX8_help_77 : decode cX8_help 77 = .ok (.iload 4, 2) := by decide +kernel
theorem dX8_help_79 : decode cX8_help 79 = .ok (.iload 5, 2) := by decide +kernel
theorem dX8_help_81 : decode cX8_help 81 = .ok (.invokevirtual 151, 3) := by decide +kernel
theorem dX8_help_84 : decode cX8_help 84 = .ok (.aload_n 0, 1) := by decide +kernel
theorem dX8_help_85 : decode cX8_help 85 = .ok (.getfield 78, 3) := by decide +kernel
theorem dX8_help_88 : decode cX8_help 88 = .ok (.invokevirtual 158, 3) := by decide +kernel
theorem dX8_help_91 : decode cX8_help 91 = .ok (.aload_n 0, 1) := by decide +kernel
theorem dX8_help_92 : decode cX8_help 92 = .ok (.getfield 78, 3) := by decide +kernel
theorem dX8_help_95 : decode cX8_help 95 = .ok (.getfield 164, 3) := by decide +kernel
theorem dX8_help_98 : decode cX8_help 98 = .ok (.iload_n 2, 1) := by decide +kernel
theorem dX8_help_99 : decode cX8_help 99 = .ok (.if_icmp .ge 20, 3) := by decide +kernel
theorem dX8_help_102 : decode cX8_help 102 = .ok (.aload_n 0, 1) := by decide +kernel
theorem dX8_help_103 : decode cX8_help 103 = .ok (.getfield 78, 3) := by decide +kernel
theorem dX8_help_106 : decode cX8_help 106 = .ok (.getfield 164, 3) := by decide +kernel
theorem dX8_help_109 : decode cX8_help 109 = .ok (.istore_n 2, 1) := by decide +kernel
theorem dX8_help_110 : decode cX8_help 110 = .ok (.bipush 12, 2) := by decide +kernel
theorem dX8_help_112 : decode cX8_help 112 = .ok (.iload 4, 2) := by decide +kernel
theorem dX8_help_114 : decode cX8_help 114 = .ok (.imul, 1) := by decide +kernel
theorem dX8_help_115 : decode cX8_help 115 = .ok (.iload 5, 2) := by decide +kernel
theorem dX8_help_117 : decode cX8_help 117 = .ok (.iadd, 1) := by decide +kernel
theorem dX8_help_118 : decode cX8_help 118 = .ok (.istore_n 3, 1) := by decide +kernel
theorem dX8_help_119 : decode cX8_help 119 = .ok (.aload_n 0, 1) := by decide +kernel
theorem dX8_help_120 : decode cX8_help 120 = .ok (.getfield 78, 3) := by decide +kernel
theorem dX8_help_123 : decode cX8_help 123 = .ok (.iload 4, 2) := by decide +kernel
theorem dX8_help_125 : decode cX8_help 125 = .ok (.iload 5, 2) := by decide +kernel
theorem dX8_help_127 : decode cX8_help 127 = .ok (.invokevirtual 151, 3) := by decide +kernel
theorem dX8_help_130 : decode cX8_help 130 = .ok (.iinc 5 1, 3) := by decide +kernel
theorem dX8_help_133 : decode cX8_help 133 = .ok (.goto (-72), 3) := by decide +kernel
theorem dX8_help_136 : decode cX8_help 136 = .ok (.iinc 4 1, 3) := by decide +kernel
theorem dX8_help_139 : decode cX8_help 139 = .ok (.goto (-96), 3) := by decide +kernel
theorem dX8_help_142 : decode cX8_help 142 = .ok (.iload_n 3, 1) := by decide +kernel
theorem dX8_help_143 : decode cX8_help 143 = .ok (.iconst (-1), 1) := by decide +kernel
theorem dX8_help_144 : decode cX8_help 144 = .ok (.if_icmp .eq 7, 3) := by decide +kernel
theorem dX8_help_147 : decode cX8_help 147 = .ok (.iload_n 1, 1) := by decide +kernel
theorem dX8_help_148 : decode cX8_help 148 = .ok (.ifCond .ne 5, 3) := by decide +kernel
theorem dX8_help_151 : decode cX8_help 151 = .ok (.iload_n 3, 1) := by decide +kernel
theorem dX8_help_152 : decode cX8_help 152 = .ok (.ireturn, 1) := by decide +kernel
theorem dX8_help_153 : decode cX8_help 153 = .ok (.iload_n 1, 1) := by decide +kernel
theorem dX8_help_154 : decode cX8_help 154 = .ok (.iconst 1, 1) := by decide +kernel
theorem dX8_help_155 : decode cX8_help 155 = .ok (.if_icmp .ne 5, 3) := by decide +kernel
theorem dX8_help_158 : decode cX8_help 158 = .ok (.iload_n 2, 1) := by decide +kernel
theorem dX8_help_159 : decode cX8_help 159 = .ok (.ireturn, 1) := by decide +kernel
theorem dX8_help_160 : decode cX8_help 160 = .ok (.iload_n 2, 1) := by decide +kernel
theorem dX8_help_161 : decode cX8_help 161 = .ok (.aload_n 0, 1) := by decide +kernel
theorem dX8_help_162 : decode cX8_help 162 = .ok (.getfield 16, 3) := by decide +kernel
theorem dX8_help_165 : decode cX8_help 165 = .ok (.if_icmp .gt 17, 3) := by decide +kernel
theorem dX8_help_168 : decode cX8_help 168 = .ok (.aload_n 0, 1) := by decide +kernel
theorem dX8_help_169 : decode cX8_help 169 = .ok (.getfield 10, 3) := by decide +kernel
theorem dX8_help_172 : decode cX8_help 172 = .ok (.getfield 167, 3) := by decide +kernel
theorem dX8_help_175 : decode cX8_help 175 = .ok (.ifCond .ne 7, 3) := by decide +kernel
theorem dX8_help_178 : decode cX8_help 178 = .ok (.iconst 1, 1) := by decide +kernel
theorem dX8_help_179 : decode cX8_help 179 = .ok (.goto 4, 3) := by decide +kernel
theorem dX8_help_182 : decode cX8_help 182 = .ok (.iconst 0, 1) := by decide +kernel
theorem dX8_help_183 : decode cX8_help 183 = .ok (.ireturn, 1) := by decide +kernel
set_option maxRecDepth 20000 in
theorem ggX8_enough_X8_factorial : GoodIn wsX8_enough wsX8_factorial := goodIn_r _ [5] (by decide +kernel) (by decide +kernel)
set_option maxRecDepth 20000 in
theorem gX8_enough_X8_factorial : GoodIn wsX8_enough (va_wsS RX8 235 yX8_factorial wsX8_factorial) := goodIn_app (goodIn_of _ (by decide +kernel)) ggX8_enough_X8_factorial
set_option maxRecDepth 20000 in
theorem ggX8_enough_X8_waysClosed : GoodIn wsX8_enough wsX8_waysClosed := goodIn_r _ [9, 10, 11, 12, 13, 14, 15, 16, 17, 18, 19, 20, 21, 22, 23, 24, 25, 26, 27, 28, 29, 30] (by decide +kernel) (by decide +kernel)
set_option maxRecDepth 20000 in
theorem gX8_enough_X8_waysClosed : GoodIn wsX8_enough (wsV RX8 221 RX8 yX8_waysClosed wsX8_waysClosed) := goodIn_app (goodIn_of _ (by decide +kernel)) ggX8_enough_X8_waysClosed
theorem dX8_enough_0 : decode cX8_enough 0 = .ok (.iload_n 1, 1) := by decide +kernel
theorem dX8_enough_1 : decode cX8_enough 1 = .ok (.iconst 1, 1) := by decide +kernel
theorem dX8_enough_2 : decode cX8_enough 2 = .ok (.if_icmp .lt 19, 3) := by decide +kernel
theorem dX8_enough_5 : decode cX8_enough 5 = .ok (.iload_n 1, 1) := by decide +kernel
theorem dX8_enough_6 : decode cX8_enough 6 = .ok (.bipush 12, 2) := by decide +kernel
theorem dX8_enough_8 : decode cX8_enough 8 = .ok (.if_icmp .gt 13, 3) := by decide +kernel
theorem dX8_enough_11 : decode cX8_enough 11 = .ok (.iload_n 2, 1) := by decide +kernel
theorem dX8_enough_12 : decode cX8_enough 12 = .ok (.ifCond .lt 9, 3) := by decide +kernel
theorem dX8_enough_15 : decode cX8_enough 15 = .ok (.iload_n 2, 1) := by decide +kernel
theorem dX8_enough_16 : decode cX8_enough 16 = .ok (.bipush 100, 2) := by decide +kernel
theorem dX8_enough_18 : decode cX8_enough 18 = .ok (.if_icmp .le 6, 3) := by decide +kernel
theorem dX8_enough_21 : decode cX8_enough 21 = .ok (.bipush (-2), 2) := by decide +kernel
theorem dX8_enough_23 : decode cX8_enough 23 = .ok (.ireturn, 1) := by decide +kernel
theorem dX8_enough_24 : decode cX8_enough 24 = .ok (.iload_n 2, 1) := by decide +kernel
theorem dX8_enough_25 : decode cX8_enough 25 = .ok (.i2l, 1) := by decide +kernel
theorem dX8_enough_26 : decode cX8_enough 26 = .ok (.iload_n 1, 1) := by decide +kernel
theorem dX8_enough_27 : decode cX8_enough 27 = .ok (.invokestatic 235, 3) := by decide +kernel
theorem dX8_enough_30 : decode cX8_enough 30 = .ok (.lmul, 1) := by decide +kernel
theorem dX8_enough_31 : decode cX8_enough 31 = .ok (.lstore_n 3, 1) := by decide +kernel
theorem dX8_enough_32 : decode cX8_enough 32 = .ok (.iconst 0, 1) := by decide +kernel
theorem dX8_enough_33 : decode cX8_enough 33 = .ok (.istore 5, 2) := by decide +kernel
theorem dX8_enough_35 : decode cX8_enough 35 = .ok (.iload 5, 2) := by decide +kernel
theorem dX8_enough_37 : decode cX8_enough 37 = .ok (.iload_n 1, 1) := by decide +kernel
theorem dX8_enough_38 : decode cX8_enough 38 = .ok (.if_icmp .ge 25, 3) := by decide +kernel
theorem dX8_enough_41 : decode cX8_enough 41 = .ok (.ldc2_w 280, 3) := by decide +kernel
theorem dX8_enough_44 : decode cX8_enough 44 = .ok (.aload_n 0, 1) := by decide +kernel
theorem dX8_enough_45 : decode cX8_enough 45 = .ok (.iload_n 1, 1) := by decide +kernel
theorem dX8_enough_46 : decode cX8_enough 46 = .ok (.iload 5, 2) := by decide +kernel
theorem dX8_enough_48 : decode cX8_enough 48 = .ok (.invokevirtual 221, 3) := by decide +kernel
theorem dX8_enough_51 : decode cX8_enough 51 = .ok (.lmul, 1) := by decide +kernel
theorem dX8_enough_52 : decode cX8_enough 52 = .ok (.lload_n 3, 1) := by decide +kernel
theorem dX8_enough_53 : decode cX8_enough 53 = .ok (.lcmp, 1) := by decide +kernel
theorem dX8_enough_54 : decode cX8_enough 54 = .ok (.ifCond .ge 9, 3) := by decide +kernel
theorem dX8_enough_57 : decode cX8_enough 57 = .ok (.iinc 5 1, 3) := by decide +kernel
theorem dX8_enough_60 : decode cX8_enough 60 = .ok (.goto (-25), 3) := by decide +kernel
theorem dX8_enough_63 : decode cX8_enough 63 = .ok (.iload 5, 2) := by decide +kernel
theorem dX8_enough_65 : decode cX8_enough 65 = .ok (.ireturn, 1) := by decide +kernel
set_option maxRecDepth 20000 in
theorem ggX8_order_X8_sheetAt : GoodIn wsX8_order wsX8_sheetAt := goodIn_r _ [6, 7, 42, 43, 44, 45, 46, 47, 48, 49, 50, 51, 52, 53, 54, 55, 56, 57, 58, 59, 60, 61] (by decide +kernel) (by decide +kernel)
set_option maxRecDepth 20000 in
theorem gX8_order_X8_sheetAt : GoodIn wsX8_order (wsV RX8 127 RX8 yX8_sheetAt wsX8_sheetAt) := goodIn_app (goodIn_of _ (by decide +kernel)) ggX8_order_X8_sheetAt
set_option maxRecDepth 20000 in
theorem ggX8_order_X3_isMissing : GoodIn wsX8_order wsX3_isMissing := goodIn_r _ [12, 13, 39, 40, 41] (by decide +kernel) (by decide +kernel)
set_option maxRecDepth 20000 in
theorem gX8_order_X3_isMissing : GoodIn wsX8_order (wsV RX8 131 RX3 yX3_isMissing wsX3_isMissing) := goodIn_app (goodIn_of _ (by decide +kernel)) ggX8_order_X3_isMissing
set_option maxRecDepth 20000 in
theorem ggX8_order_X8_holdsWeights : GoodIn wsX8_order wsX8_holdsWeights := goodIn_r _ [16, 17, 18, 19, 11, 20, 21, 22, 23, 24, 25, 26, 39, 40, 41] (by decide +kernel) (by decide +kernel)
set_option maxRecDepth 20000 in
theorem gX8_order_X8_holdsWeights : GoodIn wsX8_order (va_wsS RX8 282 yX8_holdsWeights wsX8_holdsWeights) := goodIn_app (goodIn_of _ (by decide +kernel)) ggX8_order_X8_holdsWeights
set_option maxRecDepth 20000 in
theorem ggX8_order_X8_looksOfEach : GoodIn wsX8_order wsX8_looksOfEach := goodIn_r _ [30, 31, 1, 32, 33, 34, 35, 42, 43, 44, 45, 46, 47, 48, 49, 50, 51, 52, 53, 54, 55, 56, 57, 58, 59, 60, 61, 62, 63, 64, 65, 66] (by decide +kernel) (by decide +kernel)
set_option maxRecDepth 20000 in
theorem gX8_order_X8_looksOfEach : GoodIn wsX8_order (wsV RX8 193 RX8 yX8_looksOfEach wsX8_looksOfEach) := goodIn_app (goodIn_of _ (by decide +kernel)) ggX8_order_X8_looksOfEach
set_option maxRecDepth 20000 in
theorem ggX8_order_X8_heaviestBut : GoodIn wsX8_order wsX8_heaviestBut := goodIn_r _ [38, 17, 18, 19, 11, 20, 21, 22, 23, 24, 25, 26, 39, 40, 41] (by decide +kernel) (by decide +kernel)
set_option maxRecDepth 20000 in
theorem gX8_order_X8_heaviestBut : GoodIn wsX8_order (va_wsS RX8 285 yX8_heaviestBut wsX8_heaviestBut) := goodIn_app (goodIn_of _ (by decide +kernel)) ggX8_order_X8_heaviestBut
set_option maxRecDepth 20000 in
theorem ggX8_order_X3_at : GoodIn wsX8_order wsX3_at := goodIn_r _ [20, 21, 22, 23, 24, 11, 25, 26, 39, 40, 41] (by decide +kernel) (by decide +kernel)
set_option maxRecDepth 20000 in
theorem gX8_order_X3_at : GoodIn wsX8_order (wsV RX8 140 RX3 yX3_at wsX3_at) := goodIn_app (goodIn_of _ (by decide +kernel)) ggX8_order_X3_at
theorem dX8_order_0 : decode cX8_order 0 = .ok (.aload_n 0, 1) := by decide +kernel
theorem dX8_order_1 : decode cX8_order 1 = .ok (.iload_n 1, 1) := by decide +kernel
theorem dX8_order_2 : decode cX8_order 2 = .ok (.invokevirtual 127, 3) := by decide +kernel
theorem dX8_order_5 : decode cX8_order 5 = .ok (.astore_n 3, 1) := by decide +kernel
theorem dX8_order_6 : decode cX8_order 6 = .ok (.aload_n 3, 1) := by decide +kernel
theorem dX8_order_7 : decode cX8_order 7 = .ok (.ifnull 12, 3) := by decide +kernel
theorem dX8_order_10 : decode cX8_order 10 = .ok (.iload_n 2, 1) := by decide +kernel
theorem dX8_order_11 : decode cX8_order 11 = .ok (.ifCond .lt 8, 3) := by decide +kernel
theorem dX8_order_14 : decode cX8_order 14 = .ok (.iload_n 2, 1) := by decide +kernel
theorem dX8_order_15 : decode cX8_order 15 = .ok (.iconst 1, 1) := by decide +kernel
theorem dX8_order_16 : decode cX8_order 16 = .ok (.if_icmp .le 6, 3) := by decide +kernel
theorem dX8_order_19 : decode cX8_order 19 = .ok (.bipush (-2), 2) := by decide +kernel
theorem dX8_order_21 : decode cX8_order 21 = .ok (.ireturn, 1) := by decide +kernel
theorem dX8_order_22 : decode cX8_order 22 = .ok (.aload_n 3, 1) := by decide +kernel
theorem dX8_order_23 : decode cX8_order 23 = .ok (.invokevirtual 131, 3) := by decide +kernel
theorem dX8_order_26 : decode cX8_order 26 = .ok (.ifCond .eq 6, 3) := by decide +kernel
theorem dX8_order_29 : decode cX8_order 29 = .ok (.bipush (-11), 2) := by decide +kernel
theorem dX8_order_31 : decode cX8_order 31 = .ok (.ireturn, 1) := by decide +kernel
theorem dX8_order_32 : decode cX8_order 32 = .ok (.aload_n 3, 1) := by decide +kernel
theorem dX8_order_33 : decode cX8_order 33 = .ok (.getfield 135, 3) := by decide +kernel
theorem dX8_order_36 : decode cX8_order 36 = .ok (.aload_n 0, 1) := by decide +kernel
theorem dX8_order_37 : decode cX8_order 37 = .ok (.getfield 10, 3) := by decide +kernel
theorem dX8_order_40 : decode cX8_order 40 = .ok (.getfield 124, 3) := by decide +kernel
theorem dX8_order_43 : decode cX8_order 43 = .ok (.if_icmp .ne 10, 3) := by decide +kernel
theorem dX8_order_46 : decode cX8_order 46 = .ok (.aload_n 3, 1) := by decide +kernel
theorem dX8_order_47 : decode cX8_order 47 = .ok (.invokestatic 282, 3) := by decide +kernel
theorem dX8_order_50 : decode cX8_order 50 = .ok (.ifCond .ne 6, 3) := by decide +kernel
theorem dX8_order_53 : decode cX8_order 53 = .ok (.bipush (-2), 2) := by decide +kernel
theorem dX8_order_55 : decode cX8_order 55 = .ok (.ireturn, 1) := by decide +kernel
theorem dX8_order_56 : decode cX8_order 56 = .ok (.iconst 0, 1) := by decide +kernel
theorem dX8_order_57 : decode cX8_order 57 = .ok (.istore 4, 2) := by decide +kernel
theorem dX8_order_59 : decode cX8_order 59 = .ok (.iconst 0, 1) := by decide +kernel
theorem dX8_order_60 : decode cX8_order 60 = .ok (.istore 5, 2) := by decide +kernel
theorem dX8_order_62 : decode cX8_order 62 = .ok (.iconst 0, 1) := by decide +kernel
theorem dX8_order_63 : decode cX8_order 63 = .ok (.istore 6, 2) := by decide +kernel
theorem dX8_order_65 : decode cX8_order 65 = .ok (.iload 6, 2) := by decide +kernel
theorem dX8_order_67 : decode cX8_order 67 = .ok (.aload_n 0, 1) := by decide +kernel
theorem dX8_order_68 : decode cX8_order 68 = .ok (.invokevirtual 193, 3) := by decide +kernel
theorem dX8_order_71 : decode cX8_order 71 = .ok (.if_icmp .ge 37, 3) := by decide +kernel
theorem dX8_order_74 : decode cX8_order 74 = .ok (.aload_n 3, 1) := by decide +kernel
theorem dX8_order_75 : decode cX8_order 75 = .ok (.iload 4, 2) := by decide +kernel
theorem dX8_order_77 : decode cX8_order 77 = .ok (.invokestatic 285, 3) := by decide +kernel
theorem dX8_order_80 : decode cX8_order 80 = .ok (.istore 7, 2) := by decide +kernel
theorem dX8_order_82 : decode cX8_order 82 = .ok (.iload 4, 2) := by decide +kernel
theorem dX8_order_84 : decode cX8_order 84 = .ok (.iconst 1, 1) := by decide +kernel
theorem dX8_order_85 : decode cX8_order 85 = .ok (.iload 7, 2) := by decide +kernel
theorem dX8_order_87 : decode cX8_order 87 = .ok (.ishl, 1) := by decide +kernel
theorem dX8_order_88 : decode cX8_order 88 = .ok (.ior, 1) := by decide +kernel
theorem dX8_order_89 : decode cX8_order 89 = .ok (.istore 4, 2) := by decide +kernel
theorem dX8_order_91 : decode cX8_order 91 = .ok (.iload 5, 2) := by decide +kernel
theorem dX8_order_93 : decode cX8_order 93 = .ok (.aload_n 3, 1) := by decide +kernel
theorem dX8_order_94 : decode cX8_order 94 = .ok (.iload 7, 2) := by decide +kernel
theorem dX8_order_96 : decode cX8_order 96 = .ok (.invokevirtual 140, 3) := by decide +kernel
theorem dX8_order_99 : decode cX8_order 99 = .ok (.iadd, 1) := by decide +kernel
theorem dX8_order_100 : decode cX8_order 100 = .ok (.istore 5, 2) := by decide +kernel
theorem dX8_order_102 : decode cX8_order 102 = .ok (.iinc 6 1, 3) := by decide +kernel
theorem dX8_order_105 : decode cX8_order 105 = .ok (.goto (-40), 3) := by decide +kernel
theorem dX8_order_108 : decode cX8_order 108 = .ok (.iload_n 2, 1) := by decide +kernel
theorem dX8_order_109 : decode cX8_order 109 = .ok (.ifCond .ne 8, 3) := by decide +kernel
theorem dX8_order_112 : decode cX8_order 112 = .ok (.iload 4, 2) := by decide +kernel
theorem dX8_order_114 : decode cX8_order 114 = .ok (.goto 5, 3) := by decide +kernel
theorem dX8_order_117 : decode cX8_order 117 = .ok (.iload 5, 2) := by decide +kernel
theorem dX8_order_119 : decode cX8_order 119 = .ok (.ireturn, 1) := by decide +kernel
set_option maxRecDepth 20000 in
theorem ggX8_holdsWeights_X3_at : GoodIn wsX8_holdsWeights wsX3_at := goodIn_r _ [5, 6, 7, 8, 9, 4, 10, 11, 12, 13, 14] (by decide +kernel) (by decide +kernel)
set_option maxRecDepth 20000 in
theorem gX8_holdsWeights_X3_at : GoodIn wsX8_holdsWeights (wsV RX8 140 RX3 yX3_at wsX3_at) := goodIn_app (goodIn_of _ (by decide +kernel)) ggX8_holdsWeights_X3_at
theorem dX8_holdsWeights_0 : decode cX8_holdsWeights 0 = .ok (.iconst 0, 1) := by decide +kernel
theorem dX8_holdsWeights_1 : decode cX8_holdsWeights 1 = .ok (.istore_n 1, 1) := by decide +kernel
theorem dX8_holdsWeights_2 : decode cX8_holdsWeights 2 = .ok (.iload_n 1, 1) := by decide +kernel
theorem dX8_holdsWeights_3 : decode cX8_holdsWeights 3 = .ok (.aload_n 0, 1) := by decide +kernel
theorem dX8_holdsWeights_4 : decode cX8_holdsWeights 4 = .ok (.getfield 135, 3) := by decide +kernel
theorem dX8_holdsWeights_7 : decode cX8_holdsWeights 7 = .ok (.if_icmp .ge 29, 3) := by decide +kernel
theorem dX8_holdsWeights_10 : decode cX8_holdsWeights 10 = .ok (.aload_n 0, 1) := by decide +kernel
theorem dX8_holdsWeights_11 : decode cX8_holdsWeights 11 = .ok (.iload_n 1, 1) := by decide +kernel
theorem dX8_holdsWeights_12 : decode cX8_holdsWeights 12 = .ok (.invokevirtual 140, 3) := by decide +kernel
theorem dX8_holdsWeights_15 : decode cX8_holdsWeights 15 = .ok (.ifCond .lt 13, 3) := by decide +kernel
theorem dX8_holdsWeights_18 : decode cX8_holdsWeights 18 = .ok (.aload_n 0, 1) := by decide +kernel
theorem dX8_holdsWeights_19 : decode cX8_holdsWeights 19 = .ok (.iload_n 1, 1) := by decide +kernel
theorem dX8_holdsWeights_20 : decode cX8_holdsWeights 20 = .ok (.invokevirtual 140, 3) := by decide +kernel
theorem dX8_holdsWeights_23 : decode cX8_holdsWeights 23 = .ok (.bipush 99, 2) := by decide +kernel
theorem dX8_holdsWeights_25 : decode cX8_holdsWeights 25 = .ok (.if_icmp .le 5, 3) := by decide +kernel
theorem dX8_holdsWeights_28 : decode cX8_holdsWeights 28 = .ok (.iconst 0, 1) := by decide +kernel
theorem dX8_holdsWeights_29 : decode cX8_holdsWeights 29 = .ok (.ireturn, 1) := by decide +kernel
theorem dX8_holdsWeights_30 : decode cX8_holdsWeights 30 = .ok (.iinc 1 1, 3) := by decide +kernel
theorem dX8_holdsWeights_33 : decode cX8_holdsWeights 33 = .ok (.goto (-31), 3) := by decide +kernel
theorem dX8_holdsWeights_36 : decode cX8_holdsWeights 36 = .ok (.iconst 1, 1) := by decide +kernel
theorem dX8_holdsWeights_37 : decode cX8_holdsWeights 37 = .ok (.ireturn, 1) := by decide +kernel
set_option maxRecDepth 20000 in
theorem ggX8_heaviestBut_X3_at : GoodIn wsX8_heaviestBut wsX3_at := goodIn_r _ [5, 6, 7, 8, 9, 4, 10, 11, 12, 13, 14] (by decide +kernel) (by decide +kernel)
set_option maxRecDepth 20000 in
theorem gX8_heaviestBut_X3_at : GoodIn wsX8_heaviestBut (wsV RX8 140 RX3 yX3_at wsX3_at) := goodIn_app (goodIn_of _ (by decide +kernel)) ggX8_heaviestBut_X3_at
theorem dX8_heaviestBut_0 : decode cX8_heaviestBut 0 = .ok (.iconst 0, 1) := by decide +kernel
theorem dX8_heaviestBut_1 : decode cX8_heaviestBut 1 = .ok (.istore_n 2, 1) := by decide +kernel
theorem dX8_heaviestBut_2 : decode cX8_heaviestBut 2 = .ok (.iconst (-1), 1) := by decide +kernel
theorem dX8_heaviestBut_3 : decode cX8_heaviestBut 3 = .ok (.istore_n 3, 1) := by decide +kernel
theorem dX8_heaviestBut_4 : decode cX8_heaviestBut 4 = .ok (.iconst 0, 1) := by decide +kernel
theorem dX8_heaviestBut_5 : decode cX8_heaviestBut 5 = .ok (.istore 4, 2) := by decide +kernel
theorem dX8_heaviestBut_7 : decode cX8_heaviestBut 7 = .ok (.iload 4, 2) := by decide +kernel
theorem dX8_heaviestBut_9 : decode cX8_heaviestBut 9 = .ok (.aload_n 0, 1) := by decide +kernel
theorem dX8_heaviestBut_10 : decode cX8_heaviestBut 10 = .ok (.getfield 135, 3) := by decide +kernel
theorem dX8_heaviestBut_13 : decode cX8_heaviestBut 13 = .ok (.if_icmp .ge 38, 3) := by decide +kernel
theorem dX8_heaviestBut_16 : decode cX8_heaviestBut 16 = .ok (.iload_n 1, 1) := by decide +kernel
theorem dX8_heaviestBut_17 : decode cX8_heaviestBut 17 = .ok (.iload 4, 2) := by decide +kernel
theorem dX8_heaviestBut_19 : decode cX8_heaviestBut 19 = .ok (.ishr, 1) := by decide +kernel
theorem dX8_heaviestBut_20 : decode cX8_heaviestBut 20 = .ok (.iconst 1, 1) := by decide +kernel
theorem dX8_heaviestBut_21 : decode cX8_heaviestBut 21 = .ok (.iand, 1) := by decide +kernel
theorem dX8_heaviestBut_22 : decode cX8_heaviestBut 22 = .ok (.ifCond .ne 23, 3) := by decide +kernel
theorem dX8_heaviestBut_25 : decode cX8_heaviestBut 25 = .ok (.aload_n 0, 1) := by decide +kernel
theorem dX8_heaviestBut_26 : decode cX8_heaviestBut 26 = .ok (.iload 4, 2) := by decide +kernel
theorem dX8_heaviestBut_28 : decode cX8_heaviestBut 28 = .ok (.invokevirtual 140, 3) := by decide +kernel
theorem dX8_heaviestBut_31 : decode cX8_heaviestBut 31 = .ok (.iload_n 3, 1) := by decide +kernel
theorem dX8_heaviestBut_32 : decode cX8_heaviestBut 32 = .ok (.if_icmp .le 13, 3) := by decide +kernel
theorem dX8_heaviestBut_35 : decode cX8_heaviestBut 35 = .ok (.iload 4, 2) := by decide +kernel
theorem dX8_heaviestBut_37 : decode cX8_heaviestBut 37 = .ok (.istore_n 2, 1) := by decide +kernel
theorem dX8_heaviestBut_38 : decode cX8_heaviestBut 38 = .ok (.aload_n 0, 1) := by decide +kernel
theorem dX8_heaviestBut_39 : decode cX8_heaviestBut 39 = .ok (.iload 4, 2) := by decide +kernel
theorem dX8_heaviestBut_41 : decode cX8_heaviestBut 41 = .ok (.invokevirtual 140, 3) := by decide +kernel
theorem dX8_heaviestBut_44 : decode cX8_heaviestBut 44 = .ok (.istore_n 3, 1) := by decide +kernel
theorem dX8_heaviestBut_45 : decode cX8_heaviestBut 45 = .ok (.iinc 4 1, 3) := by decide +kernel
theorem dX8_heaviestBut_48 : decode cX8_heaviestBut 48 = .ok (.goto (-41), 3) := by decide +kernel
theorem dX8_heaviestBut_51 : decode cX8_heaviestBut 51 = .ok (.iload_n 2, 1) := by decide +kernel
theorem dX8_heaviestBut_52 : decode cX8_heaviestBut 52 = .ok (.ireturn, 1) := by decide +kernel
set_option maxRecDepth 20000 in
theorem ggX8_image_X0_layAs : GoodIn wsX8_image wsX0_layAs := goodIn_r _ [12, 13, 14, 15, 16, 17, 18, 39, 40, 41, 42, 43] (by decide +kernel) (by decide +kernel)
set_option maxRecDepth 20000 in
theorem gX8_image_X0_layAs : GoodIn wsX8_image (wsV RX8 277 RX0 yX0_layAs wsX0_layAs) := goodIn_app (goodIn_of _ (by decide +kernel)) ggX8_image_X0_layAs
theorem dX8_image_0 : decode cX8_image 0 = .ok (.aload_n 0, 1) := by decide +kernel
theorem dX8_image_1 : decode cX8_image 1 = .ok (.getfield 23, 3) := by decide +kernel
theorem dX8_image_4 : decode cX8_image 4 = .ok (.aload_n 0, 1) := by decide +kernel
theorem dX8_image_5 : decode cX8_image 5 = .ok (.getfield 10, 3) := by decide +kernel
theorem dX8_image_8 : decode cX8_image 8 = .ok (.invokevirtual 277, 3) := by decide +kernel
theorem dX8_image_11 : decode cX8_image 11 = .ok (.aload_n 0, 1) := by decide +kernel
theorem dX8_image_12 : decode cX8_image 12 = .ok (.aload_n 0, 1) := by decide +kernel
theorem dX8_image_13 : decode cX8_image 13 = .ok (.getfield 16, 3) := by decide +kernel
theorem dX8_image_16 : decode cX8_image 16 = .ok (.putfield 289, 3) := by decide +kernel
theorem dX8_image_19 : decode cX8_image 19 = .ok (.aload_n 0, 1) := by decide +kernel
theorem dX8_image_20 : decode cX8_image 20 = .ok (.aload_n 0, 1) := by decide +kernel
theorem dX8_image_21 : decode cX8_image 21 = .ok (.getfield 20, 3) := by decide +kernel
theorem dX8_image_24 : decode cX8_image 24 = .ok (.putfield 292, 3) := by decide +kernel
theorem dX8_image_27 : decode cX8_image 27 = .ok (.aload_n 0, 1) := by decide +kernel
theorem dX8_image_28 : decode cX8_image 28 = .ok (.iconst 1, 1) := by decide +kernel
theorem dX8_image_29 : decode cX8_image 29 = .ok (.putfield 26, 3) := by decide +kernel
theorem dX8_image_32 : decode cX8_image 32 = .ok (.aload_n 0, 1) := by decide +kernel
theorem dX8_image_33 : decode cX8_image 33 = .ok (.getfield 10, 3) := by decide +kernel
theorem dX8_image_36 : decode cX8_image 36 = .ok (.getfield 124, 3) := by decide +kernel
theorem dX8_image_39 : decode cX8_image 39 = .ok (.ireturn, 1) := by decide +kernel
set_option maxRecDepth 20000 in
theorem ggX8_back_X0_layAs : GoodIn wsX8_back wsX0_layAs := goodIn_r _ [12, 13, 14, 15, 16, 17, 18, 39, 40, 41, 42, 43] (by decide +kernel) (by decide +kernel)
set_option maxRecDepth 20000 in
theorem gX8_back_X0_layAs : GoodIn wsX8_back (wsV RX8 277 RX0 yX0_layAs wsX0_layAs) := goodIn_app (goodIn_of _ (by decide +kernel)) ggX8_back_X0_layAs
theorem dX8_back_0 : decode cX8_back 0 = .ok (.aload_n 0, 1) := by decide +kernel
theorem dX8_back_1 : decode cX8_back 1 = .ok (.getfield 26, 3) := by decide +kernel
theorem dX8_back_4 : decode cX8_back 4 = .ok (.ifCond .ne 6, 3) := by decide +kernel
theorem dX8_back_7 : decode cX8_back 7 = .ok (.bipush (-3), 2) := by decide +kernel
theorem dX8_back_9 : decode cX8_back 9 = .ok (.ireturn, 1) := by decide +kernel
theorem dX8_back_10 : decode cX8_back 10 = .ok (.aload_n 0, 1) := by decide +kernel
theorem dX8_back_11 : decode cX8_back 11 = .ok (.getfield 10, 3) := by decide +kernel
theorem dX8_back_14 : decode cX8_back 14 = .ok (.aload_n 0, 1) := by decide +kernel
theorem dX8_back_15 : decode cX8_back 15 = .ok (.getfield 23, 3) := by decide +kernel
theorem dX8_back_18 : decode cX8_back 18 = .ok (.invokevirtual 277, 3) := by decide +kernel
theorem dX8_back_21 : decode cX8_back 21 = .ok (.aload_n 0, 1) := by decide +kernel
theorem dX8_back_22 : decode cX8_back 22 = .ok (.aload_n 0, 1) := by decide +kernel
theorem dX8_back_23 : decode cX8_back 23 = .ok (.getfield 289, 3) := by decide +kernel
theorem dX8_back_26 : decode cX8_back 26 = .ok (.putfield 16, 3) := by decide +kernel
theorem dX8_back_29 : decode cX8_back 29 = .ok (.aload_n 0, 1) := by decide +kernel
theorem dX8_back_30 : decode cX8_back 30 = .ok (.aload_n 0, 1) := by decide +kernel
theorem dX8_back_31 : decode cX8_back 31 = .ok (.getfield 292, 3) := by decide +kernel
theorem dX8_back_34 : decode cX8_back 34 = .ok (.putfield 20, 3) := by decide +kernel
theorem dX8_back_37 : decode cX8_back 37 = .ok (.aload_n 0, 1) := by decide +kernel
theorem dX8_back_38 : decode cX8_back 38 = .ok (.getfield 10, 3) := by decide +kernel
theorem dX8_back_41 : decode cX8_back 41 = .ok (.getfield 124, 3) := by decide +kernel
theorem dX8_back_44 : decode cX8_back 44 = .ok (.ireturn, 1) := by decide +kernel
theorem dX8_count_0 : decode cX8_count 0 = .ok (.iload_n 1, 1) := by decide +kernel
theorem dX8_count_1 : decode cX8_count 1 = .ok (.tableswitch 75 0 5 #[39, 47, 52, 57, 62, 70], 39) := by decide +kernel
theorem dX8_count_40 : decode cX8_count 40 = .ok (.aload_n 0, 1) := by decide +kernel
theorem dX8_count_41 : decode cX8_count 41 = .ok (.getfield 10, 3) := by decide +kernel
theorem dX8_count_44 : decode cX8_count 44 = .ok (.getfield 124, 3) := by decide +kernel
theorem dX8_count_47 : decode cX8_count 47 = .ok (.ireturn, 1) := by decide +kernel
theorem dX8_count_48 : decode cX8_count 48 = .ok (.aload_n 0, 1) := by decide +kernel
theorem dX8_count_49 : decode cX8_count 49 = .ok (.getfield 16, 3) := by decide +kernel
theorem dX8_count_52 : decode cX8_count 52 = .ok (.ireturn, 1) := by decide +kernel
theorem dX8_count_53 : decode cX8_count 53 = .ok (.aload_n 0, 1) := by decide +kernel
theorem dX8_count_54 : decode cX8_count 54 = .ok (.getfield 36, 3) := by decide +kernel
theorem dX8_count_57 : decode cX8_count 57 = .ok (.ireturn, 1) := by decide +kernel
theorem dX8_count_58 : decode cX8_count 58 = .ok (.aload_n 0, 1) := by decide +kernel
theorem dX8_count_59 : decode cX8_count 59 = .ok (.getfield 55, 3) := by decide +kernel
theorem dX8_count_62 : decode cX8_count 62 = .ok (.ireturn, 1) := by decide +kernel
theorem dX8_count_63 : decode cX8_count 63 = .ok (.aload_n 0, 1) := by decide +kernel
theorem dX8_count_64 : decode cX8_count 64 = .ok (.getfield 61, 3) := by decide +kernel
theorem dX8_count_67 : decode cX8_count 67 = .ok (.getfield 170, 3) := by decide +kernel
theorem dX8_count_70 : decode cX8_count 70 = .ok (.ireturn, 1) := by decide +kernel
theorem dX8_count_71 : decode cX8_count 71 = .ok (.aload_n 0, 1) := by decide +kernel
theorem dX8_count_72 : decode cX8_count 72 = .ok (.getfield 20, 3) := by decide +kernel
theorem dX8_count_75 : decode cX8_count 75 = .ok (.ireturn, 1) := by decide +kernel
theorem dX8_count_76 : decode cX8_count 76 = .ok (.bipush (-2), 2) := by decide +kernel
theorem dX8_count_78 : decode cX8_count 78 = .ok (.ireturn, 1) := by decide +kernel
set_option maxRecDepth 20000 in
theorem ggX8_sheet_X8_sheetAt : GoodIn wsX8_sheet wsX8_sheetAt := goodIn_r _ [5, 6, 22, 23, 24, 25, 26, 27, 28, 29, 30, 31, 32, 33, 34, 35, 36, 37, 38, 39, 40, 41] (by decide +kernel) (by decide +kernel)
set_option maxRecDepth 20000 in
theorem gX8_sheet_X8_sheetAt : GoodIn wsX8_sheet (wsV RX8 127 RX8 yX8_sheetAt wsX8_sheetAt) := goodIn_app (goodIn_of _ (by decide +kernel)) ggX8_sheet_X8_sheetAt
set_option maxRecDepth 20000 in
theorem ggX8_sheet_X3_become : GoodIn wsX8_sheet wsX3_become := goodIn_r _ [11, 12, 13, 14, 15, 16, 17, 18, 19, 20, 21, 42, 43, 44] (by decide +kernel) (by decide +kernel)
set_option maxRecDepth 20000 in
theorem gX8_sheet_X3_become : GoodIn wsX8_sheet (wsV RX8 295 RX3 yX3_become wsX3_become) := goodIn_app (goodIn_of _ (by decide +kernel)) ggX8_sheet_X3_become
theorem dX8_sheet_0 : decode cX8_sheet 0 = .ok (.aload_n 0, 1) := by decide +kernel
theorem dX8_sheet_1 : decode cX8_sheet 1 = .ok (.iload_n 1, 1) := by decide +kernel
theorem dX8_sheet_2 : decode cX8_sheet 2 = .ok (.invokevirtual 127, 3) := by decide +kernel
theorem dX8_sheet_5 : decode cX8_sheet 5 = .ok (.astore 4, 2) := by decide +kernel
theorem dX8_sheet_7 : decode cX8_sheet 7 = .ok (.aload 4, 2) := by decide +kernel
theorem dX8_sheet_9 : decode cX8_sheet 9 = .ok (.ifnull 13, 3) := by decide +kernel
theorem dX8_sheet_12 : decode cX8_sheet 12 = .ok (.iload_n 2, 1) := by decide +kernel
theorem dX8_sheet_13 : decode cX8_sheet 13 = .ok (.iconst (-1), 1) := by decide +kernel
theorem dX8_sheet_14 : decode cX8_sheet 14 = .ok (.if_icmp .lt 8, 3) := by decide +kernel
theorem dX8_sheet_17 : decode cX8_sheet 17 = .ok (.iload_n 2, 1) := by decide +kernel
theorem dX8_sheet_18 : decode cX8_sheet 18 = .ok (.iconst 2, 1) := by decide +kernel
theorem dX8_sheet_19 : decode cX8_sheet 19 = .ok (.if_icmp .le 6, 3) := by decide +kernel
theorem dX8_sheet_22 : decode cX8_sheet 22 = .ok (.bipush (-2), 2) := by decide +kernel
theorem dX8_sheet_24 : decode cX8_sheet 24 = .ok (.ireturn, 1) := by decide +kernel
theorem dX8_sheet_25 : decode cX8_sheet 25 = .ok (.iload_n 2, 1) := by decide +kernel
theorem dX8_sheet_26 : decode cX8_sheet 26 = .ok (.iconst (-1), 1) := by decide +kernel
theorem dX8_sheet_27 : decode cX8_sheet 27 = .ok (.if_icmp .ne 12, 3) := by decide +kernel
theorem dX8_sheet_30 : decode cX8_sheet 30 = .ok (.aload 4, 2) := by decide +kernel
theorem dX8_sheet_32 : decode cX8_sheet 32 = .ok (.iconst (-1), 1) := by decide +kernel
theorem dX8_sheet_33 : decode cX8_sheet 33 = .ok (.iconst 0, 1) := by decide +kernel
theorem dX8_sheet_34 : decode cX8_sheet 34 = .ok (.invokevirtual 295, 3) := by decide +kernel
theorem dX8_sheet_37 : decode cX8_sheet 37 = .ok (.iconst 1, 1) := by decide +kernel
theorem dX8_sheet_38 : decode cX8_sheet 38 = .ok (.ireturn, 1) := by decide +kernel
theorem dX8_sheet_39 : decode cX8_sheet 39 = .ok (.iload_n 3, 1) := by decide +kernel
theorem dX8_sheet_40 : decode cX8_sheet 40 = .ok (.bipush 40, 2) := by decide +kernel
theorem dX8_sheet_42 : decode cX8_sheet 42 = .ok (.if_icmp .le 6, 3) := by decide +kernel
theorem dX8_sheet_45 : decode cX8_sheet 45 = .ok (.bipush (-2), 2) := by decide +kernel
theorem dX8_sheet_47 : decode cX8_sheet 47 = .ok (.ireturn, 1) := by decide +kernel
theorem dX8_sheet_48 : decode cX8_sheet 48 = .ok (.iload_n 3, 1) := by decide +kernel
theorem dX8_sheet_49 : decode cX8_sheet 49 = .ok (.ifCond .ge 6, 3) := by decide +kernel
theorem dX8_sheet_52 : decode cX8_sheet 52 = .ok (.bipush (-14), 2) := by decide +kernel
theorem dX8_sheet_54 : decode cX8_sheet 54 = .ok (.ireturn, 1) := by decide +kernel
theorem dX8_sheet_55 : decode cX8_sheet 55 = .ok (.aload 4, 2) := by decide +kernel
theorem dX8_sheet_57 : decode cX8_sheet 57 = .ok (.iload_n 2, 1) := by decide +kernel
theorem dX8_sheet_58 : decode cX8_sheet 58 = .ok (.iload_n 3, 1) := by decide +kernel
theorem dX8_sheet_59 : decode cX8_sheet 59 = .ok (.invokevirtual 295, 3) := by decide +kernel
theorem dX8_sheet_62 : decode cX8_sheet 62 = .ok (.iconst 1, 1) := by decide +kernel
theorem dX8_sheet_63 : decode cX8_sheet 63 = .ok (.ireturn, 1) := by decide +kernel
set_option maxRecDepth 20000 in
theorem ggX8_cell_X8_sheetAt : GoodIn wsX8_cell wsX8_sheetAt := goodIn_r _ [5, 6, 24, 25, 26, 27, 28, 29, 30, 31, 32, 33, 34, 35, 36, 37, 38, 39, 40, 41, 42, 43] (by decide +kernel) (by decide +kernel)
set_option maxRecDepth 20000 in
theorem gX8_cell_X8_sheetAt : GoodIn wsX8_cell (wsV RX8 127 RX8 yX8_sheetAt wsX8_sheetAt) := goodIn_app (goodIn_of _ (by decide +kernel)) ggX8_cell_X8_sheetAt
set_option maxRecDepth 20000 in
theorem ggX8_cell_X3_isMissing : GoodIn wsX8_cell wsX3_isMissing := goodIn_r _ [11, 12, 44, 45, 46] (by decide +kernel) (by decide +kernel)
set_option maxRecDepth 20000 in
theorem gX8_cell_X3_isMissing : GoodIn wsX8_cell (wsV RX8 131 RX3 yX3_isMissing wsX3_isMissing) := goodIn_app (goodIn_of _ (by decide +kernel)) ggX8_cell_X3_isMissing
set_option maxRecDepth 20000 in
theorem ggX8_cell_X3_has : GoodIn wsX8_cell wsX3_has := goodIn_r _ [16, 17, 44, 45, 46] (by decide +kernel) (by decide +kernel)
set_option maxRecDepth 20000 in
theorem gX8_cell_X3_has : GoodIn wsX8_cell (wsV RX8 298 RX3 yX3_has wsX3_has) := goodIn_app (goodIn_of _ (by decide +kernel)) ggX8_cell_X3_has
set_option maxRecDepth 20000 in
theorem ggX8_cell_X3_put : GoodIn wsX8_cell wsX3_put := goodIn_r _ [21, 22, 12, 23, 14, 15, 10, 16, 17, 44, 45, 46] (by decide +kernel) (by decide +kernel)
set_option maxRecDepth 20000 in
theorem gX8_cell_X3_put : GoodIn wsX8_cell (wsV RX8 299 RX3 yX3_put wsX3_put) := goodIn_app (goodIn_of _ (by decide +kernel)) ggX8_cell_X3_put
theorem dX8_cell_0 : decode cX8_cell 0 = .ok (.aload_n 0, 1) := by decide +kernel
theorem dX8_cell_1 : decode cX8_cell 1 = .ok (.iload_n 1, 1) := by decide +kernel
theorem dX8_cell_2 : decode cX8_cell 2 = .ok (.invokevirtual 127, 3) := by decide +kernel
theorem dX8_cell_5 : decode cX8_cell 5 = .ok (.astore 4, 2) := by decide +kernel
theorem dX8_cell_7 : decode cX8_cell 7 = .ok (.aload 4, 2) := by decide +kernel
theorem dX8_cell_9 : decode cX8_cell 9 = .ok (.ifnonnull 6, 3) := by decide +kernel
theorem dX8_cell_12 : decode cX8_cell 12 = .ok (.bipush (-2), 2) := by decide +kernel
theorem dX8_cell_14 : decode cX8_cell 14 = .ok (.ireturn, 1) := by decide +kernel
theorem dX8_cell_15 : decode cX8_cell 15 = .ok (.aload 4, 2) := by decide +kernel
theorem dX8_cell_17 : decode cX8_cell 17 = .ok (.invokevirtual 131, 3) := by decide +kernel
theorem dX8_cell_20 : decode cX8_cell 20 = .ok (.ifCond .eq 6, 3) := by decide +kernel
theorem dX8_cell_23 : decode cX8_cell 23 = .ok (.bipush (-11), 2) := by decide +kernel
theorem dX8_cell_25 : decode cX8_cell 25 = .ok (.ireturn, 1) := by decide +kernel
theorem dX8_cell_26 : decode cX8_cell 26 = .ok (.aload 4, 2) := by decide +kernel
theorem dX8_cell_28 : decode cX8_cell 28 = .ok (.iload_n 2, 1) := by decide +kernel
theorem dX8_cell_29 : decode cX8_cell 29 = .ok (.invokevirtual 298, 3) := by decide +kernel
theorem dX8_cell_32 : decode cX8_cell 32 = .ok (.ifCond .ne 6, 3) := by decide +kernel
theorem dX8_cell_35 : decode cX8_cell 35 = .ok (.bipush (-12), 2) := by decide +kernel
theorem dX8_cell_37 : decode cX8_cell 37 = .ok (.ireturn, 1) := by decide +kernel
theorem dX8_cell_38 : decode cX8_cell 38 = .ok (.aload 4, 2) := by decide +kernel
theorem dX8_cell_40 : decode cX8_cell 40 = .ok (.iload_n 2, 1) := by decide +kernel
theorem dX8_cell_41 : decode cX8_cell 41 = .ok (.iload_n 3, 1) := by decide +kernel
theorem dX8_cell_42 : decode cX8_cell 42 = .ok (.invokevirtual 299, 3) := by decide +kernel
theorem dX8_cell_45 : decode cX8_cell 45 = .ok (.iconst 1, 1) := by decide +kernel
theorem dX8_cell_46 : decode cX8_cell 46 = .ok (.ireturn, 1) := by decide +kernel
set_option maxRecDepth 20000 in
theorem ggX8_copy_X8_sheetAt : GoodIn wsX8_copy wsX8_sheetAt := goodIn_r _ [9, 10, 25, 26, 27, 28, 29, 30, 31, 32, 33, 34, 35, 36, 37, 38, 39, 40, 41, 42, 43, 44] (by decide +kernel) (by decide +kernel)
set_option maxRecDepth 20000 in
theorem gX8_copy_X8_sheetAt : GoodIn wsX8_copy (wsV RX8 127 RX8 yX8_sheetAt wsX8_sheetAt) := goodIn_app (goodIn_of _ (by decide +kernel)) ggX8_copy_X8_sheetAt
set_option maxRecDepth 20000 in
theorem ggX8_copy_X3_isMissing : GoodIn wsX8_copy wsX3_isMissing := goodIn_r _ [15, 16, 22, 23, 24] (by decide +kernel) (by decide +kernel)
set_option maxRecDepth 20000 in
theorem gX8_copy_X3_isMissing : GoodIn wsX8_copy (wsV RX8 131 RX3 yX3_isMissing wsX3_isMissing) := goodIn_app (goodIn_of _ (by decide +kernel)) ggX8_copy_X3_isMissing
set_option maxRecDepth 20000 in
theorem ggX8_copy_X3_hasAll : GoodIn wsX8_copy wsX3_hasAll := goodIn_r _ [20, 21, 22, 23, 24] (by decide +kernel) (by decide +kernel)
set_option maxRecDepth 20000 in
theorem gX8_copy_X3_hasAll : GoodIn wsX8_copy (wsV RX8 303 RX3 yX3_hasAll wsX3_hasAll) := goodIn_app (goodIn_of _ (by decide +kernel)) ggX8_copy_X3_hasAll
theorem dX8_copy_0 : decode cX8_copy 0 = .ok (.aload_n 0, 1) := by decide +kernel
theorem dX8_copy_1 : decode cX8_copy 1 = .ok (.iload_n 1, 1) := by decide +kernel
theorem dX8_copy_2 : decode cX8_copy 2 = .ok (.invokevirtual 127, 3) := by decide +kernel
theorem dX8_copy_5 : decode cX8_copy 5 = .ok (.astore 6, 2) := by decide +kernel
theorem dX8_copy_7 : decode cX8_copy 7 = .ok (.aload_n 0, 1) := by decide +kernel
theorem dX8_copy_8 : decode cX8_copy 8 = .ok (.iload_n 3, 1) := by decide +kernel
theorem dX8_copy_9 : decode cX8_copy 9 = .ok (.invokevirtual 127, 3) := by decide +kernel
theorem dX8_copy_12 : decode cX8_copy 12 = .ok (.astore 7, 2) := by decide +kernel
theorem dX8_copy_14 : decode cX8_copy 14 = .ok (.aload 6, 2) := by decide +kernel
theorem dX8_copy_16 : decode cX8_copy 16 = .ok (.ifnull 8, 3) := by decide +kernel
theorem dX8_copy_19 : decode cX8_copy 19 = .ok (.aload 7, 2) := by decide +kernel
theorem dX8_copy_21 : decode cX8_copy 21 = .ok (.ifnonnull 6, 3) := by decide +kernel
theorem dX8_copy_24 : decode cX8_copy 24 = .ok (.bipush (-2), 2) := by decide +kernel
theorem dX8_copy_26 : decode cX8_copy 26 = .ok (.ireturn, 1) := by decide +kernel
theorem dX8_copy_27 : decode cX8_copy 27 = .ok (.aload 6, 2) := by decide +kernel
theorem dX8_copy_29 : decode cX8_copy 29 = .ok (.invokevirtual 131, 3) := by decide +kernel
theorem dX8_copy_32 : decode cX8_copy 32 = .ok (.ifCond .ne 11, 3) := by decide +kernel
theorem dX8_copy_35 : decode cX8_copy 35 = .ok (.aload 7, 2) := by decide +kernel
theorem dX8_copy_37 : decode cX8_copy 37 = .ok (.invokevirtual 131, 3) := by decide +kernel
theorem dX8_copy_40 : decode cX8_copy 40 = .ok (.ifCond .eq 6, 3) := by decide +kernel
theorem dX8_copy_43 : decode cX8_copy 43 = .ok (.bipush (-11), 2) := by decide +kernel
theorem dX8_copy_45 : decode cX8_copy 45 = .ok (.ireturn, 1) := by decide +kernel
theorem dX8_copy_46 : decode cX8_copy 46 = .ok (.aload 6, 2) := by decide +kernel
theorem dX8_copy_48 : decode cX8_copy 48 = .ok (.getfield 300, 3) := by decide +kernel
theorem dX8_copy_51 : decode cX8_copy 51 = .ok (.aload 7, 2) := by decide +kernel
theorem dX8_copy_53 : decode cX8_copy 53 = .ok (.getfield 300, 3) := by decide +kernel
theorem dX8_copy_56 : decode cX8_copy 56 = .ok (.if_icmp .eq 6, 3) := by decide +kernel
theorem dX8_copy_59 : decode cX8_copy 59 = .ok (.bipush (-13), 2) := by decide +kernel
theorem dX8_copy_61 : decode cX8_copy 61 = .ok (.ireturn, 1) := by decide +kernel
theorem dX8_copy_62 : decode cX8_copy 62 = .ok (.aload 6, 2) := by decide +kernel
theorem dX8_copy_64 : decode cX8_copy 64 = .ok (.iload_n 2, 1) := by decide +kernel
theorem dX8_copy_65 : decode cX8_copy 65 = .ok (.iload 5, 2) := by decide +kernel
theorem dX8_copy_67 : decode cX8_copy 67 = .ok (.invokevirtual 303, 3) := by decide +kernel
theorem dX8_copy_70 : decode cX8_copy 70 = .ok (.ifCond .eq 15, 3) := by decide +kernel
theorem dX8_copy_73 : decode cX8_copy 73 = .ok (.aload 7, 2) := by decide +kernel
theorem dX8_copy_75 : decode cX8_copy 75 = .ok (.iload 4, 2) := by decide +kernel
theorem dX8_copy_77 : decode cX8_copy 77 = .ok (.iload 5, 2) := by decide +kernel
theorem dX8_copy_79 : decode cX8_copy 79 = .ok (.invokevirtual 303, 3) := by decide +kernel
theorem dX8_copy_82 : decode cX8_copy 82 = .ok (.ifCond .ne 6, 3) := by decide +kernel
theorem dX8_copy_85 : decode cX8_copy 85 = .ok (.bipush (-12), 2) := by decide +kernel
theorem dX8_copy_87 : decode cX8_copy 87 = .ok (.ireturn, 1) := by decide +kernel
theorem dX8_copy_88 : decode cX8_copy 88 = .ok (.aload 6, 2) := by decide +kernel
theorem dX8_copy_90 : decode cX8_copy 90 = .ok (.getfield 307, 3) := by decide +kernel
theorem dX8_copy_93 : decode cX8_copy 93 = .ok (.iload_n 2, 1) := by decide +kernel
theorem dX8_copy_94 : decode cX8_copy 94 = .ok (.aload 7, 2) := by decide +kernel
theorem dX8_copy_96 : decode cX8_copy 96 = .ok (.getfield 307, 3) := by decide +kernel
theorem dX8_copy_99 : decode cX8_copy 99 = .ok (.iload 4, 2) := by decide +kernel
theorem dX8_copy_101 : decode cX8_copy 101 = .ok (.iload 5, 2) := by decide +kernel
theorem dX8_copy_103 : decode cX8_copy 103 = .ok (.invokestatic 310, 3) := by decide +kernel
theorem dX8_copy_106 : decode cX8_copy 106 = .ok (.iload 5, 2) := by decide +kernel
theorem dX8_copy_108 : decode cX8_copy 108 = .ok (.ireturn, 1) := by decide +kernel
set_option maxRecDepth 20000 in
theorem ggX8_plans_X8_sheetAt : GoodIn wsX8_plans wsX8_sheetAt := goodIn_r _ [5, 6, 58, 59, 60, 61, 62, 63, 64, 65, 66, 67, 68, 69, 70, 71, 72, 73, 74, 75, 76, 77] (by decide +kernel) (by decide +kernel)
set_option maxRecDepth 20000 in
theorem gX8_plans_X8_sheetAt : GoodIn wsX8_plans (wsV RX8 127 RX8 yX8_sheetAt wsX8_sheetAt) := goodIn_app (goodIn_of _ (by decide +kernel)) ggX8_plans_X8_sheetAt
set_option maxRecDepth 20000 in
theorem ggX8_plans_X3_isMissing : GoodIn wsX8_plans wsX3_isMissing := goodIn_r _ [11, 12, 55, 56, 57] (by decide +kernel) (by decide +kernel)
set_option maxRecDepth 20000 in
theorem gX8_plans_X3_isMissing : GoodIn wsX8_plans (wsV RX8 131 RX3 yX3_isMissing wsX3_isMissing) := goodIn_app (goodIn_of _ (by decide +kernel)) ggX8_plans_X3_isMissing
set_option maxRecDepth 20000 in
theorem ggX8_plans_X3_hasAll : GoodIn wsX8_plans wsX3_hasAll := goodIn_r _ [16, 17, 55, 56, 57] (by decide +kernel) (by decide +kernel)
set_option maxRecDepth 20000 in
theorem gX8_plans_X3_hasAll : GoodIn wsX8_plans (wsV RX8 303 RX3 yX3_hasAll wsX3_hasAll) := goodIn_app (goodIn_of _ (by decide +kernel)) ggX8_plans_X3_hasAll
set_option maxRecDepth 20000 in
theorem ggX8_plans_X3_at : GoodIn wsX8_plans wsX3_at := goodIn_r _ [21, 22, 23, 24, 25, 10, 26, 17, 55, 56, 57] (by decide +kernel) (by decide +kernel)
set_option maxRecDepth 20000 in
theorem gX8_plans_X3_at : GoodIn wsX8_plans (wsV RX8 140 RX3 yX3_at wsX3_at) := goodIn_app (goodIn_of _ (by decide +kernel)) ggX8_plans_X3_at
set_option maxRecDepth 20000 in
theorem ggX8_plans_X8_plan : GoodIn wsX8_plans wsX8_plan := goodIn_r _ [30, 31, 32, 33, 34, 35, 36, 37, 38, 39, 40, 41, 42, 43, 44, 45, 46, 47, 48, 49, 50, 51, 52, 53, 54, 58, 59, 60, 61, 62, 63, 64, 65, 66, 67, 68, 69, 70, 71, 72, 73, 74, 75, 76, 77, 78, 79, 80, 81, 82, 83, 84, 85, 86, 87] (by decide +kernel) (by decide +kernel)
set_option maxRecDepth 20000 in
theorem gX8_plans_X8_plan : GoodIn wsX8_plans (wsV RX8 316 RX8 yX8_plan wsX8_plan) := goodIn_app (goodIn_of _ (by decide +kernel)) ggX8_plans_X8_plan
theorem dX8_plans_0 : decode cX8_plans 0 = .ok (.aload_n 0, 1) := by decide +kernel
theorem dX8_plans_1 : decode cX8_plans 1 = .ok (.iload_n 1, 1) := by decide +kernel
theorem dX8_plans_2 : decode cX8_plans 2 = .ok (.invokevirtual 127, 3) := by decide +kernel
theorem dX8_plans_5 : decode cX8_plans 5 = .ok (.astore 5, 2) := by decide +kernel
theorem dX8_plans_7 : decode cX8_plans 7 = .ok (.aload 5, 2) := by decide +kernel
theorem dX8_plans_9 : decode cX8_plans 9 = .ok (.ifnull 24, 3) := by decide +kernel
theorem dX8_plans_12 : decode cX8_plans 12 = .ok (.iload_n 2, 1) := by decide +kernel
theorem dX8_plans_13 : decode cX8_plans 13 = .ok (.ifCond .lt 20, 3) := by decide +kernel
theorem dX8_plans_16 : decode cX8_plans 16 = .ok (.iload_n 2, 1) := by decide +kernel
theorem dX8_plans_17 : decode cX8_plans 17 = .ok (.iconst 2, 1) := by decide +kernel
theorem dX8_plans_18 : decode cX8_plans 18 = .ok (.if_icmp .gt 15, 3) := by decide +kernel
theorem dX8_plans_21 : decode cX8_plans 21 = .ok (.iload 4, 2) := by decide +kernel
theorem dX8_plans_23 : decode cX8_plans 23 = .ok (.ifCond .lt 10, 3) := by decide +kernel
theorem dX8_plans_26 : decode cX8_plans 26 = .ok (.iload 4, 2) := by decide +kernel
theorem dX8_plans_28 : decode cX8_plans 28 = .ok (.bipush 8, 2) := by decide +kernel
theorem dX8_plans_30 : decode cX8_plans 30 = .ok (.if_icmp .le 6, 3) := by decide +kernel
theorem dX8_plans_33 : decode cX8_plans 33 = .ok (.bipush (-2), 2) := by decide +kernel
theorem dX8_plans_35 : decode cX8_plans 35 = .ok (.ireturn, 1) := by decide +kernel
theorem dX8_plans_36 : decode cX8_plans 36 = .ok (.aload 5, 2) := by decide +kernel
theorem dX8_plans_38 : decode cX8_plans 38 = .ok (.invokevirtual 131, 3) := by decide +kernel
theorem dX8_plans_41 : decode cX8_plans 41 = .ok (.ifCond .eq 6, 3) := by decide +kernel
theorem dX8_plans_44 : decode cX8_plans 44 = .ok (.bipush (-11), 2) := by decide +kernel
theorem dX8_plans_46 : decode cX8_plans 46 = .ok (.ireturn, 1) := by decide +kernel
theorem dX8_plans_47 : decode cX8_plans 47 = .ok (.aload 5, 2) := by decide +kernel
theorem dX8_plans_49 : decode cX8_plans 49 = .ok (.getfield 300, 3) := by decide +kernel
theorem dX8_plans_52 : decode cX8_plans 52 = .ok (.iload_n 2, 1) := by decide +kernel
theorem dX8_plans_53 : decode cX8_plans 53 = .ok (.if_icmp .eq 6, 3) := by decide +kernel
theorem dX8_plans_56 : decode cX8_plans 56 = .ok (.bipush (-13), 2) := by decide +kernel
theorem dX8_plans_58 : decode cX8_plans 58 = .ok (.ireturn, 1) := by decide +kernel
theorem dX8_plans_59 : decode cX8_plans 59 = .ok (.iconst 0, 1) := by decide +kernel
theorem dX8_plans_60 : decode cX8_plans 60 = .ok (.istore 6, 2) := by decide +kernel
theorem dX8_plans_62 : decode cX8_plans 62 = .ok (.iload_n 3, 1) := by decide +kernel
theorem dX8_plans_63 : decode cX8_plans 63 = .ok (.istore 7, 2) := by decide +kernel
theorem dX8_plans_65 : decode cX8_plans 65 = .ok (.iconst 0, 1) := by decide +kernel
theorem dX8_plans_66 : decode cX8_plans 66 = .ok (.istore 8, 2) := by decide +kernel
theorem dX8_plans_68 : decode cX8_plans 68 = .ok (.iload 8, 2) := by decide +kernel
theorem dX8_plans_70 : decode cX8_plans 70 = .ok (.iload 4, 2) := by decide +kernel
theorem dX8_plans_72 : decode cX8_plans 72 = .ok (.if_icmp .ge 52, 3) := by decide +kernel
theorem dX8_plans_75 : decode cX8_plans 75 = .ok (.aload 5, 2) := by decide +kernel
theorem dX8_plans_77 : decode cX8_plans 77 = .ok (.iload 7, 2) := by decide +kernel
theorem dX8_plans_79 : decode cX8_plans 79 = .ok (.iconst 2, 1) := by decide +kernel
theorem dX8_plans_80 : decode cX8_plans 80 = .ok (.invokevirtual 303, 3) := by decide +kernel
theorem dX8_plans_83 : decode cX8_plans 83 = .ok (.ifCond .ne 6, 3) := by decide +kernel
theorem dX8_plans_86 : decode cX8_plans 86 = .ok (.bipush (-12), 2) := by decide +kernel
theorem dX8_plans_88 : decode cX8_plans 88 = .ok (.ireturn, 1) := by decide +kernel
theorem dX8_plans_89 : decode cX8_plans 89 = .ok (.aload_n 0, 1) := by decide +kernel
theorem dX8_plans_90 : decode cX8_plans 90 = .ok (.aload 5, 2) := by decide +kernel
theorem dX8_plans_92 : decode cX8_plans 92 = .ok (.iload 7, 2) := by decide +kernel
theorem dX8_plans_94 : decode cX8_plans 94 = .ok (.invokevirtual 140, 3) := by decide +kernel
theorem dX8_plans_97 : decode cX8_plans 97 = .ok (.aload 5, 2) := by decide +kernel
theorem dX8_plans_99 : decode cX8_plans 99 = .ok (.iload 7, 2) := by decide +kernel
theorem dX8_plans_101 : decode cX8_plans 101 = .ok (.iconst 1, 1) := by decide +kernel
theorem dX8_plans_102 : decode cX8_plans 102 = .ok (.iadd, 1) := by decide +kernel
theorem dX8_plans_103 : decode cX8_plans 103 = .ok (.invokevirtual 140, 3) := by decide +kernel
theorem dX8_plans_106 : decode cX8_plans 106 = .ok (.invokevirtual 316, 3) := by decide +kernel
theorem dX8_plans_109 : decode cX8_plans 109 = .ok (.ifCond .lt 6, 3) := by decide +kernel
theorem dX8_plans_112 : decode cX8_plans 112 = .ok (.iinc 6 1, 3) := by decide +kernel
theorem dX8_plans_115 : decode cX8_plans 115 = .ok (.iinc 7 2, 3) := by decide +kernel
theorem dX8_plans_118 : decode cX8_plans 118 = .ok (.iinc 8 1, 3) := by decide +kernel
theorem dX8_plans_121 : decode cX8_plans 121 = .ok (.goto (-53), 3) := by decide +kernel
theorem dX8_plans_124 : decode cX8_plans 124 = .ok (.iload 6, 2) := by decide +kernel
theorem dX8_plans_126 : decode cX8_plans 126 = .ok (.ireturn, 1) := by decide +kernel
set_option maxRecDepth 20000 in
theorem ggX8_taken_X1_isKind : GoodIn wsX8_taken wsX1_isKind := goodIn_r _ [4] (by decide +kernel) (by decide +kernel)
set_option maxRecDepth 20000 in
theorem gX8_taken_X1_isKind : GoodIn wsX8_taken (va_wsS RX8 178 yX1_isKind wsX1_isKind) := goodIn_app (goodIn_of _ (by decide +kernel)) ggX8_taken_X1_isKind
set_option maxRecDepth 20000 in
theorem ggX8_taken_X8_planAt : GoodIn wsX8_taken wsX8_planAt := goodIn_r _ [9, 10, 11, 22, 23, 24, 25, 26, 27, 28, 29, 30, 31, 32, 33, 34, 35, 36, 37, 38, 39, 40, 41] (by decide +kernel) (by decide +kernel)
set_option maxRecDepth 20000 in
theorem gX8_taken_X8_planAt : GoodIn wsX8_taken (wsV RX8 181 RX8 yX8_planAt wsX8_planAt) := goodIn_app (goodIn_of _ (by decide +kernel)) ggX8_taken_X8_planAt
set_option maxRecDepth 20000 in
theorem ggX8_taken_X1_isTakenFor : GoodIn wsX8_taken wsX1_isTakenFor := goodIn_r _ [15, 16, 17, 18, 2, 3, 4, 19, 20, 21] (by decide +kernel) (by decide +kernel)
set_option maxRecDepth 20000 in
theorem gX8_taken_X1_isTakenFor : GoodIn wsX8_taken (wsV RX8 319 RX1 yX1_isTakenFor wsX1_isTakenFor) := goodIn_app (goodIn_of _ (by decide +kernel)) ggX8_taken_X1_isTakenFor
theorem dX8_taken_0 : decode cX8_taken 0 = .ok (.iload_n 2, 1) := by decide +kernel
theorem dX8_taken_1 : decode cX8_taken 1 = .ok (.invokestatic 178, 3) := by decide +kernel
theorem dX8_taken_4 : decode cX8_taken 4 = .ok (.ifCond .ne 6, 3) := by decide +kernel
theorem dX8_taken_7 : decode cX8_taken 7 = .ok (.bipush (-2), 2) := by decide +kernel
theorem dX8_taken_9 : decode cX8_taken 9 = .ok (.ireturn, 1) := by decide +kernel
theorem dX8_taken_10 : decode cX8_taken 10 = .ok (.aload_n 0, 1) := by decide +kernel
theorem dX8_taken_11 : decode cX8_taken 11 = .ok (.iload_n 1, 1) := by decide +kernel
theorem dX8_taken_12 : decode cX8_taken 12 = .ok (.invokevirtual 181, 3) := by decide +kernel
theorem dX8_taken_15 : decode cX8_taken 15 = .ok (.astore_n 3, 1) := by decide +kernel
theorem dX8_taken_16 : decode cX8_taken 16 = .ok (.aload_n 3, 1) := by decide +kernel
theorem dX8_taken_17 : decode cX8_taken 17 = .ok (.ifnonnull 6, 3) := by decide +kernel
theorem dX8_taken_20 : decode cX8_taken 20 = .ok (.bipush (-11), 2) := by decide +kernel
theorem dX8_taken_22 : decode cX8_taken 22 = .ok (.ireturn, 1) := by decide +kernel
theorem dX8_taken_23 : decode cX8_taken 23 = .ok (.aload_n 3, 1) := by decide +kernel
theorem dX8_taken_24 : decode cX8_taken 24 = .ok (.iload_n 2, 1) := by decide +kernel
theorem dX8_taken_25 : decode cX8_taken 25 = .ok (.invokevirtual 319, 3) := by decide +kernel
theorem dX8_taken_28 : decode cX8_taken 28 = .ok (.ifCond .eq 10, 3) := by decide +kernel
theorem dX8_taken_31 : decode cX8_taken 31 = .ok (.aload_n 3, 1) := by decide +kernel
theorem dX8_taken_32 : decode cX8_taken 32 = .ok (.getfield 322, 3) := by decide +kernel
theorem dX8_taken_35 : decode cX8_taken 35 = .ok (.goto 5, 3) := by decide +kernel
theorem dX8_taken_38 : decode cX8_taken 38 = .ok (.bipush (-13), 2) := by decide +kernel
theorem dX8_taken_40 : decode cX8_taken 40 = .ok (.ireturn, 1) := by decide +kernel
theorem dX8_planAt_0 : decode cX8_planAt 0 = .ok (.iload_n 1, 1) := by decide +kernel
theorem dX8_planAt_1 : decode cX8_planAt 1 = .ok (.ifCond .lt 20, 3) := by decide +kernel
theorem dX8_planAt_4 : decode cX8_planAt 4 = .ok (.iload_n 1, 1) := by decide +kernel
theorem dX8_planAt_5 : decode cX8_planAt 5 = .ok (.aload_n 0, 1) := by decide +kernel
theorem dX8_planAt_6 : decode cX8_planAt 6 = .ok (.getfield 36, 3) := by decide +kernel
theorem dX8_planAt_9 : decode cX8_planAt 9 = .ok (.if_icmp .ge 12, 3) := by decide +kernel
theorem dX8_planAt_12 : decode cX8_planAt 12 = .ok (.aload_n 0, 1) := by decide +kernel
theorem dX8_planAt_13 : decode cX8_planAt 13 = .ok (.getfield 32, 3) := by decide +kernel
theorem dX8_planAt_16 : decode cX8_planAt 16 = .ok (.iload_n 1, 1) := by decide +kernel
theorem dX8_planAt_17 : decode cX8_planAt 17 = .ok (.aaload, 1) := by decide +kernel
theorem dX8_planAt_18 : decode cX8_planAt 18 = .ok (.goto 4, 3) := by decide +kernel
theorem dX8_planAt_21 : decode cX8_planAt 21 = .ok (.aconst_null, 1) := by decide +kernel
theorem dX8_planAt_22 : decode cX8_planAt 22 = .ok (.areturn, 1) := by decide +kernel
theorem dX8_sheetAt_0 : decode cX8_sheetAt 0 = .ok (.iload_n 1, 1) := by decide +kernel
theorem dX8_sheetAt_1 : decode cX8_sheetAt 1 = .ok (.ifCond .lt 17, 3) := by decide +kernel
theorem dX8_sheetAt_4 : decode cX8_sheetAt 4 = .ok (.iload_n 1, 1) := by decide +kernel
theorem dX8_sheetAt_5 : decode cX8_sheetAt 5 = .ok (.iconst 4, 1) := by decide +kernel
theorem dX8_sheetAt_6 : decode cX8_sheetAt 6 = .ok (.if_icmp .ge 12, 3) := by decide +kernel
theorem dX8_sheetAt_9 : decode cX8_sheetAt 9 = .ok (.aload_n 0, 1) := by decide +kernel
theorem dX8_sheetAt_10 : decode cX8_sheetAt 10 = .ok (.getfield 74, 3) := by decide +kernel
theorem dX8_sheetAt_13 : decode cX8_sheetAt 13 = .ok (.iload_n 1, 1) := by decide +kernel
theorem dX8_sheetAt_14 : decode cX8_sheetAt 14 = .ok (.aaload, 1) := by decide +kernel
theorem dX8_sheetAt_15 : decode cX8_sheetAt 15 = .ok (.goto 4, 3) := by decide +kernel
theorem dX8_sheetAt_18 : decode cX8_sheetAt 18 = .ok (.aconst_null, 1) := by decide +kernel
theorem dX8_sheetAt_19 : decode cX8_sheetAt 19 = .ok (.areturn, 1) := by decide +kernel
theorem dX9_in_0 : decode cX9_in 0 = .ok (.lload_n 0, 1) := by decide +kernel
theorem dX9_in_1 : decode cX9_in 1 = .ok (.lload_n 2, 1) := by decide +kernel
theorem dX9_in_2 : decode cX9_in 2 = .ok (.lcmp, 1) := by decide +kernel
theorem dX9_in_3 : decode cX9_in 3 = .ok (.ifCond .lt 14, 3) := by decide +kernel
theorem dX9_in_6 : decode cX9_in 6 = .ok (.lload_n 0, 1) := by decide +kernel
theorem dX9_in_7 : decode cX9_in 7 = .ok (.lload 4, 2) := by decide +kernel
theorem dX9_in_9 : decode cX9_in 9 = .ok (.lcmp, 1) := by decide +kernel
theorem dX9_in_10 : decode cX9_in 10 = .ok (.ifCond .gt 7, 3) := by decide +kernel
theorem dX9_in_13 : decode cX9_in 13 = .ok (.iconst 1, 1) := by decide +kernel
theorem dX9_in_14 : decode cX9_in 14 = .ok (.goto 4, 3) := by decide +kernel
theorem dX9_in_17 : decode cX9_in 17 = .ok (.iconst 0, 1) := by decide +kernel
theorem dX9_in_18 : decode cX9_in 18 = .ok (.ireturn, 1) := by decide +kernel
set_option maxRecDepth 20000 in
theorem ggX9_init_X9_spell : GoodIn wsX9_init wsX9_spell := goodIn_r _ [33, 5, 34, 39, 40, 41, 42, 43, 44, 45, 46, 47, 48, 49, 50, 51, 52, 53, 54, 55, 56, 57, 58, 59, 60, 61, 62, 63, 64, 65, 66, 67, 68, 69, 70, 71, 72, 73, 74, 75, 76, 77, 78, 79, 80, 81, 82, 83] (by decide +kernel) (by decide +kernel)
set_option maxRecDepth 20000 in
theorem gX9_init_X9_spell : GoodIn wsX9_init (wsV RX9 57 RX9 yX9_spell wsX9_spell) := goodIn_app (goodIn_of _ (by decide +kernel)) ggX9_init_X9_spell
set_option maxRecDepth 20000 in
theorem ggX9_init_X9_plainly : GoodIn wsX9_init wsX9_plainly := goodIn_r _ [38, 8, 39, 40, 41, 42, 43, 44, 45, 46, 47, 48, 49, 50, 51, 52, 53, 54, 55, 56, 57, 58, 59, 60, 61, 62, 63, 64, 65, 66, 67, 68, 69, 70, 71, 72, 73, 74, 75, 76, 77, 78, 79, 80, 81, 82, 83] (by decide +kernel) (by decide +kernel)
set_option maxRecDepth 20000 in
theorem gX9_init_X9_plainly : GoodIn wsX9_init (wsV RX9 80 RX9 yX9_plainly wsX9_plainly) := goodIn_app (goodIn_of _ (by decide +kernel)) ggX9_init_X9_plainly
theorem dX9_init_0 : decode cX9_init 0 = .ok (.aload_n 0, 1) := by decide +kernel
theorem dX9_init_1 : decode cX9_init 1 = .ok (.invokespecial 7, 3) := by decide +kernel
theorem dX9_init_4 : decode cX9_init 4 = .ok (.aload_n 0, 1) := by decide +kernel
theorem dX9_init_5 : decode cX9_init 5 = .ok (.sipush 960, 3) := by decide +kernel
theorem dX9_init_8 : decode cX9_init 8 = .ok (.newarray .int, 2) := by decide +kernel
theorem dX9_init_10 : decode cX9_init 10 = .ok (.putfield 13, 3) := by decide +kernel
theorem dX9_init_13 : decode cX9_init 13 = .ok (.aload_n 0, 1) := by decide +kernel
theorem dX9_init_14 : decode cX9_init 14 = .ok (.bipush 6, 2) := by decide +kernel
theorem dX9_init_16 : decode cX9_init 16 = .ok (.newarray .int, 2) := by decide +kernel
theorem dX9_init_18 : decode cX9_init 18 = .ok (.putfield 17, 3) := by decide +kernel
theorem dX9_init_21 : decode cX9_init 21 = .ok (.aload_n 0, 1) := by decide +kernel
theorem dX9_init_22 : decode cX9_init 22 = .ok (.sipush 160, 3) := by decide +kernel
theorem dX9_init_25 : decode cX9_init 25 = .ok (.newarray .int, 2) := by decide +kernel
theorem dX9_init_27 : decode cX9_init 27 = .ok (.putfield 20, 3) := by decide +kernel
theorem dX9_init_30 : decode cX9_init 30 = .ok (.aload_n 0, 1) := by decide +kernel
theorem dX9_init_31 : decode cX9_init 31 = .ok (.bipush 12, 2) := by decide +kernel
theorem dX9_init_33 : decode cX9_init 33 = .ok (.newarray .int, 2) := by decide +kernel
theorem dX9_init_35 : decode cX9_init 35 = .ok (.putfield 23, 3) := by decide +kernel
theorem dX9_init_38 : decode cX9_init 38 = .ok (.aload_n 0, 1) := by decide +kernel
theorem dX9_init_39 : decode cX9_init 39 = .ok (.bipush 8, 2) := by decide +kernel
theorem dX9_init_41 : decode cX9_init 41 = .ok (.newarray .int, 2) := by decide +kernel
theorem dX9_init_43 : decode cX9_init 43 = .ok (.putfield 26, 3) := by decide +kernel
theorem dX9_init_46 : decode cX9_init 46 = .ok (.aload_n 0, 1) := by decide +kernel
theorem dX9_init_47 : decode cX9_init 47 = .ok (.bipush 8, 2) := by decide +kernel
theorem dX9_init_49 : decode cX9_init 49 = .ok (.newarray .int, 2) := by decide +kernel
theorem dX9_init_51 : decode cX9_init 51 = .ok (.putfield 29, 3) := by decide +kernel
theorem dX9_init_54 : decode cX9_init 54 = .ok (.aload_n 0, 1) := by decide +kernel
theorem dX9_init_55 : decode cX9_init 55 = .ok (.bipush 13, 2) := by decide +kernel
theorem dX9_init_57 : decode cX9_init 57 = .ok (.newarray .long, 2) := by decide +kernel
theorem dX9_init_59 : decode cX9_init 59 = .ok (.putfield 32, 3) := by decide +kernel
theorem dX9_init_62 : decode cX9_init 62 = .ok (.aload_n 0, 1) := by decide +kernel
theorem dX9_init_63 : decode cX9_init 63 = .ok (.bipush 12, 2) := by decide +kernel
theorem dX9_init_65 : decode cX9_init 65 = .ok (.newarray .int, 2) := by decide +kernel
theorem dX9_init_67 : decode cX9_init 67 = .ok (.putfield 36, 3) := by decide +kernel
theorem dX9_init_70 : decode cX9_init 70 = .ok (.aload_n 0, 1) := by decide +kernel
theorem dX9_init_71 : decode cX9_init 71 = .ok (.bipush 12, 2) := by decide +kernel
theorem dX9_init_73 : decode cX9_init 73 = .ok (.newarray .int, 2) := by decide +kernel
theorem dX9_init_75 : decode cX9_init 75 = .ok (.putfield 39, 3) := by decide +kernel
theorem dX9_init_78 : decode cX9_init 78 = .ok (.aload_n 0, 1) := by decide +kernel
theorem dX9_init_79 : decode cX9_init 79 = .ok (.iconst 4, 1) := by decide +kernel
theorem dX9_init_80 : decode cX9_init 80 = .ok (.newarray .boolean, 2) := by decide +kernel
theorem dX9_init_82 : decode cX9_init 82 = .ok (.putfield 42, 3) := by decide +kernel
theorem dX9_init_85 : decode cX9_init 85 = .ok (.aload_n 0, 1) := by decide +kernel
theorem dX9_init_86 : decode cX9_init 86 = .ok (.iconst 4, 1) := by decide +kernel
theorem dX9_init_87 : decode cX9_init 87 = .ok (.newarray .int, 2) := by decide +kernel
theorem dX9_init_89 : decode cX9_init 89 = .ok (.putfield 46, 3) := by decide +kernel
theorem dX9_init_92 : decode cX9_init 92 = .ok (.aload_n 0, 1) := by decide +kernel
theorem dX9_init_93 : decode cX9_init 93 = .ok (.iconst 4, 1) := by decide +kernel
theorem dX9_init_94 : decode cX9_init 94 = .ok (.newarray .int, 2) := by decide +kernel
theorem dX9_init_96 : decode cX9_init 96 = .ok (.putfield 49, 3) := by decide +kernel
theorem dX9_init_99 : decode cX9_init 99 = .ok (.aload_n 0, 1) := by decide +kernel
theorem dX9_init_100 : decode cX9_init 100 = .ok (.sipush 160, 3) := by decide +kernel
theorem dX9_init_103 : decode cX9_init 103 = .ok (.newarray .int, 2) := by decide +kernel
theorem dX9_init_105 : decode cX9_init 105 = .ok (.putfield 52, 3) := by decide +kernel
theorem dX9_init_108 : decode cX9_init 108 = .ok (.aload_n 0, 1) := by decide +kernel
theorem dX9_init_109 : decode cX9_init 109 = .ok (.iconst 0, 1) := by decide +kernel
theorem dX9_init_110 : decode cX9_init 110 = .ok (.ldc2_w 55, 3) := by decide +kernel
theorem dX9_init_113 : decode cX9_init 113 = .ok (.invokevirtual 57, 3) := by decide +kernel
theorem dX9_init_116 : decode cX9_init 116 = .ok (.aload_n 0, 1) := by decide +kernel
theorem dX9_init_117 : decode cX9_init 117 = .ok (.bipush 8, 2) := by decide +kernel
theorem dX9_init_119 : decode cX9_init 119 = .ok (.ldc2_w 61, 3) := by decide +kernel
theorem dX9_init_122 : decode cX9_init 122 = .ok (.invokevirtual 57, 3) := by decide +kernel
theorem dX9_init_125 : decode cX9_init 125 = .ok (.aload_n 0, 1) := by decide +kernel
theorem dX9_init_126 : decode cX9_init 126 = .ok (.bipush 16, 2) := by decide +kernel
theorem dX9_init_128 : decode cX9_init 128 = .ok (.ldc2_w 63, 3) := by decide +kernel
theorem dX9_init_131 : decode cX9_init 131 = .ok (.invokevirtual 57, 3) := by decide +kernel
theorem dX9_init_134 : decode cX9_init 134 = .ok (.aload_n 0, 1) := by decide +kernel
theorem dX9_init_135 : decode cX9_init 135 = .ok (.bipush 24, 2) := by decide +kernel
theorem dX9_init_137 : decode cX9_init 137 = .ok (.ldc2_w 65, 3) := by decide +kernel
theorem dX9_init_140 : decode cX9_init 140 = .ok (.invokevirtual 57, 3) := by decide +kernel
theorem dX9_init_143 : decode cX9_init 143 = .ok (.aload_n 0, 1) := by decide +kernel
theorem dX9_init_144 : decode cX9_init 144 = .ok (.bipush 32, 2) := by decide +kernel
theorem dX9_init_146 : decode cX9_init 146 = .ok (.ldc2_w 67, 3) := by decide +kernel
theorem dX9_init_149 : decode cX9_init 149 = .ok (.invokevirtual 57, 3) := by decide +kernel
theorem dX9_init_152 : decode cX9_init 152 = .ok (.aload_n 0, 1) := by decide +kernel
theorem dX9_init_153 : decode cX9_init 153 = .ok (.bipush 40, 2) := by decide +kernel
theorem dX9_init_155 : decode cX9_init 155 = .ok (.ldc2_w 69, 3) := by decide +kernel
theorem dX9_init_158 : decode cX9_init 158 = .ok (.invokevirtual 57, 3) := by decide +kernel
theorem dX9_init_161 : decode cX9_init 161 = .ok (.aload_n 0, 1) := by decide +kernel
theorem dX9_init_162 : decode cX9_init 162 = .ok (.getfield 17, 3) := by decide +kernel
theorem dX9_init_165 : decode cX9_init 165 = .ok (.iconst 0, 1) := by decide +kernel
theorem dX9_init_166 : decode cX9_init 166 = .ok (.bipush 48, 2) := by decide +kernel
theorem dX9_init_168 : decode cX9_init 168 = .ok (.iastore, 1) := by decide +kernel
theorem dX9_init_169 : decode cX9_init 169 = .ok (.aload_n 0, 1) := by decide +kernel
theorem dX9_init_170 : decode cX9_init 170 = .ok (.iconst 1, 1) := by decide +kernel
theorem dX9_init_171 : decode cX9_init 171 = .ok (.putfield 71, 3) := by decide +kernel
theorem dX9_init_174 : decode cX9_init 174 = .ok (.aload_n 0, 1) := by decide +kernel
theorem dX9_init_175 : decode cX9_init 175 = .ok (.bipush 6, 2) := by decide +kernel
theorem dX9_init_177 : decode cX9_init 177 = .ok (.putfield 74, 3) := by decide +kernel
theorem dX9_init_180 : decode cX9_init 180 = .ok (.aload_n 0, 1) := by decide +kernel
theorem dX9_init_181 : decode cX9_init 181 = .ok (.iconst 3, 1) := by decide +kernel
theorem dX9_init_182 : decode cX9_init 182 = .ok (.putfield 77, 3) := by decide +kernel
theorem dX9_init_185 : decode cX9_init 185 = .ok (.aload_n 0, 1) := by decide +kernel
theorem dX9_init_186 : decode cX9_init 186 = .ok (.invokevirtual 80, 3) := by decide +kernel
theorem dX9_init_189 : decode cX9_init 189 = .ok (.return_, 1) := by decide +kernel
theorem dX9_spell_0 : decode cX9_spell 0 = .ok (.iconst 0, 1) := by decide +kernel
theorem dX9_spell_1 : decode cX9_spell 1 = .ok (.istore 4, 2) := by decide +kernel
theorem dX9_spell_3 : decode cX9_spell 3 = .ok (.iload 4, 2) := by decide +kernel
theorem dX9_spell_5 : decode cX9_spell 5 = .ok (.bipush 8, 2) := by decide +kernel
theorem dX9_spell_7 : decode cX9_spell 7 = .ok (.if_icmp .ge 33, 3) := by decide +kernel
theorem dX9_spell_10 : decode cX9_spell 10 = .ok (.aload_n 0, 1) := by decide +kernel
theorem dX9_spell_11 : decode cX9_spell 11 = .ok (.getfield 13, 3) := by decide +kernel
theorem dX9_spell_14 : decode cX9_spell 14 = .ok (.iload_n 1, 1) := by decide +kernel
theorem dX9_spell_15 : decode cX9_spell 15 = .ok (.iload 4, 2) := by decide +kernel
theorem dX9_spell_17 : decode cX9_spell 17 = .ok (.iadd, 1) := by decide +kernel
theorem dX9_spell_18 : decode cX9_spell 18 = .ok (.lload_n 2, 1) := by decide +kernel
theorem dX9_spell_19 : decode cX9_spell 19 = .ok (.bipush 56, 2) := by decide +kernel
theorem dX9_spell_21 : decode cX9_spell 21 = .ok (.bipush 8, 2) := by decide +kernel
theorem dX9_spell_23 : decode cX9_spell 23 = .ok (.iload 4, 2) := by decide +kernel
theorem dX9_spell_25 : decode cX9_spell 25 = .ok (.imul, 1) := by decide +kernel
theorem dX9_spell_26 : decode cX9_spell 26 = .ok (.isub, 1) := by decide +kernel
theorem dX9_spell_27 : decode cX9_spell 27 = .ok (.lshr, 1) := by decide +kernel
theorem dX9_spell_28 : decode cX9_spell 28 = .ok (.ldc2_w 83, 3) := by decide +kernel
theorem dX9_spell_31 : decode cX9_spell 31 = .ok (.land, 1) := by decide +kernel
theorem dX9_spell_32 : decode cX9_spell 32 = .ok (.l2i, 1) := by decide +kernel
theorem dX9_spell_33 : decode cX9_spell 33 = .ok (.iastore, 1) := by decide +kernel
theorem dX9_spell_34 : decode cX9_spell 34 = .ok (.iinc 4 1, 3) := by decide +kernel
theorem dX9_spell_37 : decode cX9_spell 37 = .ok (.goto (-34), 3) := by decide +kernel
theorem dX9_spell_40 : decode cX9_spell 40 = .ok (.return_, 1) := by decide +kernel
theorem dX9_plainly_0 : decode cX9_plainly 0 = .ok (.iconst 0, 1) := by decide +kernel
theorem dX9_plainly_1 : decode cX9_plainly 1 = .ok (.istore_n 1, 1) := by decide +kernel
theorem dX9_plainly_2 : decode cX9_plainly 2 = .ok (.iload_n 1, 1) := by decide +kernel
theorem dX9_plainly_3 : decode cX9_plainly 3 = .ok (.bipush 12, 2) := by decide +kernel
theorem dX9_plainly_5 : decode cX9_plainly 5 = .ok (.if_icmp .ge 16, 3) := by decide +kernel
theorem dX9_plainly_8 : decode cX9_plainly 8 = .ok (.aload_n 0, 1) := by decide +kernel
theorem dX9_plainly_9 : decode cX9_plainly 9 = .ok (.getfield 23, 3) := by decide +kernel
theorem dX9_plainly_12 : decode cX9_plainly 12 = .ok (.iload_n 1, 1) := by decide +kernel
theorem dX9_plainly_13 : decode cX9_plainly 13 = .ok (.iload_n 1, 1) := by decide +kernel
theorem dX9_plainly_14 : decode cX9_plainly 14 = .ok (.iastore, 1) := by decide +kernel
theorem dX9_plainly_15 : decode cX9_plainly 15 = .ok (.iinc 1 1, 3) := by decide +kernel
theorem dX9_plainly_18 : decode cX9_plainly 18 = .ok (.goto (-16), 3) := by decide +kernel
theorem dX9_plainly_21 : decode cX9_plainly 21 = .ok (.return_, 1) := by decide +kernel
set_option maxRecDepth 20000 in
theorem ggX9_isBox_X9_in : GoodIn wsX9_isBox wsX9_in := goodIn_r _ [5] (by decide +kernel) (by decide +kernel)
set_option maxRecDepth 20000 in
theorem gX9_isBox_X9_in : GoodIn wsX9_isBox (va_wsS RX9 85 yX9_in wsX9_in) := goodIn_app (goodIn_of _ (by decide +kernel)) ggX9_isBox_X9_in
theorem dX9_isBox_0 : decode cX9_isBox 0 = .ok (.iload_n 1, 1) := by decide +kernel
theorem dX9_isBox_1 : decode cX9_isBox 1 = .ok (.i2l, 1) := by decide +kernel
theorem dX9_isBox_2 : decode cX9_isBox 2 = .ok (.lconst 0, 1) := by decide +kernel
theorem dX9_isBox_3 : decode cX9_isBox 3 = .ok (.aload_n 0, 1) := by decide +kernel
theorem dX9_isBox_4 : decode cX9_isBox 4 = .ok (.getfield 74, 3) := by decide +kernel
theorem dX9_isBox_7 : decode cX9_isBox 7 = .ok (.iconst 1, 1) := by decide +kernel
theorem dX9_isBox_8 : decode cX9_isBox 8 = .ok (.isub, 1) := by decide +kernel
theorem dX9_isBox_9 : decode cX9_isBox 9 = .ok (.i2l, 1) := by decide +kernel
theorem dX9_isBox_10 : decode cX9_isBox 10 = .ok (.invokestatic 85, 3) := by decide +kernel
theorem dX9_isBox_13 : decode cX9_isBox 13 = .ok (.ireturn, 1) := by decide +kernel
set_option maxRecDepth 20000 in
theorem ggX9_boxes_X9_in : GoodIn wsX9_boxes wsX9_in := goodIn_r _ [6] (by decide +kernel) (by decide +kernel)
set_option maxRecDepth 20000 in
theorem gX9_boxes_X9_in : GoodIn wsX9_boxes (va_wsS RX9 85 yX9_in wsX9_in) := goodIn_app (goodIn_of _ (by decide +kernel)) ggX9_boxes_X9_in
set_option maxRecDepth 20000 in
theorem ggX9_boxes_X9_plainly : GoodIn wsX9_boxes wsX9_plainly := goodIn_r _ [10, 11, 12, 13, 14, 15, 16, 17, 18, 19, 20, 21, 22, 23, 24, 25, 26, 27, 28, 29, 30, 31, 32, 33, 34, 35, 36, 37, 38, 39, 40, 41, 42, 43, 44, 45, 46, 47, 48, 49, 50, 51, 52, 53, 54, 55, 56] (by decide +kernel) (by decide +kernel)
set_option maxRecDepth 20000 in
theorem gX9_boxes_X9_plainly : GoodIn wsX9_boxes (wsV RX9 80 RX9 yX9_plainly wsX9_plainly) := goodIn_app (goodIn_of _ (by decide +kernel)) ggX9_boxes_X9_plainly
theorem dX9_boxes_0 : decode cX9_boxes 0 = .ok (.iload_n 1, 1) := by decide +kernel
theorem dX9_boxes_1 : decode cX9_boxes 1 = .ok (.i2l, 1) := by decide +kernel
theorem dX9_boxes_2 : decode cX9_boxes 2 = .ok (.lconst 1, 1) := by decide +kernel
theorem dX9_boxes_3 : decode cX9_boxes 3 = .ok (.ldc2_w 89, 3) := by decide +kernel
theorem dX9_boxes_6 : decode cX9_boxes 6 = .ok (.invokestatic 85, 3) := by decide +kernel
theorem dX9_boxes_9 : decode cX9_boxes 9 = .ok (.ifCond .ne 6, 3) := by decide +kernel
theorem dX9_boxes_12 : decode cX9_boxes 12 = .ok (.bipush (-2), 2) := by decide +kernel
theorem dX9_boxes_14 : decode cX9_boxes 14 = .ok (.ireturn, 1) := by decide +kernel
theorem dX9_boxes_15 : decode cX9_boxes 15 = .ok (.aload_n 0, 1) := by decide +kernel
theorem dX9_boxes_16 : decode cX9_boxes 16 = .ok (.getfield 74, 3) := by decide +kernel
theorem dX9_boxes_19 : decode cX9_boxes 19 = .ok (.istore_n 2, 1) := by decide +kernel
theorem dX9_boxes_20 : decode cX9_boxes 20 = .ok (.aload_n 0, 1) := by decide +kernel
theorem dX9_boxes_21 : decode cX9_boxes 21 = .ok (.iload_n 1, 1) := by decide +kernel
theorem dX9_boxes_22 : decode cX9_boxes 22 = .ok (.putfield 74, 3) := by decide +kernel
theorem dX9_boxes_25 : decode cX9_boxes 25 = .ok (.aload_n 0, 1) := by decide +kernel
theorem dX9_boxes_26 : decode cX9_boxes 26 = .ok (.invokevirtual 80, 3) := by decide +kernel
theorem dX9_boxes_29 : decode cX9_boxes 29 = .ok (.iload_n 2, 1) := by decide +kernel
theorem dX9_boxes_30 : decode cX9_boxes 30 = .ok (.ireturn, 1) := by decide +kernel
set_option maxRecDepth 20000 in
theorem ggX9_looks_X9_in : GoodIn wsX9_looks wsX9_in := goodIn_r _ [6] (by decide +kernel) (by decide +kernel)
set_option maxRecDepth 20000 in
theorem gX9_looks_X9_in : GoodIn wsX9_looks (va_wsS RX9 85 yX9_in wsX9_in) := goodIn_app (goodIn_of _ (by decide +kernel)) ggX9_looks_X9_in
theorem dX9_looks_0 : decode cX9_looks 0 = .ok (.iload_n 1, 1) := by decide +kernel
theorem dX9_looks_1 : decode cX9_looks 1 = .ok (.i2l, 1) := by decide +kernel
theorem dX9_looks_2 : decode cX9_looks 2 = .ok (.lconst 1, 1) := by decide +kernel
theorem dX9_looks_3 : decode cX9_looks 3 = .ok (.ldc2_w 89, 3) := by decide +kernel
theorem dX9_looks_6 : decode cX9_looks 6 = .ok (.invokestatic 85, 3) := by decide +kernel
theorem dX9_looks_9 : decode cX9_looks 9 = .ok (.ifCond .ne 6, 3) := by decide +kernel
theorem dX9_looks_12 : decode cX9_looks 12 = .ok (.bipush (-2), 2) := by decide +kernel
theorem dX9_looks_14 : decode cX9_looks 14 = .ok (.ireturn, 1) := by decide +kernel
theorem dX9_looks_15 : decode cX9_looks 15 = .ok (.aload_n 0, 1) := by decide +kernel
theorem dX9_looks_16 : decode cX9_looks 16 = .ok (.getfield 77, 3) := by decide +kernel
theorem dX9_looks_19 : decode cX9_looks 19 = .ok (.istore_n 2, 1) := by decide +kernel
theorem dX9_looks_20 : decode cX9_looks 20 = .ok (.aload_n 0, 1) := by decide +kernel
theorem dX9_looks_21 : decode cX9_looks 21 = .ok (.iload_n 1, 1) := by decide +kernel
theorem dX9_looks_22 : decode cX9_looks 22 = .ok (.putfield 77, 3) := by decide +kernel
theorem dX9_looks_25 : decode cX9_looks 25 = .ok (.iload_n 2, 1) := by decide +kernel
theorem dX9_looks_26 : decode cX9_looks 26 = .ok (.ireturn, 1) := by decide +kernel
set_option maxRecDepth 20000 in
theorem ggX9_lay_X9_isSheet : GoodIn wsX9_lay wsX9_isSheet := goodIn_r _ [10, 11, 12, 13, 9, 14] (by decide +kernel) (by decide +kernel)
set_option maxRecDepth 20000 in
theorem gX9_lay_X9_isSheet : GoodIn wsX9_lay (va_wsS RX9 91 yX9_isSheet wsX9_isSheet) := goodIn_app (goodIn_of _ (by decide +kernel)) ggX9_lay_X9_isSheet
set_option maxRecDepth 20000 in
theorem ggX9_lay_X9_in : GoodIn wsX9_lay wsX9_in := goodIn_r _ [14] (by decide +kernel) (by decide +kernel)
set_option maxRecDepth 20000 in
theorem gX9_lay_X9_in : GoodIn wsX9_lay (va_wsS RX9 85 yX9_in wsX9_in) := goodIn_app (goodIn_of _ (by decide +kernel)) ggX9_lay_X9_in
theorem dX9_lay_0 : decode cX9_lay 0 = .ok (.iload_n 1, 1) := by decide +kernel
theorem dX9_lay_1 : decode cX9_lay 1 = .ok (.invokestatic 91, 3) := by decide +kernel
theorem dX9_lay_4 : decode cX9_lay 4 = .ok (.ifCond .ne 6, 3) := by decide +kernel
theorem dX9_lay_7 : decode cX9_lay 7 = .ok (.bipush (-2), 2) := by decide +kernel
theorem dX9_lay_9 : decode cX9_lay 9 = .ok (.ireturn, 1) := by decide +kernel
theorem dX9_lay_10 : decode cX9_lay 10 = .ok (.aload_n 0, 1) := by decide +kernel
theorem dX9_lay_11 : decode cX9_lay 11 = .ok (.getfield 42, 3) := by decide +kernel
theorem dX9_lay_14 : decode cX9_lay 14 = .ok (.iload_n 1, 1) := by decide +kernel
theorem dX9_lay_15 : decode cX9_lay 15 = .ok (.baload, 1) := by decide +kernel
theorem dX9_lay_16 : decode cX9_lay 16 = .ok (.ifCond .ne 6, 3) := by decide +kernel
theorem dX9_lay_19 : decode cX9_lay 19 = .ok (.bipush (-11), 2) := by decide +kernel
theorem dX9_lay_21 : decode cX9_lay 21 = .ok (.ireturn, 1) := by decide +kernel
theorem dX9_lay_22 : decode cX9_lay 22 = .ok (.aload_n 0, 1) := by decide +kernel
theorem dX9_lay_23 : decode cX9_lay 23 = .ok (.getfield 49, 3) := by decide +kernel
theorem dX9_lay_26 : decode cX9_lay 26 = .ok (.iload_n 1, 1) := by decide +kernel
theorem dX9_lay_27 : decode cX9_lay 27 = .ok (.iaload, 1) := by decide +kernel
theorem dX9_lay_28 : decode cX9_lay 28 = .ok (.aload_n 0, 1) := by decide +kernel
theorem dX9_lay_29 : decode cX9_lay 29 = .ok (.getfield 74, 3) := by decide +kernel
theorem dX9_lay_32 : decode cX9_lay 32 = .ok (.if_icmp .eq 6, 3) := by decide +kernel
theorem dX9_lay_35 : decode cX9_lay 35 = .ok (.bipush (-2), 2) := by decide +kernel
theorem dX9_lay_37 : decode cX9_lay 37 = .ok (.ireturn, 1) := by decide +kernel
theorem dX9_lay_38 : decode cX9_lay 38 = .ok (.iconst 0, 1) := by decide +kernel
theorem dX9_lay_39 : decode cX9_lay 39 = .ok (.istore_n 2, 1) := by decide +kernel
theorem dX9_lay_40 : decode cX9_lay 40 = .ok (.iconst 0, 1) := by decide +kernel
theorem dX9_lay_41 : decode cX9_lay 41 = .ok (.istore_n 3, 1) := by decide +kernel
theorem dX9_lay_42 : decode cX9_lay 42 = .ok (.iconst 0, 1) := by decide +kernel
theorem dX9_lay_43 : decode cX9_lay 43 = .ok (.istore 4, 2) := by decide +kernel
theorem dX9_lay_45 : decode cX9_lay 45 = .ok (.iload 4, 2) := by decide +kernel
theorem dX9_lay_47 : decode cX9_lay 47 = .ok (.aload_n 0, 1) := by decide +kernel
theorem dX9_lay_48 : decode cX9_lay 48 = .ok (.getfield 74, 3) := by decide +kernel
theorem dX9_lay_51 : decode cX9_lay 51 = .ok (.if_icmp .ge 92, 3) := by decide +kernel
theorem dX9_lay_54 : decode cX9_lay 54 = .ok (.aload_n 0, 1) := by decide +kernel
theorem dX9_lay_55 : decode cX9_lay 55 = .ok (.getfield 52, 3) := by decide +kernel
theorem dX9_lay_58 : decode cX9_lay 58 = .ok (.bipush 40, 2) := by decide +kernel
theorem dX9_lay_60 : decode cX9_lay 60 = .ok (.iload_n 1, 1) := by decide +kernel
theorem dX9_lay_61 : decode cX9_lay 61 = .ok (.imul, 1) := by decide +kernel
theorem dX9_lay_62 : decode cX9_lay 62 = .ok (.iload 4, 2) := by decide +kernel
theorem dX9_lay_64 : decode cX9_lay 64 = .ok (.iadd, 1) := by decide +kernel
theorem dX9_lay_65 : decode cX9_lay 65 = .ok (.iaload, 1) := by decide +kernel
theorem dX9_lay_66 : decode cX9_lay 66 = .ok (.istore 5, 2) := by decide +kernel
theorem dX9_lay_68 : decode cX9_lay 68 = .ok (.iload 5, 2) := by decide +kernel
theorem dX9_lay_70 : decode cX9_lay 70 = .ok (.i2l, 1) := by decide +kernel
theorem dX9_lay_71 : decode cX9_lay 71 = .ok (.ldc2_w 95, 3) := by decide +kernel
theorem dX9_lay_74 : decode cX9_lay 74 = .ok (.aload_n 0, 1) := by decide +kernel
theorem dX9_lay_75 : decode cX9_lay 75 = .ok (.getfield 74, 3) := by decide +kernel
theorem dX9_lay_78 : decode cX9_lay 78 = .ok (.iconst 1, 1) := by decide +kernel
theorem dX9_lay_79 : decode cX9_lay 79 = .ok (.isub, 1) := by decide +kernel
theorem dX9_lay_80 : decode cX9_lay 80 = .ok (.i2l, 1) := by decide +kernel
theorem dX9_lay_81 : decode cX9_lay 81 = .ok (.invokestatic 85, 3) := by decide +kernel
theorem dX9_lay_84 : decode cX9_lay 84 = .ok (.ifCond .eq 19, 3) := by decide +kernel
theorem dX9_lay_87 : decode cX9_lay 87 = .ok (.iload 5, 2) := by decide +kernel
theorem dX9_lay_89 : decode cX9_lay 89 = .ok (.iconst (-1), 1) := by decide +kernel
theorem dX9_lay_90 : decode cX9_lay 90 = .ok (.if_icmp .eq 16, 3) := by decide +kernel
theorem dX9_lay_93 : decode cX9_lay 93 = .ok (.iload_n 2, 1) := by decide +kernel
theorem dX9_lay_94 : decode cX9_lay 94 = .ok (.iload 5, 2) := by decide +kernel
theorem dX9_lay_96 : decode cX9_lay 96 = .ok (.ishr, 1) := by decide +kernel
theorem dX9_lay_97 : decode cX9_lay 97 = .ok (.iconst 1, 1) := by decide +kernel
theorem dX9_lay_98 : decode cX9_lay 98 = .ok (.iand, 1) := by decide +kernel
theorem dX9_lay_99 : decode cX9_lay 99 = .ok (.iconst 1, 1) := by decide +kernel
theorem dX9_lay_100 : decode cX9_lay 100 = .ok (.if_icmp .ne 6, 3) := by decide +kernel
theorem dX9_lay_103 : decode cX9_lay 103 = .ok (.bipush (-2), 2) := by decide +kernel
theorem dX9_lay_105 : decode cX9_lay 105 = .ok (.ireturn, 1) := by decide +kernel
theorem dX9_lay_106 : decode cX9_lay 106 = .ok (.iload_n 2, 1) := by decide +kernel
theorem dX9_lay_107 : decode cX9_lay 107 = .ok (.iload 5, 2) := by decide +kernel
theorem dX9_lay_109 : decode cX9_lay 109 = .ok (.iconst (-1), 1) := by decide +kernel
theorem dX9_lay_110 : decode cX9_lay 110 = .ok (.if_icmp .ne 7, 3) := by decide +kernel
theorem dX9_lay_113 : decode cX9_lay 113 = .ok (.iconst 0, 1) := by decide +kernel
theorem dX9_lay_114 : decode cX9_lay 114 = .ok (.goto 7, 3) := by decide +kernel
theorem dX9_lay_117 : decode cX9_lay 117 = .ok (.iconst 1, 1) := by decide +kernel
theorem dX9_lay_118 : decode cX9_lay 118 = .ok (.iload 5, 2) := by decide +kernel
theorem dX9_lay_120 : decode cX9_lay 120 = .ok (.ishl, 1) := by decide +kernel
theorem dX9_lay_121 : decode cX9_lay 121 = .ok (.ior, 1) := by decide +kernel
theorem dX9_lay_122 : decode cX9_lay 122 = .ok (.istore_n 2, 1) := by decide +kernel
theorem dX9_lay_123 : decode cX9_lay 123 = .ok (.iload_n 3, 1) := by decide +kernel
theorem dX9_lay_124 : decode cX9_lay 124 = .ok (.iload 5, 2) := by decide +kernel
theorem dX9_lay_126 : decode cX9_lay 126 = .ok (.iconst (-1), 1) := by decide +kernel
theorem dX9_lay_127 : decode cX9_lay 127 = .ok (.if_icmp .ne 7, 3) := by decide +kernel
theorem dX9_lay_130 : decode cX9_lay 130 = .ok (.iconst 0, 1) := by decide +kernel
theorem dX9_lay_131 : decode cX9_lay 131 = .ok (.goto 4, 3) := by decide +kernel
theorem dX9_lay_134 : decode cX9_lay 134 = .ok (.iconst 1, 1) := by decide +kernel
theorem dX9_lay_135 : decode cX9_lay 135 = .ok (.iadd, 1) := by decide +kernel
theorem dX9_lay_136 : decode cX9_lay 136 = .ok (.istore_n 3, 1) := by decide +kernel
theorem dX9_lay_137 : decode cX9_lay 137 = .ok (.iinc 4 1, 3) := by decide +kernel
theorem dX9_lay_140 : decode cX9_lay 140 = .ok (.goto (-95), 3) := by decide +kernel
theorem dX9_lay_143 : decode cX9_lay 143 = .ok (.iconst 0, 1) := by decide +kernel
theorem dX9_lay_144 : decode cX9_lay 144 = .ok (.istore 4, 2) := by decide +kernel
theorem dX9_lay_146 : decode cX9_lay 146 = .ok (.iload 4, 2) := by decide +kernel
theorem dX9_lay_148 : decode cX9_lay 148 = .ok (.aload_n 0, 1) := by decide +kernel
theorem dX9_lay_149 : decode cX9_lay 149 = .ok (.getfield 74, 3) := by decide +kernel
theorem dX9_lay_152 : decode cX9_lay 152 = .ok (.if_icmp .ge 28, 3) := by decide +kernel
theorem dX9_lay_155 : decode cX9_lay 155 = .ok (.aload_n 0, 1) := by decide +kernel
theorem dX9_lay_156 : decode cX9_lay 156 = .ok (.getfield 23, 3) := by decide +kernel
theorem dX9_lay_159 : decode cX9_lay 159 = .ok (.iload 4, 2) := by decide +kernel
theorem dX9_lay_161 : decode cX9_lay 161 = .ok (.aload_n 0, 1) := by decide +kernel
theorem dX9_lay_162 : decode cX9_lay 162 = .ok (.getfield 52, 3) := by decide +kernel
theorem dX9_lay_165 : decode cX9_lay 165 = .ok (.bipush 40, 2) := by decide +kernel
theorem dX9_lay_167 : decode cX9_lay 167 = .ok (.iload_n 1, 1) := by decide +kernel
theorem dX9_lay_168 : decode cX9_lay 168 = .ok (.imul, 1) := by decide +kernel
theorem dX9_lay_169 : decode cX9_lay 169 = .ok (.iload 4, 2) := by decide +kernel
theorem dX9_lay_171 : decode cX9_lay 171 = .ok (.iadd, 1) := by decide +kernel
theorem dX9_lay_172 : decode cX9_lay 172 = .ok (.iaload, 1) := by decide +kernel
theorem dX9_lay_173 : decode cX9_lay 173 = .ok (.iastore, 1) := by decide +kernel
theorem dX9_lay_174 : decode cX9_lay 174 = .ok (.iinc 4 1, 3) := by decide +kernel
theorem dX9_lay_177 : decode cX9_lay 177 = .ok (.goto (-31), 3) := by decide +kernel
theorem dX9_lay_180 : decode cX9_lay 180 = .ok (.iload_n 3, 1) := by decide +kernel
theorem dX9_lay_181 : decode cX9_lay 181 = .ok (.ireturn, 1) := by decide +kernel
theorem dX9_changes_0 : decode cX9_changes 0 = .ok (.aload_n 0, 1) := by decide +kernel
theorem dX9_changes_1 : decode cX9_changes 1 = .ok (.getfield 23, 3) := by decide +kernel
theorem dX9_changes_4 : decode cX9_changes 4 = .ok (.iload_n 1, 1) := by decide +kernel
theorem dX9_changes_5 : decode cX9_changes 5 = .ok (.iaload, 1) := by decide +kernel
theorem dX9_changes_6 : decode cX9_changes 6 = .ok (.istore_n 3, 1) := by decide +kernel
theorem dX9_changes_7 : decode cX9_changes 7 = .ok (.aload_n 0, 1) := by decide +kernel
theorem dX9_changes_8 : decode cX9_changes 8 = .ok (.getfield 23, 3) := by decide +kernel
theorem dX9_changes_11 : decode cX9_changes 11 = .ok (.iload_n 1, 1) := by decide +kernel
theorem dX9_changes_12 : decode cX9_changes 12 = .ok (.aload_n 0, 1) := by decide +kernel
theorem dX9_changes_13 : decode cX9_changes 13 = .ok (.getfield 23, 3) := by decide +kernel
theorem dX9_changes_16 : decode cX9_changes 16 = .ok (.iload_n 2, 1) := by decide +kernel
theorem dX9_changes_17 : decode cX9_changes 17 = .ok (.iaload, 1) := by decide +kernel
theorem dX9_changes_18 : decode cX9_changes 18 = .ok (.iastore, 1) := by decide +kernel
theorem dX9_changes_19 : decode cX9_changes 19 = .ok (.aload_n 0, 1) := by decide +kernel
theorem dX9_changes_20 : decode cX9_changes 20 = .ok (.getfield 23, 3) := by decide +kernel
theorem dX9_changes_23 : decode cX9_changes 23 = .ok (.iload_n 2, 1) := by decide +kernel
theorem dX9_changes_24 : decode cX9_changes 24 = .ok (.iload_n 3, 1) := by decide +kernel
theorem dX9_changes_25 : decode cX9_changes 25 = .ok (.iastore, 1) := by decide +kernel
theorem dX9_changes_26 : decode cX9_changes 26 = .ok (.return_, 1) := by decide +kernel
set_option maxRecDepth 20000 in
theorem ggX9_swap_X9_isBox : GoodIn wsX9_swap wsX9_isBox := goodIn_r _ [5, 6, 7, 8, 4, 9, 15, 16, 17, 18, 19, 20, 21, 22, 23, 24, 25, 26, 27, 28, 29, 30, 31, 32, 33, 34, 35, 36, 37, 38, 39, 40, 41, 42, 43, 44, 45, 46, 47, 48, 49, 50, 51, 52, 53, 54, 55, 56, 57, 58, 59] (by decide +kernel) (by decide +kernel)
set_option maxRecDepth 20000 in
theorem gX9_swap_X9_isBox : GoodIn wsX9_swap (wsV RX9 97 RX9 yX9_isBox wsX9_isBox) := goodIn_app (goodIn_of _ (by decide +kernel)) ggX9_swap_X9_isBox
set_option maxRecDepth 20000 in
theorem ggX9_swap_X9_changes : GoodIn wsX9_swap wsX9_changes := goodIn_r _ [13, 14, 15, 16, 17, 18, 19, 20, 21, 22, 23, 24, 25, 26, 27, 28, 29, 30, 31, 32, 33, 34, 35, 36, 37, 38, 39, 40, 41, 42, 43, 44, 45, 46, 47, 48, 49, 50, 51, 52, 53, 54, 55, 56, 57, 58, 59] (by decide +kernel) (by decide +kernel)
set_option maxRecDepth 20000 in
theorem gX9_swap_X9_changes : GoodIn wsX9_swap (wsV RX9 100 RX9 yX9_changes wsX9_changes) := goodIn_app (goodIn_of _ (by decide +kernel)) ggX9_swap_X9_changes
theorem dX9_swap_0 : decode cX9_swap 0 = .ok (.aload_n 0, 1) := by decide +kernel
theorem dX9_swap_1 : decode cX9_swap 1 = .ok (.iload_n 1, 1) := by decide +kernel
theorem dX9_swap_2 : decode cX9_swap 2 = .ok (.invokevirtual 97, 3) := by decide +kernel
theorem dX9_swap_5 : decode cX9_swap 5 = .ok (.ifCond .eq 16, 3) := by decide +kernel
theorem dX9_swap_8 : decode cX9_swap 8 = .ok (.aload_n 0, 1) := by decide +kernel
theorem dX9_swap_9 : decode cX9_swap 9 = .ok (.iload_n 2, 1) := by decide +kernel
theorem dX9_swap_10 : decode cX9_swap 10 = .ok (.invokevirtual 97, 3) := by decide +kernel
theorem dX9_swap_13 : decode cX9_swap 13 = .ok (.ifCond .eq 8, 3) := by decide +kernel
theorem dX9_swap_16 : decode cX9_swap 16 = .ok (.iload_n 1, 1) := by decide +kernel
theorem dX9_swap_17 : decode cX9_swap 17 = .ok (.iload_n 2, 1) := by decide +kernel
theorem dX9_swap_18 : decode cX9_swap 18 = .ok (.if_icmp .ne 6, 3) := by decide +kernel
theorem dX9_swap_21 : decode cX9_swap 21 = .ok (.bipush (-2), 2) := by decide +kernel
theorem dX9_swap_23 : decode cX9_swap 23 = .ok (.ireturn, 1) := by decide +kernel
theorem dX9_swap_24 : decode cX9_swap 24 = .ok (.aload_n 0, 1) := by decide +kernel
theorem dX9_swap_25 : decode cX9_swap 25 = .ok (.iload_n 1, 1) := by decide +kernel
theorem dX9_swap_26 : decode cX9_swap 26 = .ok (.iload_n 2, 1) := by decide +kernel
theorem dX9_swap_27 : decode cX9_swap 27 = .ok (.invokevirtual 100, 3) := by decide +kernel
theorem dX9_swap_30 : decode cX9_swap 30 = .ok (.iconst 1, 1) := by decide +kernel
theorem dX9_swap_31 : decode cX9_swap 31 = .ok (.ireturn, 1) := by decide +kernel
set_option maxRecDepth 20000 in
theorem ggX9_empty_X9_isBox : GoodIn wsX9_empty wsX9_isBox := goodIn_r _ [6, 7, 8, 9, 5, 10, 11, 12, 13, 14, 15, 16, 17, 18, 19, 20, 21, 22, 23, 24, 25, 26, 27, 28, 29, 30, 31, 32, 33, 34, 35, 36, 37, 38, 39, 40, 41, 42, 43, 44, 45, 46, 47, 48, 49, 50, 51, 52, 53, 54, 55] (by decide +kernel) (by decide +kernel)
set_option maxRecDepth 20000 in
theorem gX9_empty_X9_isBox : GoodIn wsX9_empty (wsV RX9 97 RX9 yX9_isBox wsX9_isBox) := goodIn_app (goodIn_of _ (by decide +kernel)) ggX9_empty_X9_isBox
theorem dX9_empty_0 : decode cX9_empty 0 = .ok (.aload_n 0, 1) := by decide +kernel
theorem dX9_empty_1 : decode cX9_empty 1 = .ok (.iload_n 1, 1) := by decide +kernel
theorem dX9_empty_2 : decode cX9_empty 2 = .ok (.invokevirtual 97, 3) := by decide +kernel
theorem dX9_empty_5 : decode cX9_empty 5 = .ok (.ifCond .ne 6, 3) := by decide +kernel
theorem dX9_empty_8 : decode cX9_empty 8 = .ok (.bipush (-2), 2) := by decide +kernel
theorem dX9_empty_10 : decode cX9_empty 10 = .ok (.ireturn, 1) := by decide +kernel
theorem dX9_empty_11 : decode cX9_empty 11 = .ok (.aload_n 0, 1) := by decide +kernel
theorem dX9_empty_12 : decode cX9_empty 12 = .ok (.getfield 23, 3) := by decide +kernel
theorem dX9_empty_15 : decode cX9_empty 15 = .ok (.iload_n 1, 1) := by decide +kernel
theorem dX9_empty_16 : decode cX9_empty 16 = .ok (.iaload, 1) := by decide +kernel
theorem dX9_empty_17 : decode cX9_empty 17 = .ok (.iconst (-1), 1) := by decide +kernel
theorem dX9_empty_18 : decode cX9_empty 18 = .ok (.if_icmp .ne 6, 3) := by decide +kernel
theorem dX9_empty_21 : decode cX9_empty 21 = .ok (.bipush (-3), 2) := by decide +kernel
theorem dX9_empty_23 : decode cX9_empty 23 = .ok (.ireturn, 1) := by decide +kernel
theorem dX9_empty_24 : decode cX9_empty 24 = .ok (.aload_n 0, 1) := by decide +kernel
theorem dX9_empty_25 : decode cX9_empty 25 = .ok (.getfield 23, 3) := by decide +kernel
theorem dX9_empty_28 : decode cX9_empty 28 = .ok (.iload_n 1, 1) := by decide +kernel
theorem dX9_empty_29 : decode cX9_empty 29 = .ok (.iaload, 1) := by decide +kernel
theorem dX9_empty_30 : decode cX9_empty 30 = .ok (.istore_n 2, 1) := by decide +kernel
theorem dX9_empty_31 : decode cX9_empty 31 = .ok (.aload_n 0, 1) := by decide +kernel
theorem dX9_empty_32 : decode cX9_empty 32 = .ok (.getfield 23, 3) := by decide +kernel
theorem dX9_empty_35 : decode cX9_empty 35 = .ok (.iload_n 1, 1) := by decide +kernel
theorem dX9_empty_36 : decode cX9_empty 36 = .ok (.iconst (-1), 1) := by decide +kernel
theorem dX9_empty_37 : decode cX9_empty 37 = .ok (.iastore, 1) := by decide +kernel
theorem dX9_empty_38 : decode cX9_empty 38 = .ok (.iload_n 2, 1) := by decide +kernel
theorem dX9_empty_39 : decode cX9_empty 39 = .ok (.ireturn, 1) := by decide +kernel
theorem dX9_ringOf_0 : decode cX9_ringOf 0 = .ok (.aload_n 0, 1) := by decide +kernel
theorem dX9_ringOf_1 : decode cX9_ringOf 1 = .ok (.getfield 23, 3) := by decide +kernel
theorem dX9_ringOf_4 : decode cX9_ringOf 4 = .ok (.iload_n 1, 1) := by decide +kernel
theorem dX9_ringOf_5 : decode cX9_ringOf 5 = .ok (.iaload, 1) := by decide +kernel
theorem dX9_ringOf_6 : decode cX9_ringOf 6 = .ok (.istore_n 2, 1) := by decide +kernel
theorem dX9_ringOf_7 : decode cX9_ringOf 7 = .ok (.iconst 1, 1) := by decide +kernel
theorem dX9_ringOf_8 : decode cX9_ringOf 8 = .ok (.istore_n 3, 1) := by decide +kernel
theorem dX9_ringOf_9 : decode cX9_ringOf 9 = .ok (.iload_n 2, 1) := by decide +kernel
theorem dX9_ringOf_10 : decode cX9_ringOf 10 = .ok (.iconst (-1), 1) := by decide +kernel
theorem dX9_ringOf_11 : decode cX9_ringOf 11 = .ok (.if_icmp .eq 29, 3) := by decide +kernel
theorem dX9_ringOf_14 : decode cX9_ringOf 14 = .ok (.iload_n 2, 1) := by decide +kernel
theorem dX9_ringOf_15 : decode cX9_ringOf 15 = .ok (.iload_n 1, 1) := by decide +kernel
theorem dX9_ringOf_16 : decode cX9_ringOf 16 = .ok (.if_icmp .eq 24, 3) := by decide +kernel
theorem dX9_ringOf_19 : decode cX9_ringOf 19 = .ok (.iload_n 3, 1) := by decide +kernel
theorem dX9_ringOf_20 : decode cX9_ringOf 20 = .ok (.aload_n 0, 1) := by decide +kernel
theorem dX9_ringOf_21 : decode cX9_ringOf 21 = .ok (.getfield 74, 3) := by decide +kernel
theorem dX9_ringOf_24 : decode cX9_ringOf 24 = .ok (.if_icmp .gt 16, 3) := by decide +kernel
theorem dX9_ringOf_27 : decode cX9_ringOf 27 = .ok (.aload_n 0, 1) := by decide +kernel
theorem dX9_ringOf_28 : decode cX9_ringOf 28 = .ok (.getfield 23, 3) := by decide +kernel
theorem dX9_ringOf_31 : decode cX9_ringOf 31 = .ok (.iload_n 2, 1) := by decide +kernel
theorem dX9_ringOf_32 : decode cX9_ringOf 32 = .ok (.iaload, 1) := by decide +kernel
theorem dX9_ringOf_33 : decode cX9_ringOf 33 = .ok (.istore_n 2, 1) := by decide +kernel
theorem dX9_ringOf_34 : decode cX9_ringOf 34 = .ok (.iinc 3 1, 3) := by decide +kernel
theorem dX9_ringOf_37 : decode cX9_ringOf 37 = .ok (.goto (-28), 3) := by decide +kernel
theorem dX9_ringOf_40 : decode cX9_ringOf 40 = .ok (.iload_n 2, 1) := by decide +kernel
theorem dX9_ringOf_41 : decode cX9_ringOf 41 = .ok (.iload_n 1, 1) := by decide +kernel
theorem dX9_ringOf_42 : decode cX9_ringOf 42 = .ok (.if_icmp .ne 7, 3) := by decide +kernel
theorem dX9_ringOf_45 : decode cX9_ringOf 45 = .ok (.iload_n 3, 1) := by decide +kernel
theorem dX9_ringOf_46 : decode cX9_ringOf 46 = .ok (.goto 4, 3) := by decide +kernel
theorem dX9_ringOf_49 : decode cX9_ringOf 49 = .ok (.iconst 0, 1) := by decide +kernel
theorem dX9_ringOf_50 : decode cX9_ringOf 50 = .ok (.ireturn, 1) := by decide +kernel
set_option maxRecDepth 20000 in
theorem ggX9_box_X9_isBox : GoodIn wsX9_box wsX9_isBox := goodIn_r _ [6, 7, 8, 9, 5, 10, 15, 16, 17, 18, 19, 20, 21, 22, 23, 24, 25, 26, 27, 28, 29, 30, 31, 32, 33, 34, 35, 36, 37, 38, 39, 40, 41, 42, 43, 44, 45, 46, 47, 48, 49, 50, 51, 52, 53, 54, 55, 56, 57, 58, 59] (by decide +kernel) (by decide +kernel)
set_option maxRecDepth 20000 in
theorem gX9_box_X9_isBox : GoodIn wsX9_box (wsV RX9 97 RX9 yX9_isBox wsX9_isBox) := goodIn_app (goodIn_of _ (by decide +kernel)) ggX9_box_X9_isBox
set_option maxRecDepth 20000 in
theorem ggX9_box_X9_in : GoodIn wsX9_box wsX9_in := goodIn_r _ [10] (by decide +kernel) (by decide +kernel)
set_option maxRecDepth 20000 in
theorem gX9_box_X9_in : GoodIn wsX9_box (va_wsS RX9 85 yX9_in wsX9_in) := goodIn_app (goodIn_of _ (by decide +kernel)) ggX9_box_X9_in
set_option maxRecDepth 20000 in
theorem ggX9_box_X9_ringOf : GoodIn wsX9_box wsX9_ringOf := goodIn_r _ [14, 1, 7, 15, 16, 17, 18, 19, 20, 21, 22, 23, 24, 25, 26, 27, 28, 29, 30, 31, 32, 33, 34, 35, 36, 37, 38, 39, 40, 41, 42, 43, 44, 45, 46, 47, 48, 49, 50, 51, 52, 53, 54, 55, 56, 57, 58, 59] (by decide +kernel) (by decide +kernel)
set_option maxRecDepth 20000 in
theorem gX9_box_X9_ringOf : GoodIn wsX9_box (wsV RX9 104 RX9 yX9_ringOf wsX9_ringOf) := goodIn_app (goodIn_of _ (by decide +kernel)) ggX9_box_X9_ringOf
theorem dX9_box_0 : decode cX9_box 0 = .ok (.aload_n 0, 1) := by decide +kernel
