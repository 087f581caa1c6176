theorem dX0_init_0 : decode cX0_init 0 = .ok (.aload_n 0, 1) := by decide +kernel
theorem dX0_init_1 : decode cX0_init 1 = .ok (.invokespecial 3, 3) := by decide +kernel
theorem dX0_init_4 : decode cX0_init 4 = .ok (.aload_n 0, 1) := by decide +kernel
theorem dX0_init_5 : decode cX0_init 5 = .ok (.bipush 12, 2) := by decide +kernel
theorem dX0_init_7 : decode cX0_init 7 = .ok (.newarray .int, 2) := by decide +kernel
theorem dX0_init_9 : decode cX0_init 9 = .ok (.putfield 9, 3) := by decide +kernel
theorem dX0_init_12 : decode cX0_init 12 = .ok (.aload_n 0, 1) := by decide +kernel
theorem dX0_init_13 : decode cX0_init 13 = .ok (.iconst 0, 1) := by decide +kernel
theorem dX0_init_14 : decode cX0_init 14 = .ok (.putfield 15, 3) := by decide +kernel
theorem dX0_init_17 : decode cX0_init 17 = .ok (.return_, 1) := by decide +kernel
theorem dX0_layOwn_0 : decode cX0_layOwn 0 = .ok (.aload_n 0, 1) := by decide +kernel
theorem dX0_layOwn_1 : decode cX0_layOwn 1 = .ok (.iconst 0, 1) := by decide +kernel
theorem dX0_layOwn_2 : decode cX0_layOwn 2 = .ok (.iload_n 1, 1) := by decide +kernel
theorem dX0_layOwn_3 : decode cX0_layOwn 3 = .ok (.bipush 12, 2) := by decide +kernel
theorem dX0_layOwn_5 : decode cX0_layOwn 5 = .ok (.invokestatic 19, 3) := by decide +kernel
theorem dX0_layOwn_8 : decode cX0_layOwn 8 = .ok (.invokestatic 25, 3) := by decide +kernel
theorem dX0_layOwn_11 : decode cX0_layOwn 11 = .ok (.putfield 15, 3) := by decide +kernel
theorem dX0_layOwn_14 : decode cX0_layOwn 14 = .ok (.iconst 0, 1) := by decide +kernel
theorem dX0_layOwn_15 : decode cX0_layOwn 15 = .ok (.istore_n 2, 1) := by decide +kernel
theorem dX0_layOwn_16 : decode cX0_layOwn 16 = .ok (.iload_n 2, 1) := by decide +kernel
theorem dX0_layOwn_17 : decode cX0_layOwn 17 = .ok (.aload_n 0, 1) := by decide +kernel
theorem dX0_layOwn_18 : decode cX0_layOwn 18 = .ok (.getfield 15, 3) := by decide +kernel
theorem dX0_layOwn_21 : decode cX0_layOwn 21 = .ok (.if_icmp .ge 16, 3) := by decide +kernel
theorem dX0_layOwn_24 : decode cX0_layOwn 24 = .ok (.aload_n 0, 1) := by decide +kernel
theorem dX0_layOwn_25 : decode cX0_layOwn 25 = .ok (.getfield 9, 3) := by decide +kernel
theorem dX0_layOwn_28 : decode cX0_layOwn 28 = .ok (.iload_n 2, 1) := by decide +kernel
theorem dX0_layOwn_29 : decode cX0_layOwn 29 = .ok (.iload_n 2, 1) := by decide +kernel
theorem dX0_layOwn_30 : decode cX0_layOwn 30 = .ok (.iastore, 1) := by decide +kernel
theorem dX0_layOwn_31 : decode cX0_layOwn 31 = .ok (.iinc 2 1, 3) := by decide +kernel
theorem dX0_layOwn_34 : decode cX0_layOwn 34 = .ok (.goto (-18), 3) := by decide +kernel
theorem dX0_layOwn_37 : decode cX0_layOwn 37 = .ok (.return_, 1) := by decide +kernel
theorem dX0_layAs_0 : decode cX0_layAs 0 = .ok (.aload_n 0, 1) := by decide +kernel
theorem dX0_layAs_1 : decode cX0_layAs 1 = .ok (.aload_n 1, 1) := by decide +kernel
theorem dX0_layAs_2 : decode cX0_layAs 2 = .ok (.getfield 15, 3) := by decide +kernel
theorem dX0_layAs_5 : decode cX0_layAs 5 = .ok (.putfield 15, 3) := by decide +kernel
theorem dX0_layAs_8 : decode cX0_layAs 8 = .ok (.aload_n 1, 1) := by decide +kernel
theorem dX0_layAs_9 : decode cX0_layAs 9 = .ok (.getfield 9, 3) := by decide +kernel
theorem dX0_layAs_12 : decode cX0_layAs 12 = .ok (.iconst 0, 1) := by decide +kernel
theorem dX0_layAs_13 : decode cX0_layAs 13 = .ok (.aload_n 0, 1) := by decide +kernel
theorem dX0_layAs_14 : decode cX0_layAs 14 = .ok (.getfield 9, 3) := by decide +kernel
theorem dX0_layAs_17 : decode cX0_layAs 17 = .ok (.iconst 0, 1) := by decide +kernel
theorem dX0_layAs_18 : decode cX0_layAs 18 = .ok (.bipush 12, 2) := by decide +kernel
theorem dX0_layAs_20 : decode cX0_layAs 20 = .ok (.invokestatic 28, 3) := by decide +kernel
theorem dX0_layAs_23 : decode cX0_layAs 23 = .ok (.return_, 1) := by decide +kernel
theorem dX0_has_0 : decode cX0_has 0 = .ok (.iload_n 1, 1) := by decide +kernel
theorem dX0_has_1 : decode cX0_has 1 = .ok (.ifCond .lt 15, 3) := by decide +kernel
theorem dX0_has_4 : decode cX0_has 4 = .ok (.iload_n 1, 1) := by decide +kernel
theorem dX0_has_5 : decode cX0_has 5 = .ok (.aload_n 0, 1) := by decide +kernel
theorem dX0_has_6 : decode cX0_has 6 = .ok (.getfield 15, 3) := by decide +kernel
theorem dX0_has_9 : decode cX0_has 9 = .ok (.if_icmp .ge 7, 3) := by decide +kernel
theorem dX0_has_12 : decode cX0_has 12 = .ok (.iconst 1, 1) := by decide +kernel
theorem dX0_has_13 : decode cX0_has 13 = .ok (.goto 4, 3) := by decide +kernel
theorem dX0_has_16 : decode cX0_has 16 = .ok (.iconst 0, 1) := by decide +kernel
theorem dX0_has_17 : decode cX0_has 17 = .ok (.ireturn, 1) := by decide +kernel
theorem dX0_at_0 : decode cX0_at 0 = .ok (.iload_n 1, 1) := by decide +kernel
theorem dX0_at_1 : decode cX0_at 1 = .ok (.ifCond .lt 20, 3) := by decide +kernel
theorem dX0_at_4 : decode cX0_at 4 = .ok (.iload_n 1, 1) := by decide +kernel
theorem dX0_at_5 : decode cX0_at 5 = .ok (.aload_n 0, 1) := by decide +kernel
theorem dX0_at_6 : decode cX0_at 6 = .ok (.getfield 15, 3) := by decide +kernel
theorem dX0_at_9 : decode cX0_at 9 = .ok (.if_icmp .ge 12, 3) := by decide +kernel
theorem dX0_at_12 : decode cX0_at 12 = .ok (.aload_n 0, 1) := by decide +kernel
theorem dX0_at_13 : decode cX0_at 13 = .ok (.getfield 9, 3) := by decide +kernel
theorem dX0_at_16 : decode cX0_at 16 = .ok (.iload_n 1, 1) := by decide +kernel
theorem dX0_at_17 : decode cX0_at 17 = .ok (.iaload, 1) := by decide +kernel
theorem dX0_at_18 : decode cX0_at 18 = .ok (.goto 4, 3) := by decide +kernel
theorem dX0_at_21 : decode cX0_at 21 = .ok (.iconst (-1), 1) := by decide +kernel
theorem dX0_at_22 : decode cX0_at 22 = .ok (.ireturn, 1) := by decide +kernel
set_option maxRecDepth 20000 in
theorem ggX0_put_X0_has : GoodIn wsX0_put wsX0_has := goodIn_r _ [6, 7, 8, 9, 10, 11, 12] (by decide +kernel) (by decide +kernel)
set_option maxRecDepth 20000 in
theorem gX0_put_X0_has : GoodIn wsX0_put (wsV RX0 34 RX0 yX0_has wsX0_has) := goodIn_app (goodIn_of _ (by decide +kernel)) ggX0_put_X0_has
theorem dX0_put_0 : decode cX0_put 0 = .ok (.aload_n 0, 1) := by decide +kernel
theorem dX0_put_1 : decode cX0_put 1 = .ok (.iload_n 1, 1) := by decide +kernel
theorem dX0_put_2 : decode cX0_put 2 = .ok (.invokevirtual 34, 3) := by decide +kernel
theorem dX0_put_5 : decode cX0_put 5 = .ok (.ifCond .eq 10, 3) := by decide +kernel
theorem dX0_put_8 : decode cX0_put 8 = .ok (.aload_n 0, 1) := by decide +kernel
theorem dX0_put_9 : decode cX0_put 9 = .ok (.getfield 9, 3) := by decide +kernel
theorem dX0_put_12 : decode cX0_put 12 = .ok (.iload_n 1, 1) := by decide +kernel
theorem dX0_put_13 : decode cX0_put 13 = .ok (.iload_n 2, 1) := by decide +kernel
theorem dX0_put_14 : decode cX0_put 14 = .ok (.iastore, 1) := by decide +kernel
theorem dX0_put_15 : decode cX0_put 15 = .ok (.return_, 1) := by decide +kernel
set_option maxRecDepth 20000 in
theorem ggX0_change_X0_at : GoodIn wsX0_change wsX0_at := goodIn_r _ [5, 6, 7, 16, 17, 18, 19, 20] (by decide +kernel) (by decide +kernel)
set_option maxRecDepth 20000 in
theorem gX0_change_X0_at : GoodIn wsX0_change (wsV RX0 38 RX0 yX0_at wsX0_at) := goodIn_app (goodIn_of _ (by decide +kernel)) ggX0_change_X0_at
set_option maxRecDepth 20000 in
theorem ggX0_change_X0_put : GoodIn wsX0_change wsX0_put := goodIn_r _ [11, 7, 12, 13, 14, 4, 15, 6, 16, 17, 18, 19, 20] (by decide +kernel) (by decide +kernel)
set_option maxRecDepth 20000 in
theorem gX0_change_X0_put : GoodIn wsX0_change (wsV RX0 42 RX0 yX0_put wsX0_put) := goodIn_app (goodIn_of _ (by decide +kernel)) ggX0_change_X0_put
theorem dX0_change_0 : decode cX0_change 0 = .ok (.aload_n 0, 1) := by decide +kernel
theorem dX0_change_1 : decode cX0_change 1 = .ok (.iload_n 1, 1) := by decide +kernel
theorem dX0_change_2 : decode cX0_change 2 = .ok (.invokevirtual 38, 3) := by decide +kernel
theorem dX0_change_5 : decode cX0_change 5 = .ok (.istore_n 3, 1) := by decide +kernel
theorem dX0_change_6 : decode cX0_change 6 = .ok (.aload_n 0, 1) := by decide +kernel
theorem dX0_change_7 : decode cX0_change 7 = .ok (.iload_n 1, 1) := by decide +kernel
theorem dX0_change_8 : decode cX0_change 8 = .ok (.aload_n 0, 1) := by decide +kernel
theorem dX0_change_9 : decode cX0_change 9 = .ok (.iload_n 2, 1) := by decide +kernel
theorem dX0_change_10 : decode cX0_change 10 = .ok (.invokevirtual 38, 3) := by decide +kernel
theorem dX0_change_13 : decode cX0_change 13 = .ok (.invokevirtual 42, 3) := by decide +kernel
theorem dX0_change_16 : decode cX0_change 16 = .ok (.aload_n 0, 1) := by decide +kernel
theorem dX0_change_17 : decode cX0_change 17 = .ok (.iload_n 2, 1) := by decide +kernel
theorem dX0_change_18 : decode cX0_change 18 = .ok (.iload_n 3, 1) := by decide +kernel
theorem dX0_change_19 : decode cX0_change 19 = .ok (.invokevirtual 42, 3) := by decide +kernel
theorem dX0_change_22 : decode cX0_change 22 = .ok (.return_, 1) := by decide +kernel
set_option maxRecDepth 20000 in
theorem ggX0_ringLength_X0_at : GoodIn wsX0_ringLength wsX0_at := goodIn_r _ [6, 1, 7, 8, 9, 10, 11, 12] (by decide +kernel) (by decide +kernel)
set_option maxRecDepth 20000 in
theorem gX0_ringLength_X0_at : GoodIn wsX0_ringLength (wsV RX0 38 RX0 yX0_at wsX0_at) := goodIn_app (goodIn_of _ (by decide +kernel)) ggX0_ringLength_X0_at
theorem dX0_ringLength_0 : decode cX0_ringLength 0 = .ok (.aload_n 0, 1) := by decide +kernel
theorem dX0_ringLength_1 : decode cX0_ringLength 1 = .ok (.iload_n 1, 1) := by decide +kernel
theorem dX0_ringLength_2 : decode cX0_ringLength 2 = .ok (.invokevirtual 38, 3) := by decide +kernel
theorem dX0_ringLength_5 : decode cX0_ringLength 5 = .ok (.istore_n 2, 1) := by decide +kernel
theorem dX0_ringLength_6 : decode cX0_ringLength 6 = .ok (.iconst 1, 1) := by decide +kernel
theorem dX0_ringLength_7 : decode cX0_ringLength 7 = .ok (.istore_n 3, 1) := by decide +kernel
theorem dX0_ringLength_8 : decode cX0_ringLength 8 = .ok (.iload_n 3, 1) := by decide +kernel
theorem dX0_ringLength_9 : decode cX0_ringLength 9 = .ok (.aload_n 0, 1) := by decide +kernel
theorem dX0_ringLength_10 : decode cX0_ringLength 10 = .ok (.getfield 15, 3) := by decide +kernel
theorem dX0_ringLength_13 : decode cX0_ringLength 13 = .ok (.if_icmp .gt 27, 3) := by decide +kernel
theorem dX0_ringLength_16 : decode cX0_ringLength 16 = .ok (.iload_n 2, 1) := by decide +kernel
theorem dX0_ringLength_17 : decode cX0_ringLength 17 = .ok (.iconst (-1), 1) := by decide +kernel
theorem dX0_ringLength_18 : decode cX0_ringLength 18 = .ok (.if_icmp .eq 22, 3) := by decide +kernel
theorem dX0_ringLength_21 : decode cX0_ringLength 21 = .ok (.iload_n 2, 1) := by decide +kernel
theorem dX0_ringLength_22 : decode cX0_ringLength 22 = .ok (.iload_n 1, 1) := by decide +kernel
theorem dX0_ringLength_23 : decode cX0_ringLength 23 = .ok (.if_icmp .ne 5, 3) := by decide +kernel
theorem dX0_ringLength_26 : decode cX0_ringLength 26 = .ok (.iload_n 3, 1) := by decide +kernel
theorem dX0_ringLength_27 : decode cX0_ringLength 27 = .ok (.ireturn, 1) := by decide +kernel
theorem dX0_ringLength_28 : decode cX0_ringLength 28 = .ok (.aload_n 0, 1) := by decide +kernel
theorem dX0_ringLength_29 : decode cX0_ringLength 29 = .ok (.iload_n 2, 1) := by decide +kernel
theorem dX0_ringLength_30 : decode cX0_ringLength 30 = .ok (.invokevirtual 38, 3) := by decide +kernel
theorem dX0_ringLength_33 : decode cX0_ringLength 33 = .ok (.istore_n 2, 1) := by decide +kernel
theorem dX0_ringLength_34 : decode cX0_ringLength 34 = .ok (.iinc 3 1, 3) := by decide +kernel
theorem dX0_ringLength_37 : decode cX0_ringLength 37 = .ok (.goto (-29), 3) := by decide +kernel
theorem dX0_ringLength_40 : decode cX0_ringLength 40 = .ok (.iconst 0, 1) := by decide +kernel
theorem dX0_ringLength_41 : decode cX0_ringLength 41 = .ok (.ireturn, 1) := by decide +kernel
set_option maxRecDepth 20000 in
theorem ggX0_survey_X0_at : GoodIn wsX0_survey wsX0_at := goodIn_r _ [13, 4, 14, 15, 16, 17, 18, 19] (by decide +kernel) (by decide +kernel)
set_option maxRecDepth 20000 in
theorem gX0_survey_X0_at : GoodIn wsX0_survey (wsV RX0 38 RX0 yX0_at wsX0_at) := goodIn_app (goodIn_of _ (by decide +kernel)) ggX0_survey_X0_at
theorem dX0_survey_0 : decode cX0_survey 0 = .ok (.aload_n 0, 1) := by decide +kernel
theorem dX0_survey_1 : decode cX0_survey 1 = .ok (.iconst 0, 1) := by decide +kernel
theorem dX0_survey_2 : decode cX0_survey 2 = .ok (.putfield 46, 3) := by decide +kernel
theorem dX0_survey_5 : decode cX0_survey 5 = .ok (.aload_n 0, 1) := by decide +kernel
theorem dX0_survey_6 : decode cX0_survey 6 = .ok (.iconst 0, 1) := by decide +kernel
theorem dX0_survey_7 : decode cX0_survey 7 = .ok (.putfield 49, 3) := by decide +kernel
theorem dX0_survey_10 : decode cX0_survey 10 = .ok (.aload_n 0, 1) := by decide +kernel
theorem dX0_survey_11 : decode cX0_survey 11 = .ok (.iconst 0, 1) := by decide +kernel
theorem dX0_survey_12 : decode cX0_survey 12 = .ok (.putfield 52, 3) := by decide +kernel
theorem dX0_survey_15 : decode cX0_survey 15 = .ok (.iconst 0, 1) := by decide +kernel
theorem dX0_survey_16 : decode cX0_survey 16 = .ok (.istore_n 1, 1) := by decide +kernel
theorem dX0_survey_17 : decode cX0_survey 17 = .ok (.iconst 0, 1) := by decide +kernel
theorem dX0_survey_18 : decode cX0_survey 18 = .ok (.istore_n 2, 1) := by decide +kernel
theorem dX0_survey_19 : decode cX0_survey 19 = .ok (.iload_n 2, 1) := by decide +kernel
theorem dX0_survey_20 : decode cX0_survey 20 = .ok (.aload_n 0, 1) := by decide +kernel
theorem dX0_survey_21 : decode cX0_survey 21 = .ok (.getfield 15, 3) := by decide +kernel
theorem dX0_survey_24 : decode cX0_survey 24 = .ok (.if_icmp .ge 109, 3) := by decide +kernel
theorem dX0_survey_27 : decode cX0_survey 27 = .ok (.aload_n 0, 1) := by decide +kernel
theorem dX0_survey_28 : decode cX0_survey 28 = .ok (.iload_n 2, 1) := by decide +kernel
theorem dX0_survey_29 : decode cX0_survey 29 = .ok (.invokevirtual 38, 3) := by decide +kernel
theorem dX0_survey_32 : decode cX0_survey 32 = .ok (.iconst (-1), 1) := by decide +kernel
theorem dX0_survey_33 : decode cX0_survey 33 = .ok (.if_icmp .ne 13, 3) := by decide +kernel
theorem dX0_survey_36 : decode cX0_survey 36 = .ok (.aload_n 0, 1) := by decide +kernel
theorem dX0_survey_37 : decode cX0_survey 37 = .ok (.dup, 1) := by decide +kernel
theorem dX0_survey_38 : decode cX0_survey 38 = .ok (.getfield 52, 3) := by decide +kernel
theorem dX0_survey_41 : decode cX0_survey 41 = .ok (.iconst 1, 1) := by decide +kernel
theorem dX0_survey_42 : decode cX0_survey 42 = .ok (.iadd, 1) := by decide +kernel
theorem dX0_survey_43 : decode cX0_survey 43 = .ok (.putfield 52, 3) := by decide +kernel
theorem dX0_survey_46 : decode cX0_survey 46 = .ok (.iload_n 1, 1) := by decide +kernel
theorem dX0_survey_47 : decode cX0_survey 47 = .ok (.iload_n 2, 1) := by decide +kernel
theorem dX0_survey_48 : decode cX0_survey 48 = .ok (.ishr, 1) := by decide +kernel
theorem dX0_survey_49 : decode cX0_survey 49 = .ok (.iconst 1, 1) := by decide +kernel
theorem dX0_survey_50 : decode cX0_survey 50 = .ok (.iand, 1) := by decide +kernel
theorem dX0_survey_51 : decode cX0_survey 51 = .ok (.ifCond .ne 76, 3) := by decide +kernel
theorem dX0_survey_54 : decode cX0_survey 54 = .ok (.iload_n 2, 1) := by decide +kernel
theorem dX0_survey_55 : decode cX0_survey 55 = .ok (.istore_n 3, 1) := by decide +kernel
theorem dX0_survey_56 : decode cX0_survey 56 = .ok (.iconst 0, 1) := by decide +kernel
theorem dX0_survey_57 : decode cX0_survey 57 = .ok (.istore 4, 2) := by decide +kernel
theorem dX0_survey_59 : decode cX0_survey 59 = .ok (.iload 4, 2) := by decide +kernel
theorem dX0_survey_61 : decode cX0_survey 61 = .ok (.aload_n 0, 1) := by decide +kernel
theorem dX0_survey_62 : decode cX0_survey 62 = .ok (.getfield 15, 3) := by decide +kernel
theorem dX0_survey_65 : decode cX0_survey 65 = .ok (.if_icmp .ge 34, 3) := by decide +kernel
theorem dX0_survey_68 : decode cX0_survey 68 = .ok (.iload_n 3, 1) := by decide +kernel
theorem dX0_survey_69 : decode cX0_survey 69 = .ok (.iconst (-1), 1) := by decide +kernel
theorem dX0_survey_70 : decode cX0_survey 70 = .ok (.if_icmp .eq 29, 3) := by decide +kernel
theorem dX0_survey_73 : decode cX0_survey 73 = .ok (.iload_n 1, 1) := by decide +kernel
theorem dX0_survey_74 : decode cX0_survey 74 = .ok (.iload_n 3, 1) := by decide +kernel
theorem dX0_survey_75 : decode cX0_survey 75 = .ok (.ishr, 1) := by decide +kernel
theorem dX0_survey_76 : decode cX0_survey 76 = .ok (.iconst 1, 1) := by decide +kernel
theorem dX0_survey_77 : decode cX0_survey 77 = .ok (.iand, 1) := by decide +kernel
theorem dX0_survey_78 : decode cX0_survey 78 = .ok (.ifCond .ne 21, 3) := by decide +kernel
theorem dX0_survey_81 : decode cX0_survey 81 = .ok (.iload_n 1, 1) := by decide +kernel
theorem dX0_survey_82 : decode cX0_survey 82 = .ok (.iconst 1, 1) := by decide +kernel
theorem dX0_survey_83 : decode cX0_survey 83 = .ok (.iload_n 3, 1) := by decide +kernel
theorem dX0_survey_84 : decode cX0_survey 84 = .ok (.ishl, 1) := by decide +kernel
theorem dX0_survey_85 : decode cX0_survey 85 = .ok (.ior, 1) := by decide +kernel
theorem dX0_survey_86 : decode cX0_survey 86 = .ok (.istore_n 1, 1) := by decide +kernel
theorem dX0_survey_87 : decode cX0_survey 87 = .ok (.aload_n 0, 1) := by decide +kernel
theorem dX0_survey_88 : decode cX0_survey 88 = .ok (.iload_n 3, 1) := by decide +kernel
theorem dX0_survey_89 : decode cX0_survey 89 = .ok (.invokevirtual 38, 3) := by decide +kernel
theorem dX0_survey_92 : decode cX0_survey 92 = .ok (.istore_n 3, 1) := by decide +kernel
theorem dX0_survey_93 : decode cX0_survey 93 = .ok (.iinc 4 1, 3) := by decide +kernel
theorem dX0_survey_96 : decode cX0_survey 96 = .ok (.goto (-37), 3) := by decide +kernel
theorem dX0_survey_99 : decode cX0_survey 99 = .ok (.iload_n 3, 1) := by decide +kernel
theorem dX0_survey_100 : decode cX0_survey 100 = .ok (.iload_n 2, 1) := by decide +kernel
theorem dX0_survey_101 : decode cX0_survey 101 = .ok (.if_icmp .ne 26, 3) := by decide +kernel
theorem dX0_survey_104 : decode cX0_survey 104 = .ok (.aload_n 0, 1) := by decide +kernel
theorem dX0_survey_105 : decode cX0_survey 105 = .ok (.dup, 1) := by decide +kernel
theorem dX0_survey_106 : decode cX0_survey 106 = .ok (.getfield 46, 3) := by decide +kernel
theorem dX0_survey_109 : decode cX0_survey 109 = .ok (.iconst 1, 1) := by decide +kernel
theorem dX0_survey_110 : decode cX0_survey 110 = .ok (.iadd, 1) := by decide +kernel
theorem dX0_survey_111 : decode cX0_survey 111 = .ok (.putfield 46, 3) := by decide +kernel
theorem dX0_survey_114 : decode cX0_survey 114 = .ok (.aload_n 0, 1) := by decide +kernel
theorem dX0_survey_115 : decode cX0_survey 115 = .ok (.aload_n 0, 1) := by decide +kernel
theorem dX0_survey_116 : decode cX0_survey 116 = .ok (.getfield 49, 3) := by decide +kernel
theorem dX0_survey_119 : decode cX0_survey 119 = .ok (.iload 4, 2) := by decide +kernel
theorem dX0_survey_121 : decode cX0_survey 121 = .ok (.invokestatic 25, 3) := by decide +kernel
theorem dX0_survey_124 : decode cX0_survey 124 = .ok (.putfield 49, 3) := by decide +kernel
theorem dX0_survey_127 : decode cX0_survey 127 = .ok (.iinc 2 1, 3) := by decide +kernel
theorem dX0_survey_130 : decode cX0_survey 130 = .ok (.goto (-111), 3) := by decide +kernel
theorem dX0_survey_133 : decode cX0_survey 133 = .ok (.return_, 1) := by decide +kernel
set_option maxRecDepth 20000 in
theorem ggX0_advance_X0_at : GoodIn wsX0_advance wsX0_at := goodIn_r _ [6, 1, 7, 20, 21, 22, 23, 24] (by decide +kernel) (by decide +kernel)
set_option maxRecDepth 20000 in
theorem gX0_advance_X0_at : GoodIn wsX0_advance (wsV RX0 38 RX0 yX0_at wsX0_at) := goodIn_app (goodIn_of _ (by decide +kernel)) ggX0_advance_X0_at
set_option maxRecDepth 20000 in
theorem ggX0_advance_X0_change : GoodIn wsX0_advance wsX0_change := goodIn_r _ [11, 2, 3, 4, 5, 6, 1, 7, 12, 13, 14, 15, 16, 17, 18, 19, 20, 21, 22, 23, 24] (by decide +kernel) (by decide +kernel)
set_option maxRecDepth 20000 in
theorem gX0_advance_X0_change : GoodIn wsX0_advance (wsV RX0 55 RX0 yX0_change wsX0_change) := goodIn_app (goodIn_of _ (by decide +kernel)) ggX0_advance_X0_change
theorem dX0_advance_0 : decode cX0_advance 0 = .ok (.aload_n 0, 1) := by decide +kernel
theorem dX0_advance_1 : decode cX0_advance 1 = .ok (.getfield 15, 3) := by decide +kernel
theorem dX0_advance_4 : decode cX0_advance 4 = .ok (.iconst 2, 1) := by decide +kernel
theorem dX0_advance_5 : decode cX0_advance 5 = .ok (.isub, 1) := by decide +kernel
theorem dX0_advance_6 : decode cX0_advance 6 = .ok (.istore_n 1, 1) := by decide +kernel
theorem dX0_advance_7 : decode cX0_advance 7 = .ok (.iload_n 1, 1) := by decide +kernel
theorem dX0_advance_8 : decode cX0_advance 8 = .ok (.ifCond .lt 24, 3) := by decide +kernel
theorem dX0_advance_11 : decode cX0_advance 11 = .ok (.aload_n 0, 1) := by decide +kernel
theorem dX0_advance_12 : decode cX0_advance 12 = .ok (.iload_n 1, 1) := by decide +kernel
theorem dX0_advance_13 : decode cX0_advance 13 = .ok (.invokevirtual 38, 3) := by decide +kernel
theorem dX0_advance_16 : decode cX0_advance 16 = .ok (.aload_n 0, 1) := by decide +kernel
theorem dX0_advance_17 : decode cX0_advance 17 = .ok (.iload_n 1, 1) := by decide +kernel
theorem dX0_advance_18 : decode cX0_advance 18 = .ok (.iconst 1, 1) := by decide +kernel
theorem dX0_advance_19 : decode cX0_advance 19 = .ok (.iadd, 1) := by decide +kernel
theorem dX0_advance_20 : decode cX0_advance 20 = .ok (.invokevirtual 38, 3) := by decide +kernel
theorem dX0_advance_23 : decode cX0_advance 23 = .ok (.if_icmp .le 9, 3) := by decide +kernel
theorem dX0_advance_26 : decode cX0_advance 26 = .ok (.iinc 1 (-1), 3) := by decide +kernel
theorem dX0_advance_29 : decode cX0_advance 29 = .ok (.goto (-22), 3) := by decide +kernel
theorem dX0_advance_32 : decode cX0_advance 32 = .ok (.iload_n 1, 1) := by decide +kernel
theorem dX0_advance_33 : decode cX0_advance 33 = .ok (.ifCond .ge 4, 3) := by decide +kernel
theorem dX0_advance_36 : decode cX0_advance 36 = .ok (.return_, 1) := by decide +kernel
theorem dX0_advance_37 : decode cX0_advance 37 = .ok (.aload_n 0, 1) := by decide +kernel
theorem dX0_advance_38 : decode cX0_advance 38 = .ok (.getfield 15, 3) := by decide +kernel
theorem dX0_advance_41 : decode cX0_advance 41 = .ok (.iconst 1, 1) := by decide +kernel
theorem dX0_advance_42 : decode cX0_advance 42 = .ok (.isub, 1) := by decide +kernel
theorem dX0_advance_43 : decode cX0_advance 43 = .ok (.istore_n 2, 1) := by decide +kernel
theorem dX0_advance_44 : decode cX0_advance 44 = .ok (.iload_n 2, 1) := by decide +kernel
theorem dX0_advance_45 : decode cX0_advance 45 = .ok (.iload_n 1, 1) := by decide +kernel
theorem dX0_advance_46 : decode cX0_advance 46 = .ok (.if_icmp .le 22, 3) := by decide +kernel
theorem dX0_advance_49 : decode cX0_advance 49 = .ok (.aload_n 0, 1) := by decide +kernel
theorem dX0_advance_50 : decode cX0_advance 50 = .ok (.iload_n 2, 1) := by decide +kernel
theorem dX0_advance_51 : decode cX0_advance 51 = .ok (.invokevirtual 38, 3) := by decide +kernel
theorem dX0_advance_54 : decode cX0_advance 54 = .ok (.aload_n 0, 1) := by decide +kernel
theorem dX0_advance_55 : decode cX0_advance 55 = .ok (.iload_n 1, 1) := by decide +kernel
theorem dX0_advance_56 : decode cX0_advance 56 = .ok (.invokevirtual 38, 3) := by decide +kernel
theorem dX0_advance_59 : decode cX0_advance 59 = .ok (.if_icmp .ge 9, 3) := by decide +kernel
theorem dX0_advance_62 : decode cX0_advance 62 = .ok (.iinc 2 (-1), 3) := by decide +kernel
theorem dX0_advance_65 : decode cX0_advance 65 = .ok (.goto (-21), 3) := by decide +kernel
theorem dX0_advance_68 : decode cX0_advance 68 = .ok (.aload_n 0, 1) := by decide +kernel
theorem dX0_advance_69 : decode cX0_advance 69 = .ok (.iload_n 1, 1) := by decide +kernel
theorem dX0_advance_70 : decode cX0_advance 70 = .ok (.iload_n 2, 1) := by decide +kernel
theorem dX0_advance_71 : decode cX0_advance 71 = .ok (.invokevirtual 55, 3) := by decide +kernel
theorem dX0_advance_74 : decode cX0_advance 74 = .ok (.aload_n 0, 1) := by decide +kernel
theorem dX0_advance_75 : decode cX0_advance 75 = .ok (.getfield 15, 3) := by decide +kernel
theorem dX0_advance_78 : decode cX0_advance 78 = .ok (.iconst 1, 1) := by decide +kernel
theorem dX0_advance_79 : decode cX0_advance 79 = .ok (.isub, 1) := by decide +kernel
theorem dX0_advance_80 : decode cX0_advance 80 = .ok (.istore_n 3, 1) := by decide +kernel
theorem dX0_advance_81 : decode cX0_advance 81 = .ok (.iload_n 1, 1) := by decide +kernel
theorem dX0_advance_82 : decode cX0_advance 82 = .ok (.iconst 1, 1) := by decide +kernel
theorem dX0_advance_83 : decode cX0_advance 83 = .ok (.iadd, 1) := by decide +kernel
theorem dX0_advance_84 : decode cX0_advance 84 = .ok (.istore 4, 2) := by decide +kernel
theorem dX0_advance_86 : decode cX0_advance 86 = .ok (.iload 4, 2) := by decide +kernel
theorem dX0_advance_88 : decode cX0_advance 88 = .ok (.iload_n 3, 1) := by decide +kernel
theorem dX0_advance_89 : decode cX0_advance 89 = .ok (.if_icmp .ge 19, 3) := by decide +kernel
theorem dX0_advance_92 : decode cX0_advance 92 = .ok (.aload_n 0, 1) := by decide +kernel
theorem dX0_advance_93 : decode cX0_advance 93 = .ok (.iload 4, 2) := by decide +kernel
theorem dX0_advance_95 : decode cX0_advance 95 = .ok (.iload_n 3, 1) := by decide +kernel
theorem dX0_advance_96 : decode cX0_advance 96 = .ok (.invokevirtual 55, 3) := by decide +kernel
theorem dX0_advance_99 : decode cX0_advance 99 = .ok (.iinc 3 (-1), 3) := by decide +kernel
theorem dX0_advance_102 : decode cX0_advance 102 = .ok (.iinc 4 1, 3) := by decide +kernel
theorem dX0_advance_105 : decode cX0_advance 105 = .ok (.goto (-19), 3) := by decide +kernel
theorem dX0_advance_108 : decode cX0_advance 108 = .ok (.return_, 1) := by decide +kernel
set_option maxRecDepth 20000 in
theorem ggX0_digits_X0_at : GoodIn wsX0_digits wsX0_at := goodIn_r _ [6, 1, 7, 8, 9, 10, 11, 12] (by decide +kernel) (by decide +kernel)
set_option maxRecDepth 20000 in
theorem gX0_digits_X0_at : GoodIn wsX0_digits (wsV RX0 38 RX0 yX0_at wsX0_at) := goodIn_app (goodIn_of _ (by decide +kernel)) ggX0_digits_X0_at
theorem dX0_digits_0 : decode cX0_digits 0 = .ok (.iconst 0, 1) := by decide +kernel
theorem dX0_digits_1 : decode cX0_digits 1 = .ok (.istore_n 1, 1) := by decide +kernel
theorem dX0_digits_2 : decode cX0_digits 2 = .ok (.iconst 0, 1) := by decide +kernel
theorem dX0_digits_3 : decode cX0_digits 3 = .ok (.istore_n 2, 1) := by decide +kernel
theorem dX0_digits_4 : decode cX0_digits 4 = .ok (.iload_n 2, 1) := by decide +kernel
theorem dX0_digits_5 : decode cX0_digits 5 = .ok (.aload_n 0, 1) := by decide +kernel
theorem dX0_digits_6 : decode cX0_digits 6 = .ok (.getfield 15, 3) := by decide +kernel
theorem dX0_digits_9 : decode cX0_digits 9 = .ok (.if_icmp .ge 22, 3) := by decide +kernel
theorem dX0_digits_12 : decode cX0_digits 12 = .ok (.bipush 10, 2) := by decide +kernel
theorem dX0_digits_14 : decode cX0_digits 14 = .ok (.iload_n 1, 1) := by decide +kernel
theorem dX0_digits_15 : decode cX0_digits 15 = .ok (.imul, 1) := by decide +kernel
theorem dX0_digits_16 : decode cX0_digits 16 = .ok (.aload_n 0, 1) := by decide +kernel
theorem dX0_digits_17 : decode cX0_digits 17 = .ok (.iload_n 2, 1) := by decide +kernel
theorem dX0_digits_18 : decode cX0_digits 18 = .ok (.invokevirtual 38, 3) := by decide +kernel
theorem dX0_digits_21 : decode cX0_digits 21 = .ok (.iadd, 1) := by decide +kernel
theorem dX0_digits_22 : decode cX0_digits 22 = .ok (.iconst 1, 1) := by decide +kernel
theorem dX0_digits_23 : decode cX0_digits 23 = .ok (.iadd, 1) := by decide +kernel
theorem dX0_digits_24 : decode cX0_digits 24 = .ok (.istore_n 1, 1) := by decide +kernel
theorem dX0_digits_25 : decode cX0_digits 25 = .ok (.iinc 2 1, 3) := by decide +kernel
theorem dX0_digits_28 : decode cX0_digits 28 = .ok (.goto (-24), 3) := by decide +kernel
theorem dX0_digits_31 : decode cX0_digits 31 = .ok (.iload_n 1, 1) := by decide +kernel
theorem dX0_digits_32 : decode cX0_digits 32 = .ok (.ireturn, 1) := by decide +kernel
set_option maxRecDepth 20000 in
theorem ggX1_init_X4_init : GoodIn wsX1_init wsX4_init := goodIn_r _ [11, 12, 2, 3, 13, 14, 15, 16, 17, 18, 19, 20] (by decide +kernel) (by decide +kernel)
set_option maxRecDepth 20000 in
theorem gX1_init_X4_init_n11 : GoodIn wsX1_init (wsX4_init) := ggX1_init_X4_init
theorem dX1_init_0 : decode cX1_init 0 = .ok (.aload_n 0, 1) := by decide +kernel
theorem dX1_init_1 : decode cX1_init 1 = .ok (.invokespecial 3, 3) := by decide +kernel
theorem dX1_init_4 : decode cX1_init 4 = .ok (.aload_n 0, 1) := by decide +kernel
theorem dX1_init_5 : decode cX1_init 5 = .ok (.new 9, 3) := by decide +kernel
theorem dX1_init_8 : decode cX1_init 8 = .ok (.dup, 1) := by decide +kernel
theorem dX1_init_9 : decode cX1_init 9 = .ok (.invokespecial 11, 3) := by decide +kernel
theorem dX1_init_12 : decode cX1_init 12 = .ok (.putfield 12, 3) := by decide +kernel
theorem dX1_init_15 : decode cX1_init 15 = .ok (.aload_n 0, 1) := by decide +kernel
theorem dX1_init_16 : decode cX1_init 16 = .ok (.iload_n 1, 1) := by decide +kernel
theorem dX1_init_17 : decode cX1_init 17 = .ok (.putfield 18, 3) := by decide +kernel
theorem dX1_init_20 : decode cX1_init 20 = .ok (.aload_n 0, 1) := by decide +kernel
theorem dX1_init_21 : decode cX1_init 21 = .ok (.iload_n 2, 1) := by decide +kernel
theorem dX1_init_22 : decode cX1_init 22 = .ok (.putfield 22, 3) := by decide +kernel
theorem dX1_init_25 : decode cX1_init 25 = .ok (.return_, 1) := by decide +kernel
theorem dX1_isKind_0 : decode cX1_isKind 0 = .ok (.iload_n 0, 1) := by decide +kernel
theorem dX1_isKind_1 : decode cX1_isKind 1 = .ok (.ifCond .lt 12, 3) := by decide +kernel
theorem dX1_isKind_4 : decode cX1_isKind 4 = .ok (.iload_n 0, 1) := by decide +kernel
theorem dX1_isKind_5 : decode cX1_isKind 5 = .ok (.iconst 5, 1) := by decide +kernel
theorem dX1_isKind_6 : decode cX1_isKind 6 = .ok (.if_icmp .gt 7, 3) := by decide +kernel
theorem dX1_isKind_9 : decode cX1_isKind 9 = .ok (.iconst 1, 1) := by decide +kernel
theorem dX1_isKind_10 : decode cX1_isKind 10 = .ok (.goto 4, 3) := by decide +kernel
theorem dX1_isKind_13 : decode cX1_isKind 13 = .ok (.iconst 0, 1) := by decide +kernel
theorem dX1_isKind_14 : decode cX1_isKind 14 = .ok (.ireturn, 1) := by decide +kernel
set_option maxRecDepth 20000 in
theorem ggX1_isTakenFor_X1_isKind : GoodIn wsX1_isTakenFor wsX1_isKind := goodIn_r _ [6] (by decide +kernel) (by decide +kernel)
set_option maxRecDepth 20000 in
theorem gX1_isTakenFor_X1_isKind : GoodIn wsX1_isTakenFor (va_wsS RX1 29 yX1_isKind wsX1_isKind) := goodIn_app (goodIn_of _ (by decide +kernel)) ggX1_isTakenFor_X1_isKind
theorem dX1_isTakenFor_0 : decode cX1_isTakenFor 0 = .ok (.aload_n 0, 1) := by decide +kernel
theorem dX1_isTakenFor_1 : decode cX1_isTakenFor 1 = .ok (.getfield 18, 3) := by decide +kernel
theorem dX1_isTakenFor_4 : decode cX1_isTakenFor 4 = .ok (.istore_n 2, 1) := by decide +kernel
theorem dX1_isTakenFor_5 : decode cX1_isTakenFor 5 = .ok (.iconst 0, 1) := by decide +kernel
theorem dX1_isTakenFor_6 : decode cX1_isTakenFor 6 = .ok (.istore_n 3, 1) := by decide +kernel
theorem dX1_isTakenFor_7 : decode cX1_isTakenFor 7 = .ok (.iload_n 3, 1) := by decide +kernel
theorem dX1_isTakenFor_8 : decode cX1_isTakenFor 8 = .ok (.getstatic 25, 3) := by decide +kernel
theorem dX1_isTakenFor_11 : decode cX1_isTakenFor 11 = .ok (.arraylength, 1) := by decide +kernel
theorem dX1_isTakenFor_12 : decode cX1_isTakenFor 12 = .ok (.if_icmp .ge 29, 3) := by decide +kernel
theorem dX1_isTakenFor_15 : decode cX1_isTakenFor 15 = .ok (.iload_n 2, 1) := by decide +kernel
theorem dX1_isTakenFor_16 : decode cX1_isTakenFor 16 = .ok (.invokestatic 29, 3) := by decide +kernel
theorem dX1_isTakenFor_19 : decode cX1_isTakenFor 19 = .ok (.ifCond .eq 22, 3) := by decide +kernel
theorem dX1_isTakenFor_22 : decode cX1_isTakenFor 22 = .ok (.iload_n 2, 1) := by decide +kernel
theorem dX1_isTakenFor_23 : decode cX1_isTakenFor 23 = .ok (.iload_n 1, 1) := by decide +kernel
theorem dX1_isTakenFor_24 : decode cX1_isTakenFor 24 = .ok (.if_icmp .ne 5, 3) := by decide +kernel
theorem dX1_isTakenFor_27 : decode cX1_isTakenFor 27 = .ok (.iconst 1, 1) := by decide +kernel
theorem dX1_isTakenFor_28 : decode cX1_isTakenFor 28 = .ok (.ireturn, 1) := by decide +kernel
theorem dX1_isTakenFor_29 : decode cX1_isTakenFor 29 = .ok (.getstatic 25, 3) := by decide +kernel
theorem dX1_isTakenFor_32 : decode cX1_isTakenFor 32 = .ok (.iload_n 2, 1) := by decide +kernel
theorem dX1_isTakenFor_33 : decode cX1_isTakenFor 33 = .ok (.iaload, 1) := by decide +kernel
theorem dX1_isTakenFor_34 : decode cX1_isTakenFor 34 = .ok (.istore_n 2, 1) := by decide +kernel
theorem dX1_isTakenFor_35 : decode cX1_isTakenFor 35 = .ok (.iinc 3 1, 3) := by decide +kernel
theorem dX1_isTakenFor_38 : decode cX1_isTakenFor 38 = .ok (.goto (-31), 3) := by decide +kernel
theorem dX1_isTakenFor_41 : decode cX1_isTakenFor 41 = .ok (.iconst 0, 1) := by decide +kernel
theorem dX1_isTakenFor_42 : decode cX1_isTakenFor 42 = .ok (.ireturn, 1) := by decide +kernel
theorem dX1_firstBox_0 : decode cX1_firstBox 0 = .ok (.iload_n 2, 1) := by decide +kernel
theorem dX1_firstBox_1 : decode cX1_firstBox 1 = .ok (.iconst 1, 1) := by decide +kernel
theorem dX1_firstBox_2 : decode cX1_firstBox 2 = .ok (.if_icmp .ge 5, 3) := by decide +kernel
theorem dX1_firstBox_5 : decode cX1_firstBox 5 = .ok (.iconst 0, 1) := by decide +kernel
theorem dX1_firstBox_6 : decode cX1_firstBox 6 = .ok (.ireturn, 1) := by decide +kernel
theorem dX1_firstBox_7 : decode cX1_firstBox 7 = .ok (.aload_n 0, 1) := by decide +kernel
theorem dX1_firstBox_8 : decode cX1_firstBox 8 = .ok (.getfield 18, 3) := by decide +kernel
theorem dX1_firstBox_11 : decode cX1_firstBox 11 = .ok (.tableswitch 44 1 5 #[33, 42, 33, 42, 33], 33) := by decide +kernel
theorem dX1_firstBox_44 : decode cX1_firstBox 44 = .ok (.iload_n 1, 1) := by decide +kernel
theorem dX1_firstBox_45 : decode cX1_firstBox 45 = .ok (.aload_n 0, 1) := by decide +kernel
theorem dX1_firstBox_46 : decode cX1_firstBox 46 = .ok (.getfield 22, 3) := by decide +kernel
theorem dX1_firstBox_49 : decode cX1_firstBox 49 = .ok (.iadd, 1) := by decide +kernel
theorem dX1_firstBox_50 : decode cX1_firstBox 50 = .ok (.iload_n 2, 1) := by decide +kernel
theorem dX1_firstBox_51 : decode cX1_firstBox 51 = .ok (.irem, 1) := by decide +kernel
theorem dX1_firstBox_52 : decode cX1_firstBox 52 = .ok (.ireturn, 1) := by decide +kernel
theorem dX1_firstBox_53 : decode cX1_firstBox 53 = .ok (.iload_n 1, 1) := by decide +kernel
theorem dX1_firstBox_54 : decode cX1_firstBox 54 = .ok (.ireturn, 1) := by decide +kernel
theorem dX1_firstBox_55 : decode cX1_firstBox 55 = .ok (.iconst 0, 1) := by decide +kernel
theorem dX1_firstBox_56 : decode cX1_firstBox 56 = .ok (.ireturn, 1) := by decide +kernel
theorem dX1_boxBehind_0 : decode cX1_boxBehind 0 = .ok (.iload 4, 2) := by decide +kernel
theorem dX1_boxBehind_2 : decode cX1_boxBehind 2 = .ok (.iconst 1, 1) := by decide +kernel
theorem dX1_boxBehind_3 : decode cX1_boxBehind 3 = .ok (.if_icmp .ge 5, 3) := by decide +kernel
theorem dX1_boxBehind_6 : decode cX1_boxBehind 6 = .ok (.iconst 0, 1) := by decide +kernel
theorem dX1_boxBehind_7 : decode cX1_boxBehind 7 = .ok (.ireturn, 1) := by decide +kernel
theorem dX1_boxBehind_8 : decode cX1_boxBehind 8 = .ok (.iload_n 1, 1) := by decide +kernel
theorem dX1_boxBehind_9 : decode cX1_boxBehind 9 = .ok (.iconst 1, 1) := by decide +kernel
theorem dX1_boxBehind_10 : decode cX1_boxBehind 10 = .ok (.iadd, 1) := by decide +kernel
theorem dX1_boxBehind_11 : decode cX1_boxBehind 11 = .ok (.iload 4, 2) := by decide +kernel
theorem dX1_boxBehind_13 : decode cX1_boxBehind 13 = .ok (.irem, 1) := by decide +kernel
theorem dX1_boxBehind_14 : decode cX1_boxBehind 14 = .ok (.istore 5, 2) := by decide +kernel
theorem dX1_boxBehind_16 : decode cX1_boxBehind 16 = .ok (.aload_n 0, 1) := by decide +kernel
theorem dX1_boxBehind_17 : decode cX1_boxBehind 17 = .ok (.getfield 18, 3) := by decide +kernel
theorem dX1_boxBehind_20 : decode cX1_boxBehind 20 = .ok (.tableswitch 94 2 5 #[32, 44, 64, 84], 32) := by decide +kernel
theorem dX1_boxBehind_52 : decode cX1_boxBehind 52 = .ok (.iload_n 2, 1) := by decide +kernel
theorem dX1_boxBehind_53 : decode cX1_boxBehind 53 = .ok (.iconst (-1), 1) := by decide +kernel
theorem dX1_boxBehind_54 : decode cX1_boxBehind 54 = .ok (.if_icmp .ne 8, 3) := by decide +kernel
theorem dX1_boxBehind_57 : decode cX1_boxBehind 57 = .ok (.iload 5, 2) := by decide +kernel
theorem dX1_boxBehind_59 : decode cX1_boxBehind 59 = .ok (.goto 4, 3) := by decide +kernel
theorem dX1_boxBehind_62 : decode cX1_boxBehind 62 = .ok (.iload_n 2, 1) := by decide +kernel
theorem dX1_boxBehind_63 : decode cX1_boxBehind 63 = .ok (.ireturn, 1) := by decide +kernel
theorem dX1_boxBehind_64 : decode cX1_boxBehind 64 = .ok (.iload_n 2, 1) := by decide +kernel
theorem dX1_boxBehind_65 : decode cX1_boxBehind 65 = .ok (.iconst (-1), 1) := by decide +kernel
theorem dX1_boxBehind_66 : decode cX1_boxBehind 66 = .ok (.if_icmp .ne 8, 3) := by decide +kernel
theorem dX1_boxBehind_69 : decode cX1_boxBehind 69 = .ok (.iload 5, 2) := by decide +kernel
theorem dX1_boxBehind_71 : decode cX1_boxBehind 71 = .ok (.goto 12, 3) := by decide +kernel
theorem dX1_boxBehind_74 : decode cX1_boxBehind 74 = .ok (.iload_n 2, 1) := by decide +kernel
theorem dX1_boxBehind_75 : decode cX1_boxBehind 75 = .ok (.aload_n 0, 1) := by decide +kernel
theorem dX1_boxBehind_76 : decode cX1_boxBehind 76 = .ok (.getfield 22, 3) := by decide +kernel
theorem dX1_boxBehind_79 : decode cX1_boxBehind 79 = .ok (.iadd, 1) := by decide +kernel
theorem dX1_boxBehind_80 : decode cX1_boxBehind 80 = .ok (.iload 4, 2) := by decide +kernel
theorem dX1_boxBehind_82 : decode cX1_boxBehind 82 = .ok (.irem, 1) := by decide +kernel
theorem dX1_boxBehind_83 : decode cX1_boxBehind 83 = .ok (.ireturn, 1) := by decide +kernel
theorem dX1_boxBehind_84 : decode cX1_boxBehind 84 = .ok (.iload_n 2, 1) := by decide +kernel
theorem dX1_boxBehind_85 : decode cX1_boxBehind 85 = .ok (.iconst (-1), 1) := by decide +kernel
theorem dX1_boxBehind_86 : decode cX1_boxBehind 86 = .ok (.if_icmp .eq 11, 3) := by decide +kernel
theorem dX1_boxBehind_89 : decode cX1_boxBehind 89 = .ok (.iload_n 3, 1) := by decide +kernel
theorem dX1_boxBehind_90 : decode cX1_boxBehind 90 = .ok (.aload_n 0, 1) := by decide +kernel
theorem dX1_boxBehind_91 : decode cX1_boxBehind 91 = .ok (.getfield 22, 3) := by decide +kernel
theorem dX1_boxBehind_94 : decode cX1_boxBehind 94 = .ok (.if_icmp .ne 8, 3) := by decide +kernel
theorem dX1_boxBehind_97 : decode cX1_boxBehind 97 = .ok (.iload 5, 2) := by decide +kernel
theorem dX1_boxBehind_99 : decode cX1_boxBehind 99 = .ok (.goto 4, 3) := by decide +kernel
theorem dX1_boxBehind_102 : decode cX1_boxBehind 102 = .ok (.iload_n 2, 1) := by decide +kernel
theorem dX1_boxBehind_103 : decode cX1_boxBehind 103 = .ok (.ireturn, 1) := by decide +kernel
theorem dX1_boxBehind_104 : decode cX1_boxBehind 104 = .ok (.iload_n 1, 1) := by decide +kernel
theorem dX1_boxBehind_105 : decode cX1_boxBehind 105 = .ok (.iload 4, 2) := by decide +kernel
theorem dX1_boxBehind_107 : decode cX1_boxBehind 107 = .ok (.iadd, 1) := by decide +kernel
theorem dX1_boxBehind_108 : decode cX1_boxBehind 108 = .ok (.iconst 1, 1) := by decide +kernel
theorem dX1_boxBehind_109 : decode cX1_boxBehind 109 = .ok (.isub, 1) := by decide +kernel
theorem dX1_boxBehind_110 : decode cX1_boxBehind 110 = .ok (.iload 4, 2) := by decide +kernel
theorem dX1_boxBehind_112 : decode cX1_boxBehind 112 = .ok (.irem, 1) := by decide +kernel
theorem dX1_boxBehind_113 : decode cX1_boxBehind 113 = .ok (.ireturn, 1) := by decide +kernel
theorem dX1_boxBehind_114 : decode cX1_boxBehind 114 = .ok (.iload 5, 2) := by decide +kernel
theorem dX1_boxBehind_116 : decode cX1_boxBehind 116 = .ok (.ireturn, 1) := by decide +kernel
set_option maxRecDepth 20000 in
theorem ggX1_lookThatFinds_X1_firstBox : GoodIn wsX1_lookThatFinds wsX1_firstBox := goodIn_r _ [5, 6, 7, 24, 25, 26] (by decide +kernel) (by decide +kernel)
set_option maxRecDepth 20000 in
theorem gX1_lookThatFinds_X1_firstBox : GoodIn wsX1_lookThatFinds (wsV RX1 38 RX1 yX1_firstBox wsX1_firstBox) := goodIn_app (goodIn_of _ (by decide +kernel)) ggX1_lookThatFinds_X1_firstBox
set_option maxRecDepth 20000 in
theorem ggX1_lookThatFinds_X0_at : GoodIn wsX1_lookThatFinds wsX0_at := goodIn_r _ [12, 13, 14, 19, 20, 21, 22, 23] (by decide +kernel) (by decide +kernel)
set_option maxRecDepth 20000 in
theorem gX1_lookThatFinds_X0_at : GoodIn wsX1_lookThatFinds (wsV RX1 42 RX0 yX0_at wsX0_at) := goodIn_app (goodIn_of _ (by decide +kernel)) ggX1_lookThatFinds_X0_at
set_option maxRecDepth 20000 in
theorem ggX1_lookThatFinds_X1_boxBehind : GoodIn wsX1_lookThatFinds wsX1_boxBehind := goodIn_r _ [18, 6, 7, 24, 25, 26] (by decide +kernel) (by decide +kernel)
set_option maxRecDepth 20000 in
theorem gX1_lookThatFinds_X1_boxBehind : GoodIn wsX1_lookThatFinds (wsV RX1 46 RX1 yX1_boxBehind wsX1_boxBehind) := goodIn_app (goodIn_of _ (by decide +kernel)) ggX1_lookThatFinds_X1_boxBehind
theorem dX1_lookThatFinds_0 : decode cX1_lookThatFinds 0 = .ok (.aload_n 1, 1) := by decide +kernel
theorem dX1_lookThatFinds_1 : decode cX1_lookThatFinds 1 = .ok (.getfield 33, 3) := by decide +kernel
theorem dX1_lookThatFinds_4 : decode cX1_lookThatFinds 4 = .ok (.istore 4, 2) := by decide +kernel
theorem dX1_lookThatFinds_6 : decode cX1_lookThatFinds 6 = .ok (.aload_n 0, 1) := by decide +kernel
theorem dX1_lookThatFinds_7 : decode cX1_lookThatFinds 7 = .ok (.iload_n 2, 1) := by decide +kernel
theorem dX1_lookThatFinds_8 : decode cX1_lookThatFinds 8 = .ok (.iload 4, 2) := by decide +kernel
theorem dX1_lookThatFinds_10 : decode cX1_lookThatFinds 10 = .ok (.invokevirtual 38, 3) := by decide +kernel
theorem dX1_lookThatFinds_13 : decode cX1_lookThatFinds 13 = .ok (.istore 5, 2) := by decide +kernel
theorem dX1_lookThatFinds_15 : decode cX1_lookThatFinds 15 = .ok (.iconst 1, 1) := by decide +kernel
theorem dX1_lookThatFinds_16 : decode cX1_lookThatFinds 16 = .ok (.istore 6, 2) := by decide +kernel
theorem dX1_lookThatFinds_18 : decode cX1_lookThatFinds 18 = .ok (.iload 6, 2) := by decide +kernel
theorem dX1_lookThatFinds_20 : decode cX1_lookThatFinds 20 = .ok (.iload_n 3, 1) := by decide +kernel
theorem dX1_lookThatFinds_21 : decode cX1_lookThatFinds 21 = .ok (.if_icmp .gt 40, 3) := by decide +kernel
theorem dX1_lookThatFinds_24 : decode cX1_lookThatFinds 24 = .ok (.aload_n 1, 1) := by decide +kernel
theorem dX1_lookThatFinds_25 : decode cX1_lookThatFinds 25 = .ok (.iload 5, 2) := by decide +kernel
theorem dX1_lookThatFinds_27 : decode cX1_lookThatFinds 27 = .ok (.invokevirtual 42, 3) := by decide +kernel
theorem dX1_lookThatFinds_30 : decode cX1_lookThatFinds 30 = .ok (.istore 7, 2) := by decide +kernel
theorem dX1_lookThatFinds_32 : decode cX1_lookThatFinds 32 = .ok (.iload 7, 2) := by decide +kernel
theorem dX1_lookThatFinds_34 : decode cX1_lookThatFinds 34 = .ok (.iload_n 2, 1) := by decide +kernel
theorem dX1_lookThatFinds_35 : decode cX1_lookThatFinds 35 = .ok (.if_icmp .ne 6, 3) := by decide +kernel
theorem dX1_lookThatFinds_38 : decode cX1_lookThatFinds 38 = .ok (.iload 6, 2) := by decide +kernel
theorem dX1_lookThatFinds_40 : decode cX1_lookThatFinds 40 = .ok (.ireturn, 1) := by decide +kernel
theorem dX1_lookThatFinds_41 : decode cX1_lookThatFinds 41 = .ok (.aload_n 0, 1) := by decide +kernel
theorem dX1_lookThatFinds_42 : decode cX1_lookThatFinds 42 = .ok (.iload 5, 2) := by decide +kernel
theorem dX1_lookThatFinds_44 : decode cX1_lookThatFinds 44 = .ok (.iload 7, 2) := by decide +kernel
theorem dX1_lookThatFinds_46 : decode cX1_lookThatFinds 46 = .ok (.iload 6, 2) := by decide +kernel
theorem dX1_lookThatFinds_48 : decode cX1_lookThatFinds 48 = .ok (.iload 4, 2) := by decide +kernel
theorem dX1_lookThatFinds_50 : decode cX1_lookThatFinds 50 = .ok (.invokevirtual 46, 3) := by decide +kernel
theorem dX1_lookThatFinds_53 : decode cX1_lookThatFinds 53 = .ok (.istore 5, 2) := by decide +kernel
theorem dX1_lookThatFinds_55 : decode cX1_lookThatFinds 55 = .ok (.iinc 6 1, 3) := by decide +kernel
theorem dX1_lookThatFinds_58 : decode cX1_lookThatFinds 58 = .ok (.goto (-40), 3) := by decide +kernel
theorem dX1_lookThatFinds_61 : decode cX1_lookThatFinds 61 = .ok (.iconst 0, 1) := by decide +kernel
theorem dX1_lookThatFinds_62 : decode cX1_lookThatFinds 62 = .ok (.ireturn, 1) := by decide +kernel
theorem dX2_init_0 : decode cX2_init 0 = .ok (.aload_n 0, 1) := by decide +kernel
theorem dX2_init_1 : decode cX2_init 1 = .ok (.invokespecial 3, 3) := by decide +kernel
theorem dX2_init_4 : decode cX2_init 4 = .ok (.return_, 1) := by decide +kernel
set_option maxRecDepth 20000 in
theorem ggX2_readText_X6_clear : GoodIn wsX2_readText wsX6_clear := goodIn_r _ [10, 11, 144, 145, 146, 147, 148] (by decide +kernel) (by decide +kernel)
set_option maxRecDepth 20000 in
theorem gX2_readText_X6_clear : GoodIn wsX2_readText (wsV RX2 23 RX6 yX6_clear wsX6_clear) := goodIn_app (goodIn_of _ (by decide +kernel)) ggX2_readText_X6_clear
set_option maxRecDepth 20000 in
theorem ggX2_readText_X2_take : GoodIn wsX2_readText wsX2_take := goodIn_r _ [16, 3, 5, 1, 4, 17, 18, 19, 20, 21, 22, 23, 24, 25, 15, 26, 27, 28, 29, 30, 31, 32, 33, 34, 35, 36, 37, 38, 39, 40, 41, 42, 43, 44, 45, 46, 47, 48, 49, 50, 51, 52, 53, 54, 55, 56, 57, 58, 59, 60, 61, 62, 63, 64, 65, 66, 67, 68, 69, 70, 71, 72, 73, 74, 75, 76, 77, 78, 79, 80, 81, 82, 83, 84, 85, 86, 87, 88, 89, 90, 91, 92, 93, 94, 95, 96, 139, 140, 141, 142, 143, 149, 150] (by decide +kernel) (by decide +kernel)
set_option maxRecDepth 20000 in
theorem gX2_readText_X2_take : GoodIn wsX2_readText (wsV RX2 28 RX2 yX2_take wsX2_take) := goodIn_app (goodIn_of _ (by decide +kernel)) ggX2_readText_X2_take
set_option maxRecDepth 20000 in
theorem ggX2_readText_X2_readPart : GoodIn wsX2_readText wsX2_readPart := goodIn_r _ [100, 4, 2, 12, 13, 14, 15, 16, 3, 5, 1, 17, 18, 19, 20, 21, 22, 23, 24, 25, 26, 27, 28, 29, 30, 31, 32, 33, 34, 35, 36, 37, 38, 39, 40, 41, 42, 43, 44, 45, 46, 47, 48, 49, 50, 51, 52, 53, 54, 55, 56, 57, 58, 59, 60, 61, 62, 63, 64, 65, 66, 67, 68, 69, 70, 71, 72, 73, 74, 75, 76, 77, 78, 79, 80, 81, 82, 83, 84, 85, 86, 87, 88, 89, 90, 91, 92, 93, 94, 95, 96, 101, 102, 103, 104, 105, 106, 107, 108, 109, 110, 9, 111, 11, 112, 113, 114, 115, 116, 117, 118, 119, 120, 121, 122, 123, 124, 125, 126, 127, 128, 129, 130, 131, 132, 133, 134, 135, 136, 137, 138, 139, 140, 141, 142, 143, 149, 150, 144, 145, 146, 147, 148] (by decide +kernel) (by decide +kernel)
set_option maxRecDepth 20000 in
theorem gX2_readText_X2_readPart : GoodIn wsX2_readText (wsV RX2 33 RX2 yX2_readPart wsX2_readPart) := goodIn_app (goodIn_of _ (by decide +kernel)) ggX2_readText_X2_readPart
theorem dX2_readText_0 : decode cX2_readText 0 = .ok (.aload_n 0, 1) := by decide +kernel
theorem dX2_readText_1 : decode cX2_readText 1 = .ok (.aload_n 1, 1) := by decide +kernel
theorem dX2_readText_2 : decode cX2_readText 2 = .ok (.putfield 9, 3) := by decide +kernel
theorem dX2_readText_5 : decode cX2_readText 5 = .ok (.aload_n 0, 1) := by decide +kernel
theorem dX2_readText_6 : decode cX2_readText 6 = .ok (.aload_n 2, 1) := by decide +kernel
theorem dX2_readText_7 : decode cX2_readText 7 = .ok (.putfield 15, 3) := by decide +kernel
theorem dX2_readText_10 : decode cX2_readText 10 = .ok (.aload_n 0, 1) := by decide +kernel
theorem dX2_readText_11 : decode cX2_readText 11 = .ok (.iconst 0, 1) := by decide +kernel
theorem dX2_readText_12 : decode cX2_readText 12 = .ok (.putfield 19, 3) := by decide +kernel
theorem dX2_readText_15 : decode cX2_readText 15 = .ok (.aload_n 0, 1) := by decide +kernel
theorem dX2_readText_16 : decode cX2_readText 16 = .ok (.getfield 15, 3) := by decide +kernel
theorem dX2_readText_19 : decode cX2_readText 19 = .ok (.invokevirtual 23, 3) := by decide +kernel
theorem dX2_readText_22 : decode cX2_readText 22 = .ok (.aload_n 0, 1) := by decide +kernel
theorem dX2_readText_23 : decode cX2_readText 23 = .ok (.invokevirtual 28, 3) := by decide +kernel
theorem dX2_readText_26 : decode cX2_readText 26 = .ok (.aload_n 0, 1) := by decide +kernel
theorem dX2_readText_27 : decode cX2_readText 27 = .ok (.sipush 10006, 3) := by decide +kernel
theorem dX2_readText_30 : decode cX2_readText 30 = .ok (.iconst 0, 1) := by decide +kernel
theorem dX2_readText_31 : decode cX2_readText 31 = .ok (.invokevirtual 33, 3) := by decide +kernel
theorem dX2_readText_34 : decode cX2_readText 34 = .ok (.ifCond .eq 39, 3) := by decide +kernel
theorem dX2_readText_37 : decode cX2_readText 37 = .ok (.aload_n 0, 1) := by decide +kernel
theorem dX2_readText_38 : decode cX2_readText 38 = .ok (.sipush 10007, 3) := by decide +kernel
theorem dX2_readText_41 : decode cX2_readText 41 = .ok (.iconst 1, 1) := by decide +kernel
theorem dX2_readText_42 : decode cX2_readText 42 = .ok (.invokevirtual 33, 3) := by decide +kernel
theorem dX2_readText_45 : decode cX2_readText 45 = .ok (.ifCond .eq 28, 3) := by decide +kernel
theorem dX2_readText_48 : decode cX2_readText 48 = .ok (.aload_n 0, 1) := by decide +kernel
theorem dX2_readText_49 : decode cX2_readText 49 = .ok (.sipush 10008, 3) := by decide +kernel
theorem dX2_readText_52 : decode cX2_readText 52 = .ok (.iconst 2, 1) := by decide +kernel
theorem dX2_readText_53 : decode cX2_readText 53 = .ok (.invokevirtual 33, 3) := by decide +kernel
theorem dX2_readText_56 : decode cX2_readText 56 = .ok (.ifCond .eq 17, 3) := by decide +kernel
theorem dX2_readText_59 : decode cX2_readText 59 = .ok (.aload_n 0, 1) := by decide +kernel
theorem dX2_readText_60 : decode cX2_readText 60 = .ok (.getfield 37, 3) := by decide +kernel
theorem dX2_readText_63 : decode cX2_readText 63 = .ok (.sipush 10021, 3) := by decide +kernel
theorem dX2_readText_66 : decode cX2_readText 66 = .ok (.if_icmp .ne 7, 3) := by decide +kernel
theorem dX2_readText_69 : decode cX2_readText 69 = .ok (.iconst 1, 1) := by decide +kernel
theorem dX2_readText_70 : decode cX2_readText 70 = .ok (.goto 4, 3) := by decide +kernel
theorem dX2_readText_73 : decode cX2_readText 73 = .ok (.iconst 0, 1) := by decide +kernel
theorem dX2_readText_74 : decode cX2_readText 74 = .ok (.istore_n 3, 1) := by decide +kernel
theorem dX2_readText_75 : decode cX2_readText 75 = .ok (.iload_n 3, 1) := by decide +kernel
theorem dX2_readText_76 : decode cX2_readText 76 = .ok (.ifCond .eq 7, 3) := by decide +kernel
theorem dX2_readText_79 : decode cX2_readText 79 = .ok (.iconst (-1), 1) := by decide +kernel
theorem dX2_readText_80 : decode cX2_readText 80 = .ok (.goto 7, 3) := by decide +kernel
theorem dX2_readText_83 : decode cX2_readText 83 = .ok (.aload_n 0, 1) := by decide +kernel
theorem dX2_readText_84 : decode cX2_readText 84 = .ok (.getfield 40, 3) := by decide +kernel
theorem dX2_readText_87 : decode cX2_readText 87 = .ok (.ireturn, 1) := by decide +kernel
set_option maxRecDepth 20000 in
theorem ggX2_readPart_X2_take : GoodIn wsX2_readPart wsX2_take := goodIn_r _ [7, 8, 9, 10, 1, 11, 12, 13, 14, 15, 16, 17, 18, 19, 6, 20, 21, 22, 23, 24, 25, 26, 27, 28, 29, 30, 31, 32, 33, 34, 35, 36, 37, 38, 39, 40, 41, 42, 43, 44, 45, 46, 47, 48, 49, 50, 51, 52, 53, 54, 55, 56, 57, 58, 59, 60, 61, 62, 63, 64, 65, 66, 67, 68, 69, 70, 71, 72, 73, 74, 75, 76, 77, 78, 79, 80, 81, 82, 83, 84, 85, 86, 87, 88, 89, 90, 131, 132, 133, 134, 135, 136, 137] (by decide +kernel) (by decide +kernel)
set_option maxRecDepth 20000 in
theorem gX2_readPart_X2_take : GoodIn wsX2_readPart (wsV RX2 28 RX2 yX2_take wsX2_take) := goodIn_app (goodIn_of _ (by decide +kernel)) ggX2_readPart_X2_take
set_option maxRecDepth 20000 in
theorem ggX2_readPart_X2_readFormula : GoodIn wsX2_readPart wsX2_readFormula := goodIn_r _ [94, 1, 2, 95, 96, 97, 6, 3, 4, 5, 7, 8, 9, 10, 11, 12, 13, 14, 15, 16, 17, 18, 19, 20, 21, 22, 23, 24, 25, 26, 27, 28, 29, 30, 31, 32, 33, 34, 35, 36, 37, 38, 39, 40, 41, 42, 43, 44, 45, 46, 47, 48, 49, 50, 51, 52, 53, 54, 55, 56, 57, 58, 59, 60, 61, 62, 63, 64, 65, 66, 67, 68, 69, 70, 71, 72, 73, 74, 75, 76, 77, 78, 79, 80, 81, 82, 83, 84, 85, 86, 87, 88, 89, 90, 98, 99, 100, 101, 102, 103, 104, 105, 106, 107, 108, 109, 110, 111, 112, 113, 114, 115, 116, 117, 118, 119, 120, 91, 92, 93, 121, 122, 123, 124, 125, 131, 132, 133, 134, 135, 136, 137, 138, 139, 140, 141, 142] (by decide +kernel) (by decide +kernel)
set_option maxRecDepth 20000 in
theorem gX2_readPart_X2_readFormula : GoodIn wsX2_readPart (wsV RX2 43 RX2 yX2_readFormula wsX2_readFormula) := goodIn_app (goodIn_of _ (by decide +kernel)) ggX2_readPart_X2_readFormula
set_option maxRecDepth 20000 in
theorem ggX2_readPart_X6_endPart : GoodIn wsX2_readPart wsX6_endPart := goodIn_r _ [129, 130, 103, 138, 139, 140, 141, 142] (by decide +kernel) (by decide +kernel)
set_option maxRecDepth 20000 in
theorem gX2_readPart_X6_endPart : GoodIn wsX2_readPart (wsV RX2 47 RX6 yX6_endPart wsX6_endPart) := goodIn_app (goodIn_of _ (by decide +kernel)) ggX2_readPart_X6_endPart
theorem dX2_readPart_0 : decode cX2_readPart 0 = .ok (.aload_n 0, 1) := by decide +kernel
theorem dX2_readPart_1 : decode cX2_readPart 1 = .ok (.getfield 37, 3) := by decide +kernel
theorem dX2_readPart_4 : decode cX2_readPart 4 = .ok (.iload_n 1, 1) := by decide +kernel
theorem dX2_readPart_5 : decode cX2_readPart 5 = .ok (.if_icmp .eq 5, 3) := by decide +kernel
theorem dX2_readPart_8 : decode cX2_readPart 8 = .ok (.iconst 0, 1) := by decide +kernel
theorem dX2_readPart_9 : decode cX2_readPart 9 = .ok (.ireturn, 1) := by decide +kernel
theorem dX2_readPart_10 : decode cX2_readPart 10 = .ok (.aload_n 0, 1) := by decide +kernel
theorem dX2_readPart_11 : decode cX2_readPart 11 = .ok (.invokevirtual 28, 3) := by decide +kernel
theorem dX2_readPart_14 : decode cX2_readPart 14 = .ok (.aload_n 0, 1) := by decide +kernel
theorem dX2_readPart_15 : decode cX2_readPart 15 = .ok (.iconst 0, 1) := by decide +kernel
theorem dX2_readPart_16 : decode cX2_readPart 16 = .ok (.invokevirtual 43, 3) := by decide +kernel
theorem dX2_readPart_19 : decode cX2_readPart 19 = .ok (.ifCond .eq 13, 3) := by decide +kernel
theorem dX2_readPart_22 : decode cX2_readPart 22 = .ok (.aload_n 0, 1) := by decide +kernel
theorem dX2_readPart_23 : decode cX2_readPart 23 = .ok (.getfield 37, 3) := by decide +kernel
theorem dX2_readPart_26 : decode cX2_readPart 26 = .ok (.sipush 10014, 3) := by decide +kernel
theorem dX2_readPart_29 : decode cX2_readPart 29 = .ok (.if_icmp .eq 5, 3) := by decide +kernel
theorem dX2_readPart_32 : decode cX2_readPart 32 = .ok (.iconst 0, 1) := by decide +kernel
theorem dX2_readPart_33 : decode cX2_readPart 33 = .ok (.ireturn, 1) := by decide +kernel
theorem dX2_readPart_34 : decode cX2_readPart 34 = .ok (.aload_n 0, 1) := by decide +kernel
theorem dX2_readPart_35 : decode cX2_readPart 35 = .ok (.getfield 15, 3) := by decide +kernel
theorem dX2_readPart_38 : decode cX2_readPart 38 = .ok (.iload_n 2, 1) := by decide +kernel
theorem dX2_readPart_39 : decode cX2_readPart 39 = .ok (.invokevirtual 47, 3) := by decide +kernel
theorem dX2_readPart_42 : decode cX2_readPart 42 = .ok (.aload_n 0, 1) := by decide +kernel
theorem dX2_readPart_43 : decode cX2_readPart 43 = .ok (.invokevirtual 28, 3) := by decide +kernel
theorem dX2_readPart_46 : decode cX2_readPart 46 = .ok (.iconst 1, 1) := by decide +kernel
theorem dX2_readPart_47 : decode cX2_readPart 47 = .ok (.ireturn, 1) := by decide +kernel
set_option maxRecDepth 20000 in
theorem ggX2_readFormula_X2_readAnd : GoodIn wsX2_readFormula wsX2_readAnd := goodIn_r _ [101, 1, 2, 102, 103, 104, 6, 7, 8, 9, 10, 11, 12, 13, 14, 15, 16, 17, 18, 19, 20, 21, 22, 23, 24, 25, 26, 27, 28, 29, 30, 31, 32, 33, 34, 35, 36, 37, 38, 39, 40, 41, 42, 43, 44, 45, 46, 47, 48, 49, 50, 51, 52, 53, 54, 55, 56, 57, 58, 59, 60, 61, 62, 63, 64, 65, 66, 67, 68, 69, 70, 71, 72, 73, 74, 75, 76, 77, 78, 79, 80, 81, 82, 83, 84, 85, 86, 87, 88, 89, 90, 91, 92, 93, 94, 95, 96, 97, 98, 99, 100, 105, 106, 107, 108, 0, 3, 4, 5, 109, 110, 111, 112, 113, 114, 115, 116, 117, 118, 119, 120, 121, 122, 123, 124, 125, 126, 127, 128, 129, 130, 131, 132, 133, 134, 135, 136] (by decide +kernel) (by decide +kernel)
set_option maxRecDepth 20000 in
theorem gX2_readFormula_X2_readAnd : GoodIn wsX2_readFormula (wsV RX2 51 RX2 yX2_readAnd wsX2_readAnd) := goodIn_app (goodIn_of _ (by decide +kernel)) ggX2_readFormula_X2_readAnd
set_option maxRecDepth 20000 in
theorem ggX2_readFormula_X2_take : GoodIn wsX2_readFormula wsX2_take := goodIn_r _ [10, 11, 12, 13, 1, 14, 15, 16, 17, 18, 19, 20, 21, 22, 6, 23, 24, 25, 26, 27, 28, 29, 30, 31, 32, 33, 34, 35, 36, 37, 38, 39, 40, 41, 42, 43, 44, 45, 46, 47, 48, 49, 50, 51, 52, 53, 54, 55, 56, 57, 58, 59, 60, 61, 62, 63, 64, 65, 66, 67, 68, 69, 70, 71, 72, 73, 74, 75, 76, 77, 78, 79, 80, 81, 82, 83, 84, 85, 86, 87, 88, 89, 90, 91, 92, 93, 125, 126, 127, 128, 129, 130, 131] (by decide +kernel) (by decide +kernel)
set_option maxRecDepth 20000 in
theorem gX2_readFormula_X2_take : GoodIn wsX2_readFormula (wsV RX2 28 RX2 yX2_take wsX2_take) := goodIn_app (goodIn_of _ (by decide +kernel)) ggX2_readFormula_X2_take
set_option maxRecDepth 20000 in
theorem ggX2_readFormula_X6_add : GoodIn wsX2_readFormula wsX6_add := goodIn_r _ [98, 99, 100, 132, 133, 134, 135, 136] (by decide +kernel) (by decide +kernel)
set_option maxRecDepth 20000 in
theorem gX2_readFormula_X6_add : GoodIn wsX2_readFormula (wsV RX2 54 RX6 yX6_add wsX6_add) := goodIn_app (goodIn_of _ (by decide +kernel)) ggX2_readFormula_X6_add
theorem dX2_readFormula_0 : decode cX2_readFormula 0 = .ok (.aload_n 0, 1) := by decide +kernel
theorem dX2_readFormula_1 : decode cX2_readFormula 1 = .ok (.iload_n 1, 1) := by decide +kernel
theorem dX2_readFormula_2 : decode cX2_readFormula 2 = .ok (.invokevirtual 51, 3) := by decide +kernel
theorem dX2_readFormula_5 : decode cX2_readFormula 5 = .ok (.istore_n 2, 1) := by decide +kernel
theorem dX2_readFormula_6 : decode cX2_readFormula 6 = .ok (.iconst 0, 1) := by decide +kernel
theorem dX2_readFormula_7 : decode cX2_readFormula 7 = .ok (.istore_n 3, 1) := by decide +kernel
theorem dX2_readFormula_8 : decode cX2_readFormula 8 = .ok (.iload_n 3, 1) := by decide +kernel
theorem dX2_readFormula_9 : decode cX2_readFormula 9 = .ok (.sipush 160, 3) := by decide +kernel
theorem dX2_readFormula_12 : decode cX2_readFormula 12 = .ok (.if_icmp .ge 43, 3) := by decide +kernel
theorem dX2_readFormula_15 : decode cX2_readFormula 15 = .ok (.iload_n 2, 1) := by decide +kernel
theorem dX2_readFormula_16 : decode cX2_readFormula 16 = .ok (.ifCond .eq 39, 3) := by decide +kernel
theorem dX2_readFormula_19 : decode cX2_readFormula 19 = .ok (.aload_n 0, 1) := by decide +kernel
theorem dX2_readFormula_20 : decode cX2_readFormula 20 = .ok (.getfield 37, 3) := by decide +kernel
theorem dX2_readFormula_23 : decode cX2_readFormula 23 = .ok (.sipush 10009, 3) := by decide +kernel
theorem dX2_readFormula_26 : decode cX2_readFormula 26 = .ok (.if_icmp .ne 29, 3) := by decide +kernel
theorem dX2_readFormula_29 : decode cX2_readFormula 29 = .ok (.aload_n 0, 1) := by decide +kernel
theorem dX2_readFormula_30 : decode cX2_readFormula 30 = .ok (.invokevirtual 28, 3) := by decide +kernel
theorem dX2_readFormula_33 : decode cX2_readFormula 33 = .ok (.aload_n 0, 1) := by decide +kernel
theorem dX2_readFormula_34 : decode cX2_readFormula 34 = .ok (.iload_n 1, 1) := by decide +kernel
theorem dX2_readFormula_35 : decode cX2_readFormula 35 = .ok (.invokevirtual 51, 3) := by decide +kernel
theorem dX2_readFormula_38 : decode cX2_readFormula 38 = .ok (.istore_n 2, 1) := by decide +kernel
theorem dX2_readFormula_39 : decode cX2_readFormula 39 = .ok (.aload_n 0, 1) := by decide +kernel
theorem dX2_readFormula_40 : decode cX2_readFormula 40 = .ok (.getfield 15, 3) := by decide +kernel
theorem dX2_readFormula_43 : decode cX2_readFormula 43 = .ok (.sipush 10009, 3) := by decide +kernel
theorem dX2_readFormula_46 : decode cX2_readFormula 46 = .ok (.invokevirtual 54, 3) := by decide +kernel
theorem dX2_readFormula_49 : decode cX2_readFormula 49 = .ok (.iinc 3 1, 3) := by decide +kernel
theorem dX2_readFormula_52 : decode cX2_readFormula 52 = .ok (.goto (-44), 3) := by decide +kernel
theorem dX2_readFormula_55 : decode cX2_readFormula 55 = .ok (.iload_n 2, 1) := by decide +kernel
theorem dX2_readFormula_56 : decode cX2_readFormula 56 = .ok (.ireturn, 1) := by decide +kernel
set_option maxRecDepth 20000 in
theorem ggX2_readAnd_X2_readNot : GoodIn wsX2_readAnd wsX2_readNot := goodIn_r _ [109, 1, 2, 110, 111, 112, 6, 7, 8, 9, 10, 11, 12, 13, 14, 15, 16, 17, 18, 19, 20, 21, 22, 23, 24, 25, 26, 27, 28, 29, 30, 31, 32, 33, 34, 35, 36, 37, 38, 39, 40, 41, 42, 43, 44, 45, 46, 47, 48, 49, 50, 51, 52, 53, 54, 55, 56, 57, 58, 59, 60, 61, 62, 63, 64, 65, 66, 67, 68, 69, 70, 71, 72, 73, 74, 75, 76, 77, 78, 79, 80, 81, 82, 83, 84, 85, 86, 87, 88, 89, 90, 91, 92, 93, 3, 4, 5, 94, 95, 96, 97, 98, 99, 100, 0, 101, 102, 103, 104, 105, 106, 107, 108, 113, 114, 115, 116, 117, 118, 119, 120, 121, 122, 123, 124, 125, 126, 127, 128, 129, 130, 131, 132, 133, 134, 135, 136] (by decide +kernel) (by decide +kernel)
set_option maxRecDepth 20000 in
theorem gX2_readAnd_X2_readNot : GoodIn wsX2_readAnd (wsV RX2 57 RX2 yX2_readNot wsX2_readNot) := goodIn_app (goodIn_of _ (by decide +kernel)) ggX2_readAnd_X2_readNot
set_option maxRecDepth 20000 in
theorem ggX2_readAnd_X2_take : GoodIn wsX2_readAnd wsX2_take := goodIn_r _ [10, 11, 12, 13, 1, 14, 15, 16, 17, 18, 19, 20, 21, 22, 6, 23, 24, 25, 26, 27, 28, 29, 30, 31, 32, 33, 34, 35, 36, 37, 38, 39, 40, 41, 42, 43, 44, 45, 46, 47, 48, 49, 50, 51, 52, 53, 54, 55, 56, 57, 58, 59, 60, 61, 62, 63, 64, 65, 66, 67, 68, 69, 70, 71, 72, 73, 74, 75, 76, 77, 78, 79, 80, 81, 82, 83, 84, 85, 86, 87, 88, 89, 90, 91, 92, 93, 125, 126, 127, 128, 129, 130, 131] (by decide +kernel) (by decide +kernel)
set_option maxRecDepth 20000 in
theorem gX2_readAnd_X2_take : GoodIn wsX2_readAnd (wsV RX2 28 RX2 yX2_take wsX2_take) := goodIn_app (goodIn_of _ (by decide +kernel)) ggX2_readAnd_X2_take
set_option maxRecDepth 20000 in
theorem ggX2_readAnd_X6_add : GoodIn wsX2_readAnd wsX6_add := goodIn_r _ [98, 99, 100, 132, 133, 134, 135, 136] (by decide +kernel) (by decide +kernel)
set_option maxRecDepth 20000 in
theorem gX2_readAnd_X6_add : GoodIn wsX2_readAnd (wsV RX2 54 RX6 yX6_add wsX6_add) := goodIn_app (goodIn_of _ (by decide +kernel)) ggX2_readAnd_X6_add
theorem dX2_readAnd_0 : decode cX2_readAnd 0 = .ok (.aload_n 0, 1) := by decide +kernel
theorem dX2_readAnd_1 : decode cX2_readAnd 1 = .ok (.iload_n 1, 1) := by decide +kernel
theorem dX2_readAnd_2 : decode cX2_readAnd 2 = .ok (.invokevirtual 57, 3) := by decide +kernel
theorem dX2_readAnd_5 : decode cX2_readAnd 5 = .ok (.istore_n 2, 1) := by decide +kernel
theorem dX2_readAnd_6 : decode cX2_readAnd 6 = .ok (.iconst 0, 1) := by decide +kernel
theorem dX2_readAnd_7 : decode cX2_readAnd 7 = .ok (.istore_n 3, 1) := by decide +kernel
theorem dX2_readAnd_8 : decode cX2_readAnd 8 = .ok (.iload_n 3, 1) := by decide +kernel
theorem dX2_readAnd_9 : decode cX2_readAnd 9 = .ok (.sipush 160, 3) := by decide +kernel
theorem dX2_readAnd_12 : decode cX2_readAnd 12 = .ok (.if_icmp .ge 43, 3) := by decide +kernel
theorem dX2_readAnd_15 : decode cX2_readAnd 15 = .ok (.iload_n 2, 1) := by decide +kernel
theorem dX2_readAnd_16 : decode cX2_readAnd 16 = .ok (.ifCond .eq 39, 3) := by decide +kernel
theorem dX2_readAnd_19 : decode cX2_readAnd 19 = .ok (.aload_n 0, 1) := by decide +kernel
theorem dX2_readAnd_20 : decode cX2_readAnd 20 = .ok (.getfield 37, 3) := by decide +kernel
theorem dX2_readAnd_23 : decode cX2_readAnd 23 = .ok (.sipush 10010, 3) := by decide +kernel
theorem dX2_readAnd_26 : decode cX2_readAnd 26 = .ok (.if_icmp .ne 29, 3) := by decide +kernel
theorem dX2_readAnd_29 : decode cX2_readAnd 29 = .ok (.aload_n 0, 1) := by decide +kernel
theorem dX2_readAnd_30 : decode cX2_readAnd 30 = .ok (.invokevirtual 28, 3) := by decide +kernel
theorem dX2_readAnd_33 : decode cX2_readAnd 33 = .ok (.aload_n 0, 1) := by decide +kernel
theorem dX2_readAnd_34 : decode cX2_readAnd 34 = .ok (.iload_n 1, 1) := by decide +kernel
theorem dX2_readAnd_35 : decode cX2_readAnd 35 = .ok (.invokevirtual 57, 3) := by decide +kernel
theorem dX2_readAnd_38 : decode cX2_readAnd 38 = .ok (.istore_n 2, 1) := by decide +kernel
theorem dX2_readAnd_39 : decode cX2_readAnd 39 = .ok (.aload_n 0, 1) := by decide +kernel
theorem dX2_readAnd_40 : decode cX2_readAnd 40 = .ok (.getfield 15, 3) := by decide +kernel
theorem dX2_readAnd_43 : decode cX2_readAnd 43 = .ok (.sipush 10010, 3) := by decide +kernel
theorem dX2_readAnd_46 : decode cX2_readAnd 46 = .ok (.invokevirtual 54, 3) := by decide +kernel
theorem dX2_readAnd_49 : decode cX2_readAnd 49 = .ok (.iinc 3 1, 3) := by decide +kernel
theorem dX2_readAnd_52 : decode cX2_readAnd 52 = .ok (.goto (-44), 3) := by decide +kernel
theorem dX2_readAnd_55 : decode cX2_readAnd 55 = .ok (.iload_n 2, 1) := by decide +kernel
theorem dX2_readAnd_56 : decode cX2_readAnd 56 = .ok (.ireturn, 1) := by decide +kernel
set_option maxRecDepth 20000 in
theorem ggX2_readNot_X2_readComparison : GoodIn wsX2_readNot wsX2_readComparison := goodIn_r _ [105, 1, 2, 106, 107, 108, 6, 7, 8, 9, 10, 11, 12, 13, 14, 15, 16, 17, 18, 19, 20, 21, 22, 23, 24, 25, 26, 27, 28, 29, 30, 31, 32, 33, 34, 35, 36, 37, 38, 39, 40, 41, 42, 43, 44, 45, 46, 47, 48, 49, 50, 51, 52, 53, 54, 55, 56, 57, 58, 59, 60, 61, 62, 63, 64, 65, 66, 67, 68, 69, 70, 71, 72, 73, 74, 75, 76, 77, 78, 79, 80, 81, 82, 83, 84, 85, 86, 87, 88, 89, 90, 91, 92, 93, 97, 98, 99, 100, 101, 102, 103, 104, 94, 95, 96, 109, 110, 111, 112, 0, 3, 4, 5, 113, 114, 115, 116, 117, 118, 119, 120, 121, 122, 123, 124, 125, 126, 127, 128, 129, 130, 131, 132, 133, 134, 135, 136] (by decide +kernel) (by decide +kernel)
set_option maxRecDepth 20000 in
theorem gX2_readNot_X2_readComparison : GoodIn wsX2_readNot (wsV RX2 60 RX2 yX2_readComparison wsX2_readComparison) := goodIn_app (goodIn_of _ (by decide +kernel)) ggX2_readNot_X2_readComparison
set_option maxRecDepth 20000 in
theorem ggX2_readNot_X2_take : GoodIn wsX2_readNot wsX2_take := goodIn_r _ [10, 11, 12, 13, 1, 14, 15, 16, 17, 18, 19, 20, 21, 22, 6, 23, 24, 25, 26, 27, 28, 29, 30, 31, 32, 33, 34, 35, 36, 37, 38, 39, 40, 41, 42, 43, 44, 45, 46, 47, 48, 49, 50, 51, 52, 53, 54, 55, 56, 57, 58, 59, 60, 61, 62, 63, 64, 65, 66, 67, 68, 69, 70, 71, 72, 73, 74, 75, 76, 77, 78, 79, 80, 81, 82, 83, 84, 85, 86, 87, 88, 89, 90, 91, 92, 93, 125, 126, 127, 128, 129, 130, 131] (by decide +kernel) (by decide +kernel)
set_option maxRecDepth 20000 in
theorem gX2_readNot_X2_take : GoodIn wsX2_readNot (wsV RX2 28 RX2 yX2_take wsX2_take) := goodIn_app (goodIn_of _ (by decide +kernel)) ggX2_readNot_X2_take
set_option maxRecDepth 20000 in
theorem ggX2_readNot_X2_readNot : GoodIn wsX2_readNot wsX2_readNot := goodIn_r _ [0, 1, 2, 3, 4, 5, 6, 7, 8, 9, 10, 11, 12, 13, 14, 15, 16, 17, 18, 19, 20, 21, 22, 23, 24, 25, 26, 27, 28, 29, 30, 31, 32, 33, 34, 35, 36, 37, 38, 39, 40, 41, 42, 43, 44, 45, 46, 47, 48, 49, 50, 51, 52, 53, 54, 55, 56, 57, 58, 59, 60, 61, 62, 63, 64, 65, 66, 67, 68, 69, 70, 71, 72, 73, 74, 75, 76, 77, 78, 79, 80, 81, 82, 83, 84, 85, 86, 87, 88, 89, 90, 91, 92, 93, 94, 95, 96, 97, 98, 99, 100, 101, 102, 103, 104, 105, 106, 107, 108, 109, 110, 111, 112, 113, 114, 115, 116, 117, 118, 119, 120, 121, 122, 123, 124, 125, 126, 127, 128, 129, 130, 131, 132, 133, 134, 135, 136] (by decide +kernel) (by decide +kernel)
set_option maxRecDepth 20000 in
theorem gX2_readNot_X2_readNot : GoodIn wsX2_readNot (wsV RX2 57 RX2 yX2_readNot wsX2_readNot) := goodIn_app (goodIn_of _ (by decide +kernel)) ggX2_readNot_X2_readNot
set_option maxRecDepth 20000 in
theorem ggX2_readNot_X6_add : GoodIn wsX2_readNot wsX6_add := goodIn_r _ [101, 102, 103, 132, 133, 134, 135, 136] (by decide +kernel) (by decide +kernel)
set_option maxRecDepth 20000 in
theorem gX2_readNot_X6_add : GoodIn wsX2_readNot (wsV RX2 54 RX6 yX6_add wsX6_add) := goodIn_app (goodIn_of _ (by decide +kernel)) ggX2_readNot_X6_add
theorem dX2_readNot_0 : decode cX2_readNot 0 = .ok (.aload_n 0, 1) := by decide +kernel
theorem dX2_readNot_1 : decode cX2_readNot 1 = .ok (.getfield 37, 3) := by decide +kernel
theorem dX2_readNot_4 : decode cX2_readNot 4 = .ok (.sipush 10011, 3) := by decide +kernel
theorem dX2_readNot_7 : decode cX2_readNot 7 = .ok (.if_icmp .eq 9, 3) := by decide +kernel
theorem dX2_readNot_10 : decode cX2_readNot 10 = .ok (.aload_n 0, 1) := by decide +kernel
theorem dX2_readNot_11 : decode cX2_readNot 11 = .ok (.iload_n 1, 1) := by decide +kernel
theorem dX2_readNot_12 : decode cX2_readNot 12 = .ok (.invokevirtual 60, 3) := by decide +kernel
theorem dX2_readNot_15 : decode cX2_readNot 15 = .ok (.ireturn, 1) := by decide +kernel
theorem dX2_readNot_16 : decode cX2_readNot 16 = .ok (.iload_n 1, 1) := by decide +kernel
theorem dX2_readNot_17 : decode cX2_readNot 17 = .ok (.iconst 5, 1) := by decide +kernel
theorem dX2_readNot_18 : decode cX2_readNot 18 = .ok (.if_icmp .lt 5, 3) := by decide +kernel
theorem dX2_readNot_21 : decode cX2_readNot 21 = .ok (.iconst 0, 1) := by decide +kernel
theorem dX2_readNot_22 : decode cX2_readNot 22 = .ok (.ireturn, 1) := by decide +kernel
theorem dX2_readNot_23 : decode cX2_readNot 23 = .ok (.aload_n 0, 1) := by decide +kernel
theorem dX2_readNot_24 : decode cX2_readNot 24 = .ok (.invokevirtual 28, 3) := by decide +kernel
theorem dX2_readNot_27 : decode cX2_readNot 27 = .ok (.aload_n 0, 1) := by decide +kernel
theorem dX2_readNot_28 : decode cX2_readNot 28 = .ok (.iload_n 1, 1) := by decide +kernel
theorem dX2_readNot_29 : decode cX2_readNot 29 = .ok (.iconst 1, 1) := by decide +kernel
theorem dX2_readNot_30 : decode cX2_readNot 30 = .ok (.iadd, 1) := by decide +kernel
theorem dX2_readNot_31 : decode cX2_readNot 31 = .ok (.invokevirtual 57, 3) := by decide +kernel
theorem dX2_readNot_34 : decode cX2_readNot 34 = .ok (.istore_n 2, 1) := by decide +kernel
theorem dX2_readNot_35 : decode cX2_readNot 35 = .ok (.aload_n 0, 1) := by decide +kernel
theorem dX2_readNot_36 : decode cX2_readNot 36 = .ok (.getfield 15, 3) := by decide +kernel
theorem dX2_readNot_39 : decode cX2_readNot 39 = .ok (.sipush 10011, 3) := by decide +kernel
theorem dX2_readNot_42 : decode cX2_readNot 42 = .ok (.invokevirtual 54, 3) := by decide +kernel
theorem dX2_readNot_45 : decode cX2_readNot 45 = .ok (.iload_n 2, 1) := by decide +kernel
theorem dX2_readNot_46 : decode cX2_readNot 46 = .ok (.ireturn, 1) := by decide +kernel
set_option maxRecDepth 20000 in
theorem ggX2_readComparison_X2_readSum : GoodIn wsX2_readComparison wsX2_readSum := goodIn_r _ [120, 1, 2, 121, 122, 123, 6, 7, 8, 9, 10, 11, 12, 13, 14, 15, 16, 17, 18, 19, 20, 21, 22, 23, 24, 25, 26, 27, 28, 29, 30, 31, 32, 33, 34, 35, 36, 37, 38, 39, 40, 41, 42, 43, 44, 45, 46, 47, 48, 49, 50, 51, 52, 53, 54, 55, 56, 57, 58, 59, 60, 61, 62, 63, 64, 65, 66, 67, 68, 69, 70, 71, 72, 73, 74, 75, 76, 77, 78, 79, 80, 81, 82, 83, 84, 85, 86, 87, 88, 89, 90, 91, 92, 93, 94, 95, 96, 97, 98, 99, 100, 101, 102, 103, 104, 0, 3, 4, 5, 105, 106, 107, 108, 109, 110, 111, 112, 113, 114, 115, 116, 117, 118, 119, 124, 125, 126, 127, 128, 129, 130, 131, 132, 133, 134, 135, 136] (by decide +kernel) (by decide +kernel)
set_option maxRecDepth 20000 in
theorem gX2_readComparison_X2_readSum : GoodIn wsX2_readComparison (wsV RX2 63 RX2 yX2_readSum wsX2_readSum) := goodIn_app (goodIn_of _ (by decide +kernel)) ggX2_readComparison_X2_readSum
set_option maxRecDepth 20000 in
theorem ggX2_readComparison_X2_take : GoodIn wsX2_readComparison wsX2_take := goodIn_r _ [10, 11, 12, 13, 1, 14, 15, 16, 17, 18, 19, 20, 21, 22, 6, 23, 24, 25, 26, 27, 28, 29, 30, 31, 32, 33, 34, 35, 36, 37, 38, 39, 40, 41, 42, 43, 44, 45, 46, 47, 48, 49, 50, 51, 52, 53, 54, 55, 56, 57, 58, 59, 60, 61, 62, 63, 64, 65, 66, 67, 68, 69, 70, 71, 72, 73, 74, 75, 76, 77, 78, 79, 80, 81, 82, 83, 84, 85, 86, 87, 88, 89, 90, 91, 92, 93, 125, 126, 127, 128, 129, 130, 131] (by decide +kernel) (by decide +kernel)
set_option maxRecDepth 20000 in
theorem gX2_readComparison_X2_take : GoodIn wsX2_readComparison (wsV RX2 28 RX2 yX2_take wsX2_take) := goodIn_app (goodIn_of _ (by decide +kernel)) ggX2_readComparison_X2_take
set_option maxRecDepth 20000 in
theorem ggX2_readComparison_X6_add : GoodIn wsX2_readComparison wsX6_add := goodIn_r _ [98, 99, 100, 132, 133, 134, 135, 136] (by decide +kernel) (by decide +kernel)
set_option maxRecDepth 20000 in
theorem gX2_readComparison_X6_add : GoodIn wsX2_readComparison (wsV RX2 54 RX6 yX6_add wsX6_add) := goodIn_app (goodIn_of _ (by decide +kernel)) ggX2_readComparison_X6_add
theorem dX2_readComparison_0 : decode cX2_readComparison 0 = .ok (.aload_n 0, 1) := by decide +kernel
theorem dX2_readComparison_1 : decode cX2_readComparison 1 = .ok (.iload_n 1, 1) := by decide +kernel
theorem dX2_readComparison_2 : decode cX2_readComparison 2 = .ok (.invokevirtual 63, 3) := by decide +kernel
theorem dX2_readComparison_5 : decode cX2_readComparison 5 = .ok (.istore_n 2, 1) := by decide +kernel
theorem dX2_readComparison_6 : decode cX2_readComparison 6 = .ok (.iload_n 2, 1) := by decide +kernel
theorem dX2_readComparison_7 : decode cX2_readComparison 7 = .ok (.ifCond .eq 46, 3) := by decide +kernel
theorem dX2_readComparison_10 : decode cX2_readComparison 10 = .ok (.aload_n 0, 1) := by decide +kernel
theorem dX2_readComparison_11 : decode cX2_readComparison 11 = .ok (.getfield 37, 3) := by decide +kernel
theorem dX2_readComparison_14 : decode cX2_readComparison 14 = .ok (.sipush 10018, 3) := by decide +kernel
theorem dX2_readComparison_17 : decode cX2_readComparison 17 = .ok (.if_icmp .eq 13, 3) := by decide +kernel
theorem dX2_readComparison_20 : decode cX2_readComparison 20 = .ok (.aload_n 0, 1) := by decide +kernel
theorem dX2_readComparison_21 : decode cX2_readComparison 21 = .ok (.getfield 37, 3) := by decide +kernel
theorem dX2_readComparison_24 : decode cX2_readComparison 24 = .ok (.sipush 10019, 3) := by decide +kernel
theorem dX2_readComparison_27 : decode cX2_readComparison 27 = .ok (.if_icmp .ne 26, 3) := by decide +kernel
theorem dX2_readComparison_30 : decode cX2_readComparison 30 = .ok (.aload_n 0, 1) := by decide +kernel
theorem dX2_readComparison_31 : decode cX2_readComparison 31 = .ok (.getfield 37, 3) := by decide +kernel
theorem dX2_readComparison_34 : decode cX2_readComparison 34 = .ok (.istore_n 3, 1) := by decide +kernel
theorem dX2_readComparison_35 : decode cX2_readComparison 35 = .ok (.aload_n 0, 1) := by decide +kernel
theorem dX2_readComparison_36 : decode cX2_readComparison 36 = .ok (.invokevirtual 28, 3) := by decide +kernel
theorem dX2_readComparison_39 : decode cX2_readComparison 39 = .ok (.aload_n 0, 1) := by decide +kernel
theorem dX2_readComparison_40 : decode cX2_readComparison 40 = .ok (.iload_n 1, 1) := by decide +kernel
theorem dX2_readComparison_41 : decode cX2_readComparison 41 = .ok (.invokevirtual 63, 3) := by decide +kernel
theorem dX2_readComparison_44 : decode cX2_readComparison 44 = .ok (.istore_n 2, 1) := by decide +kernel
theorem dX2_readComparison_45 : decode cX2_readComparison 45 = .ok (.aload_n 0, 1) := by decide +kernel
theorem dX2_readComparison_46 : decode cX2_readComparison 46 = .ok (.getfield 15, 3) := by decide +kernel
theorem dX2_readComparison_49 : decode cX2_readComparison 49 = .ok (.iload_n 3, 1) := by decide +kernel
theorem dX2_readComparison_50 : decode cX2_readComparison 50 = .ok (.invokevirtual 54, 3) := by decide +kernel
theorem dX2_readComparison_53 : decode cX2_readComparison 53 = .ok (.iload_n 2, 1) := by decide +kernel
theorem dX2_readComparison_54 : decode cX2_readComparison 54 = .ok (.ireturn, 1) := by decide +kernel
set_option maxRecDepth 20000 in
theorem ggX2_readSum_X2_readTerm : GoodIn wsX2_readSum wsX2_readTerm := goodIn_r _ [124, 1, 2, 118, 119, 120, 6, 7, 8, 9, 10, 11, 12, 13, 14, 15, 16, 17, 18, 19, 20, 21, 22, 23, 24, 25, 26, 27, 28, 29, 30, 31, 32, 33, 34, 35, 36, 37, 38, 39, 40, 41, 42, 43, 44, 45, 46, 47, 48, 49, 50, 51, 52, 53, 54, 55, 56, 57, 58, 59, 60, 61, 62, 63, 64, 65, 66, 67, 68, 69, 70, 71, 72, 73, 74, 75, 76, 77, 78, 79, 80, 81, 82, 83, 84, 85, 86, 87, 88, 89, 90, 91, 92, 93, 94, 95, 96, 97, 98, 99, 100, 101, 102, 103, 104, 105, 106, 107, 108, 109, 110, 111, 112, 113, 114, 115, 116, 117, 121, 122, 123, 0, 3, 4, 5, 125, 126, 127, 128, 129, 130, 131, 132, 133, 134, 135, 136] (by decide +kernel) (by decide +kernel)
set_option maxRecDepth 20000 in
theorem gX2_readSum_X2_readTerm : GoodIn wsX2_readSum (wsV RX2 66 RX2 yX2_readTerm wsX2_readTerm) := goodIn_app (goodIn_of _ (by decide +kernel)) ggX2_readSum_X2_readTerm
set_option maxRecDepth 20000 in
theorem ggX2_readSum_X2_take : GoodIn wsX2_readSum wsX2_take := goodIn_r _ [10, 11, 12, 13, 1, 14, 15, 16, 17, 18, 19, 20, 21, 22, 6, 23, 24, 25, 26, 27, 28, 29, 30, 31, 32, 33, 34, 35, 36, 37, 38, 39, 40, 41, 42, 43, 44, 45, 46, 47, 48, 49, 50, 51, 52, 53, 54, 55, 56, 57, 58, 59, 60, 61, 62, 63, 64, 65, 66, 67, 68, 69, 70, 71, 72, 73, 74, 75, 76, 77, 78, 79, 80, 81, 82, 83, 84, 85, 86, 87, 88, 89, 90, 91, 92, 93, 125, 126, 127, 128, 129, 130, 131] (by decide +kernel) (by decide +kernel)
set_option maxRecDepth 20000 in
theorem gX2_readSum_X2_take : GoodIn wsX2_readSum (wsV RX2 28 RX2 yX2_take wsX2_take) := goodIn_app (goodIn_of _ (by decide +kernel)) ggX2_readSum_X2_take
set_option maxRecDepth 20000 in
theorem ggX2_readSum_X6_add : GoodIn wsX2_readSum wsX6_add := goodIn_r _ [98, 99, 100, 132, 133, 134, 135, 136] (by decide +kernel) (by decide +kernel)
set_option maxRecDepth 20000 in
theorem gX2_readSum_X6_add : GoodIn wsX2_readSum (wsV RX2 54 RX6 yX6_add wsX6_add) := goodIn_app (goodIn_of _ (by decide +kernel)) ggX2_readSum_X6_add
theorem dX2_readSum_0 : decode cX2_readSum 0 = .ok (.aload_n 0, 1) := by decide +kernel
theorem dX2_readSum_1 : decode cX2_readSum 1 = .ok (.iload_n 1, 1) := by decide +kernel
theorem dX2_readSum_2 : decode cX2_readSum 2 = .ok (.invokevirtual 66, 3) := by decide +kernel
theorem dX2_readSum_5 : decode cX2_readSum 5 = .ok (.istore_n 2, 1) := by decide +kernel
theorem dX2_readSum_6 : decode cX2_readSum 6 = .ok (.iconst 0, 1) := by decide +kernel
theorem dX2_readSum_7 : decode cX2_readSum 7 = .ok (.istore_n 3, 1) := by decide +kernel
theorem dX2_readSum_8 : decode cX2_readSum 8 = .ok (.iload_n 3, 1) := by decide +kernel
theorem dX2_readSum_9 : decode cX2_readSum 9 = .ok (.sipush 160, 3) := by decide +kernel
theorem dX2_readSum_12 : decode cX2_readSum 12 = .ok (.if_icmp .ge 58, 3) := by decide +kernel
theorem dX2_readSum_15 : decode cX2_readSum 15 = .ok (.iload_n 2, 1) := by decide +kernel
theorem dX2_readSum_16 : decode cX2_readSum 16 = .ok (.ifCond .eq 54, 3) := by decide +kernel
theorem dX2_readSum_19 : decode cX2_readSum 19 = .ok (.aload_n 0, 1) := by decide +kernel
theorem dX2_readSum_20 : decode cX2_readSum 20 = .ok (.getfield 37, 3) := by decide +kernel
theorem dX2_readSum_23 : decode cX2_readSum 23 = .ok (.sipush 10015, 3) := by decide +kernel
theorem dX2_readSum_26 : decode cX2_readSum 26 = .ok (.if_icmp .eq 13, 3) := by decide +kernel
theorem dX2_readSum_29 : decode cX2_readSum 29 = .ok (.aload_n 0, 1) := by decide +kernel
theorem dX2_readSum_30 : decode cX2_readSum 30 = .ok (.getfield 37, 3) := by decide +kernel
theorem dX2_readSum_33 : decode cX2_readSum 33 = .ok (.sipush 10016, 3) := by decide +kernel
theorem dX2_readSum_36 : decode cX2_readSum 36 = .ok (.if_icmp .ne 34, 3) := by decide +kernel
theorem dX2_readSum_39 : decode cX2_readSum 39 = .ok (.aload_n 0, 1) := by decide +kernel
theorem dX2_readSum_40 : decode cX2_readSum 40 = .ok (.getfield 37, 3) := by decide +kernel
theorem dX2_readSum_43 : decode cX2_readSum 43 = .ok (.istore 4, 2) := by decide +kernel
theorem dX2_readSum_45 : decode cX2_readSum 45 = .ok (.aload_n 0, 1) := by decide +kernel
theorem dX2_readSum_46 : decode cX2_readSum 46 = .ok (.invokevirtual 28, 3) := by decide +kernel
theorem dX2_readSum_49 : decode cX2_readSum 49 = .ok (.aload_n 0, 1) := by decide +kernel
theorem dX2_readSum_50 : decode cX2_readSum 50 = .ok (.iload_n 1, 1) := by decide +kernel
theorem dX2_readSum_51 : decode cX2_readSum 51 = .ok (.invokevirtual 66, 3) := by decide +kernel
theorem dX2_readSum_54 : decode cX2_readSum 54 = .ok (.istore_n 2, 1) := by decide +kernel
theorem dX2_readSum_55 : decode cX2_readSum 55 = .ok (.aload_n 0, 1) := by decide +kernel
theorem dX2_readSum_56 : decode cX2_readSum 56 = .ok (.getfield 15, 3) := by decide +kernel
theorem dX2_readSum_59 : decode cX2_readSum 59 = .ok (.iload 4, 2) := by decide +kernel
theorem dX2_readSum_61 : decode cX2_readSum 61 = .ok (.invokevirtual 54, 3) := by decide +kernel
theorem dX2_readSum_64 : decode cX2_readSum 64 = .ok (.iinc 3 1, 3) := by decide +kernel
theorem dX2_readSum_67 : decode cX2_readSum 67 = .ok (.goto (-59), 3) := by decide +kernel
theorem dX2_readSum_70 : decode cX2_readSum 70 = .ok (.iload_n 2, 1) := by decide +kernel
theorem dX2_readSum_71 : decode cX2_readSum 71 = .ok (.ireturn, 1) := by decide +kernel
set_option maxRecDepth 20000 in
theorem ggX2_readTerm_X2_readOne : GoodIn wsX2_readTerm wsX2_readOne := goodIn_r _ [117, 1, 2, 94, 95, 96, 97, 98, 99, 100, 7, 8, 9, 6, 10, 11, 12, 13, 14, 15, 16, 17, 18, 19, 20, 21, 22, 23, 24, 25, 26, 27, 28, 29, 30, 31, 32, 33, 34, 35, 36, 37, 38, 39, 40, 41, 42, 43, 44, 45, 46, 47, 48, 49, 50, 51, 52, 53, 54, 55, 56, 57, 58, 59, 60, 61, 62, 63, 64, 65, 66, 67, 68, 69, 70, 71, 72, 73, 74, 75, 76, 77, 78, 79, 80, 81, 82, 83, 84, 85, 86, 87, 88, 89, 90, 91, 92, 93, 3, 4, 5, 118, 119, 120, 101, 102, 103, 104, 105, 106, 107, 108, 109, 110, 111, 112, 113, 114, 115, 116, 121, 122, 123, 124, 0, 125, 126, 127, 128, 129, 130, 131, 132, 133, 134, 135, 136] (by decide +kernel) (by decide +kernel)
set_option maxRecDepth 20000 in
theorem gX2_readTerm_X2_readOne : GoodIn wsX2_readTerm (wsV RX2 69 RX2 yX2_readOne wsX2_readOne) := goodIn_app (goodIn_of _ (by decide +kernel)) ggX2_readTerm_X2_readOne
set_option maxRecDepth 20000 in
theorem ggX2_readTerm_X2_take : GoodIn wsX2_readTerm wsX2_take := goodIn_r _ [10, 11, 12, 13, 1, 14, 15, 16, 17, 18, 19, 20, 21, 22, 6, 23, 24, 25, 26, 27, 28, 29, 30, 31, 32, 33, 34, 35, 36, 37, 38, 39, 40, 41, 42, 43, 44, 45, 46, 47, 48, 49, 50, 51, 52, 53, 54, 55, 56, 57, 58, 59, 60, 61, 62, 63, 64, 65, 66, 67, 68, 69, 70, 71, 72, 73, 74, 75, 76, 77, 78, 79, 80, 81, 82, 83, 84, 85, 86, 87, 88, 89, 90, 91, 92, 93, 125, 126, 127, 128, 129, 130, 131] (by decide +kernel) (by decide +kernel)
set_option maxRecDepth 20000 in
theorem gX2_readTerm_X2_take : GoodIn wsX2_readTerm (wsV RX2 28 RX2 yX2_take wsX2_take) := goodIn_app (goodIn_of _ (by decide +kernel)) ggX2_readTerm_X2_take
set_option maxRecDepth 20000 in
theorem ggX2_readTerm_X6_add : GoodIn wsX2_readTerm wsX6_add := goodIn_r _ [98, 99, 100, 132, 133, 134, 135, 136] (by decide +kernel) (by decide +kernel)
set_option maxRecDepth 20000 in
theorem gX2_readTerm_X6_add : GoodIn wsX2_readTerm (wsV RX2 54 RX6 yX6_add wsX6_add) := goodIn_app (goodIn_of _ (by decide +kernel)) ggX2_readTerm_X6_add
theorem dX2_readTerm_0 : decode cX2_readTerm 0 = .ok (.aload_n 0, 1) := by decide +kernel
theorem dX2_readTerm_1 : decode cX2_readTerm 1 = .ok (.iload_n 1, 1) := by decide +kernel
theorem dX2_readTerm_2 : decode cX2_readTerm 2 = .ok (.invokevirtual 69, 3) := by decide +kernel
theorem dX2_readTerm_5 : decode cX2_readTerm 5 = .ok (.istore_n 2, 1) := by decide +kernel
theorem dX2_readTerm_6 : decode cX2_readTerm 6 = .ok (.iconst 0, 1) := by decide +kernel
theorem dX2_readTerm_7 : decode cX2_readTerm 7 = .ok (.istore_n 3, 1) := by decide +kernel
theorem dX2_readTerm_8 : decode cX2_readTerm 8 = .ok (.iload_n 3, 1) := by decide +kernel
theorem dX2_readTerm_9 : decode cX2_readTerm 9 = .ok (.sipush 160, 3) := by decide +kernel
theorem dX2_readTerm_12 : decode cX2_readTerm 12 = .ok (.if_icmp .ge 43, 3) := by decide +kernel
theorem dX2_readTerm_15 : decode cX2_readTerm 15 = .ok (.iload_n 2, 1) := by decide +kernel
theorem dX2_readTerm_16 : decode cX2_readTerm 16 = .ok (.ifCond .eq 39, 3) := by decide +kernel
theorem dX2_readTerm_19 : decode cX2_readTerm 19 = .ok (.aload_n 0, 1) := by decide +kernel
theorem dX2_readTerm_20 : decode cX2_readTerm 20 = .ok (.getfield 37, 3) := by decide +kernel
theorem dX2_readTerm_23 : decode cX2_readTerm 23 = .ok (.sipush 10017, 3) := by decide +kernel
theorem dX2_readTerm_26 : decode cX2_readTerm 26 = .ok (.if_icmp .ne 29, 3) := by decide +kernel
theorem dX2_readTerm_29 : decode cX2_readTerm 29 = .ok (.aload_n 0, 1) := by decide +kernel
theorem dX2_readTerm_30 : decode cX2_readTerm 30 = .ok (.invokevirtual 28, 3) := by decide +kernel
theorem dX2_readTerm_33 : decode cX2_readTerm 33 = .ok (.aload_n 0, 1) := by decide +kernel
theorem dX2_readTerm_34 : decode cX2_readTerm 34 = .ok (.iload_n 1, 1) := by decide +kernel
theorem dX2_readTerm_35 : decode cX2_readTerm 35 = .ok (.invokevirtual 69, 3) := by decide +kernel
theorem dX2_readTerm_38 : decode cX2_readTerm 38 = .ok (.istore_n 2, 1) := by decide +kernel
theorem dX2_readTerm_39 : decode cX2_readTerm 39 = .ok (.aload_n 0, 1) := by decide +kernel
theorem dX2_readTerm_40 : decode cX2_readTerm 40 = .ok (.getfield 15, 3) := by decide +kernel
theorem dX2_readTerm_43 : decode cX2_readTerm 43 = .ok (.sipush 10017, 3) := by decide +kernel
theorem dX2_readTerm_46 : decode cX2_readTerm 46 = .ok (.invokevirtual 54, 3) := by decide +kernel
theorem dX2_readTerm_49 : decode cX2_readTerm 49 = .ok (.iinc 3 1, 3) := by decide +kernel
theorem dX2_readTerm_52 : decode cX2_readTerm 52 = .ok (.goto (-44), 3) := by decide +kernel
theorem dX2_readTerm_55 : decode cX2_readTerm 55 = .ok (.iload_n 2, 1) := by decide +kernel
theorem dX2_readTerm_56 : decode cX2_readTerm 56 = .ok (.ireturn, 1) := by decide +kernel
set_option maxRecDepth 20000 in
theorem ggX2_readOne_X6_add : GoodIn wsX2_readOne wsX6_add := goodIn_r _ [7, 8, 9, 132, 133, 134, 135, 136] (by decide +kernel) (by decide +kernel)
set_option maxRecDepth 20000 in
theorem gX2_readOne_X6_add : GoodIn wsX2_readOne (wsV RX2 54 RX6 yX6_add wsX6_add) := goodIn_app (goodIn_of _ (by decide +kernel)) ggX2_readOne_X6_add
set_option maxRecDepth 20000 in
theorem ggX2_readOne_X2_take : GoodIn wsX2_readOne wsX2_take := goodIn_r _ [14, 15, 16, 17, 1, 18, 19, 20, 21, 22, 23, 24, 25, 26, 13, 27, 28, 29, 30, 31, 32, 33, 34, 35, 36, 37, 38, 39, 40, 41, 42, 43, 44, 45, 46, 47, 48, 49, 50, 51, 52, 53, 54, 55, 56, 57, 58, 59, 60, 61, 62, 63, 64, 65, 66, 67, 68, 69, 70, 71, 72, 73, 74, 75, 76, 77, 78, 79, 80, 81, 82, 83, 84, 85, 86, 87, 88, 89, 90, 91, 92, 93, 94, 95, 96, 97, 125, 126, 127, 128, 129, 130, 131] (by decide +kernel) (by decide +kernel)
set_option maxRecDepth 20000 in
theorem gX2_readOne_X2_take : GoodIn wsX2_readOne (wsV RX2 28 RX2 yX2_take wsX2_take) := goodIn_app (goodIn_of _ (by decide +kernel)) ggX2_readOne_X2_take
set_option maxRecDepth 20000 in
theorem ggX2_readOne_X2_readOne : GoodIn wsX2_readOne wsX2_readOne := goodIn_r _ [0, 1, 2, 3, 4, 5, 6, 7, 8, 9, 10, 11, 12, 13, 14, 15, 16, 17, 18, 19, 20, 21, 22, 23, 24, 25, 26, 27, 28, 29, 30, 31, 32, 33, 34, 35, 36, 37, 38, 39, 40, 41, 42, 43, 44, 45, 46, 47, 48, 49, 50, 51, 52, 53, 54, 55, 56, 57, 58, 59, 60, 61, 62, 63, 64, 65, 66, 67, 68, 69, 70, 71, 72, 73, 74, 75, 76, 77, 78, 79, 80, 81, 82, 83, 84, 85, 86, 87, 88, 89, 90, 91, 92, 93, 94, 95, 96, 97, 98, 99, 100, 101, 102, 103, 104, 105, 106, 107, 108, 109, 110, 111, 112, 113, 114, 115, 116, 117, 118, 119, 120, 121, 122, 123, 124, 125, 126, 127, 128, 129, 130, 131, 132, 133, 134, 135, 136] (by decide +kernel) (by decide +kernel)
set_option maxRecDepth 20000 in
theorem gX2_readOne_X2_readOne : GoodIn wsX2_readOne (wsV RX2 69 RX2 yX2_readOne wsX2_readOne) := goodIn_app (goodIn_of _ (by decide +kernel)) ggX2_readOne_X2_readOne
set_option maxRecDepth 20000 in
theorem ggX2_readOne_X2_readFormula : GoodIn wsX2_readOne wsX2_readFormula := goodIn_r _ [112, 1, 2, 113, 114, 115, 13, 10, 11, 12, 14, 15, 16, 17, 18, 19, 20, 21, 22, 23, 24, 25, 26, 27, 28, 29, 30, 31, 32, 33, 34, 35, 36, 37, 38, 39, 40, 41, 42, 43, 44, 45, 46, 47, 48, 49, 50, 51, 52, 53, 54, 55, 56, 57, 58, 59, 60, 61, 62, 63, 64, 65, 66, 67, 68, 69, 70, 71, 72, 73, 74, 75, 76, 77, 78, 79, 80, 81, 82, 83, 84, 85, 86, 87, 88, 89, 90, 91, 92, 93, 94, 95, 96, 97, 3, 4, 5, 6, 7, 8, 9, 104, 105, 106, 107, 108, 109, 110, 111, 116, 117, 118, 119, 0, 98, 99, 100, 101, 102, 103, 120, 121, 122, 123, 124, 125, 126, 127, 128, 129, 130, 131, 132, 133, 134, 135, 136] (by decide +kernel) (by decide +kernel)
set_option maxRecDepth 20000 in
theorem gX2_readOne_X2_readFormula : GoodIn wsX2_readOne (wsV RX2 43 RX2 yX2_readFormula wsX2_readFormula) := goodIn_app (goodIn_of _ (by decide +kernel)) ggX2_readOne_X2_readFormula
theorem dX2_readOne_0 : decode cX2_readOne 0 = .ok (.aload_n 0, 1) := by decide +kernel
theorem dX2_readOne_1 : decode cX2_readOne 1 = .ok (.getfield 37, 3) := by decide +kernel
theorem dX2_readOne_4 : decode cX2_readOne 4 = .ok (.sipush 10006, 3) := by decide +kernel
theorem dX2_readOne_7 : decode cX2_readOne 7 = .ok (.if_icmp .ge 20, 3) := by decide +kernel
theorem dX2_readOne_10 : decode cX2_readOne 10 = .ok (.aload_n 0, 1) := by decide +kernel
theorem dX2_readOne_11 : decode cX2_readOne 11 = .ok (.getfield 15, 3) := by decide +kernel
theorem dX2_readOne_14 : decode cX2_readOne 14 = .ok (.aload_n 0, 1) := by decide +kernel
theorem dX2_readOne_15 : decode cX2_readOne 15 = .ok (.getfield 37, 3) := by decide +kernel
theorem dX2_readOne_18 : decode cX2_readOne 18 = .ok (.invokevirtual 54, 3) := by decide +kernel
theorem dX2_readOne_21 : decode cX2_readOne 21 = .ok (.aload_n 0, 1) := by decide +kernel
theorem dX2_readOne_22 : decode cX2_readOne 22 = .ok (.invokevirtual 28, 3) := by decide +kernel
theorem dX2_readOne_25 : decode cX2_readOne 25 = .ok (.iconst 1, 1) := by decide +kernel
theorem dX2_readOne_26 : decode cX2_readOne 26 = .ok (.ireturn, 1) := by decide +kernel
theorem dX2_readOne_27 : decode cX2_readOne 27 = .ok (.iload_n 1, 1) := by decide +kernel
theorem dX2_readOne_28 : decode cX2_readOne 28 = .ok (.iconst 5, 1) := by decide +kernel
theorem dX2_readOne_29 : decode cX2_readOne 29 = .ok (.if_icmp .lt 5, 3) := by decide +kernel
theorem dX2_readOne_32 : decode cX2_readOne 32 = .ok (.iconst 0, 1) := by decide +kernel
theorem dX2_readOne_33 : decode cX2_readOne 33 = .ok (.ireturn, 1) := by decide +kernel
theorem dX2_readOne_34 : decode cX2_readOne 34 = .ok (.aload_n 0, 1) := by decide +kernel
theorem dX2_readOne_35 : decode cX2_readOne 35 = .ok (.getfield 37, 3) := by decide +kernel
theorem dX2_readOne_38 : decode cX2_readOne 38 = .ok (.sipush 10016, 3) := by decide +kernel
theorem dX2_readOne_41 : decode cX2_readOne 41 = .ok (.if_icmp .ne 27, 3) := by decide +kernel
theorem dX2_readOne_44 : decode cX2_readOne 44 = .ok (.aload_n 0, 1) := by decide +kernel
theorem dX2_readOne_45 : decode cX2_readOne 45 = .ok (.invokevirtual 28, 3) := by decide +kernel
theorem dX2_readOne_48 : decode cX2_readOne 48 = .ok (.aload_n 0, 1) := by decide +kernel
theorem dX2_readOne_49 : decode cX2_readOne 49 = .ok (.iload_n 1, 1) := by decide +kernel
theorem dX2_readOne_50 : decode cX2_readOne 50 = .ok (.iconst 1, 1) := by decide +kernel
theorem dX2_readOne_51 : decode cX2_readOne 51 = .ok (.iadd, 1) := by decide +kernel
theorem dX2_readOne_52 : decode cX2_readOne 52 = .ok (.invokevirtual 69, 3) := by decide +kernel
theorem dX2_readOne_55 : decode cX2_readOne 55 = .ok (.istore_n 2, 1) := by decide +kernel
theorem dX2_readOne_56 : decode cX2_readOne 56 = .ok (.aload_n 0, 1) := by decide +kernel
theorem dX2_readOne_57 : decode cX2_readOne 57 = .ok (.getfield 15, 3) := by decide +kernel
theorem dX2_readOne_60 : decode cX2_readOne 60 = .ok (.sipush 10020, 3) := by decide +kernel
theorem dX2_readOne_63 : decode cX2_readOne 63 = .ok (.invokevirtual 54, 3) := by decide +kernel
theorem dX2_readOne_66 : decode cX2_readOne 66 = .ok (.iload_n 2, 1) := by decide +kernel
theorem dX2_readOne_67 : decode cX2_readOne 67 = .ok (.ireturn, 1) := by decide +kernel
theorem dX2_readOne_68 : decode cX2_readOne 68 = .ok (.aload_n 0, 1) := by decide +kernel
theorem dX2_readOne_69 : decode cX2_readOne 69 = .ok (.getfield 37, 3) := by decide +kernel
theorem dX2_readOne_72 : decode cX2_readOne 72 = .ok (.sipush 10012, 3) := by decide +kernel
theorem dX2_readOne_75 : decode cX2_readOne 75 = .ok (.if_icmp .eq 5, 3) := by decide +kernel
theorem dX2_readOne_78 : decode cX2_readOne 78 = .ok (.iconst 0, 1) := by decide +kernel
theorem dX2_readOne_79 : decode cX2_readOne 79 = .ok (.ireturn, 1) := by decide +kernel
theorem dX2_readOne_80 : decode cX2_readOne 80 = .ok (.aload_n 0, 1) := by decide +kernel
theorem dX2_readOne_81 : decode cX2_readOne 81 = .ok (.invokevirtual 28, 3) := by decide +kernel
theorem dX2_readOne_84 : decode cX2_readOne 84 = .ok (.aload_n 0, 1) := by decide +kernel
theorem dX2_readOne_85 : decode cX2_readOne 85 = .ok (.iload_n 1, 1) := by decide +kernel
theorem dX2_readOne_86 : decode cX2_readOne 86 = .ok (.iconst 1, 1) := by decide +kernel
theorem dX2_readOne_87 : decode cX2_readOne 87 = .ok (.iadd, 1) := by decide +kernel
theorem dX2_readOne_88 : decode cX2_readOne 88 = .ok (.invokevirtual 43, 3) := by decide +kernel
theorem dX2_readOne_91 : decode cX2_readOne 91 = .ok (.ifCond .eq 13, 3) := by decide +kernel
theorem dX2_readOne_94 : decode cX2_readOne 94 = .ok (.aload_n 0, 1) := by decide +kernel
theorem dX2_readOne_95 : decode cX2_readOne 95 = .ok (.getfield 37, 3) := by decide +kernel
theorem dX2_readOne_98 : decode cX2_readOne 98 = .ok (.sipush 10013, 3) := by decide +kernel
theorem dX2_readOne_101 : decode cX2_readOne 101 = .ok (.if_icmp .eq 5, 3) := by decide +kernel
theorem dX2_readOne_104 : decode cX2_readOne 104 = .ok (.iconst 0, 1) := by decide +kernel
theorem dX2_readOne_105 : decode cX2_readOne 105 = .ok (.ireturn, 1) := by decide +kernel
theorem dX2_readOne_106 : decode cX2_readOne 106 = .ok (.aload_n 0, 1) := by decide +kernel
theorem dX2_readOne_107 : decode cX2_readOne 107 = .ok (.invokevirtual 28, 3) := by decide +kernel
theorem dX2_readOne_110 : decode cX2_readOne 110 = .ok (.iconst 1, 1) := by decide +kernel
theorem dX2_readOne_111 : decode cX2_readOne 111 = .ok (.ireturn, 1) := by decide +kernel
set_option maxRecDepth 20000 in
theorem ggX2_take_X5_at : GoodIn wsX2_take wsX5_at := goodIn_r _ [9, 10, 11, 91, 92] (by decide +kernel) (by decide +kernel)
set_option maxRecDepth 20000 in
theorem gX2_take_X5_at : GoodIn wsX2_take (wsV RX2 72 RX5 yX5_at wsX5_at) := goodIn_app (goodIn_of _ (by decide +kernel)) ggX2_take_X5_at
set_option maxRecDepth 20000 in
theorem ggX2_take_X2_isBlank : GoodIn wsX2_take wsX2_isBlank := goodIn_r _ [15] (by decide +kernel) (by decide +kernel)
set_option maxRecDepth 20000 in
theorem gX2_take_X2_isBlank : GoodIn wsX2_take (va_wsS RX2 78 yX2_isBlank wsX2_isBlank) := goodIn_app (goodIn_of _ (by decide +kernel)) ggX2_take_X2_isBlank
set_option maxRecDepth 20000 in
theorem ggX2_take_X2_isLetter : GoodIn wsX2_take wsX2_isLetter := goodIn_r _ [18] (by decide +kernel) (by decide +kernel)
set_option maxRecDepth 20000 in
theorem gX2_take_X2_isLetter : GoodIn wsX2_take (va_wsS RX2 81 yX2_isLetter wsX2_isLetter) := goodIn_app (goodIn_of _ (by decide +kernel)) ggX2_take_X2_isLetter
set_option maxRecDepth 20000 in
theorem ggX2_take_X2_wordToken : GoodIn wsX2_take wsX2_wordToken := goodIn_r _ [22, 3, 1, 5, 6, 7, 8, 9, 10, 11, 16, 17, 14, 18, 23, 24, 25, 26, 2, 27, 28, 29, 30, 31, 32, 33, 34, 35, 36, 37, 38, 39, 40, 41, 42, 43, 44, 45, 46, 47, 48, 49, 50, 51, 52, 53, 54, 55, 56, 57, 58, 59, 60, 61, 62, 63, 64, 65, 66, 67, 68, 69, 70, 71, 72, 73, 74, 75, 86, 87, 88, 89, 90, 91, 92] (by decide +kernel) (by decide +kernel)
set_option maxRecDepth 20000 in
theorem gX2_take_X2_wordToken : GoodIn wsX2_take (wsV RX2 84 RX2 yX2_wordToken wsX2_wordToken) := goodIn_app (goodIn_of _ (by decide +kernel)) ggX2_take_X2_wordToken
set_option maxRecDepth 20000 in
theorem ggX2_take_X2_isDigit : GoodIn wsX2_take wsX2_isDigit := goodIn_r _ [78] (by decide +kernel) (by decide +kernel)
set_option maxRecDepth 20000 in
theorem gX2_take_X2_isDigit : GoodIn wsX2_take (va_wsS RX2 88 yX2_isDigit wsX2_isDigit) := goodIn_app (goodIn_of _ (by decide +kernel)) ggX2_take_X2_isDigit
set_option maxRecDepth 20000 in
theorem ggX2_take_X2_numberToken : GoodIn wsX2_take wsX2_numberToken := goodIn_r _ [82, 3, 1, 2, 5, 6, 7, 8, 9, 10, 11, 76, 77, 14, 78, 86, 87, 88, 89, 90, 91, 92] (by decide +kernel) (by decide +kernel)
set_option maxRecDepth 20000 in
theorem gX2_take_X2_numberToken : GoodIn wsX2_take (wsV RX2 91 RX2 yX2_numberToken wsX2_numberToken) := goodIn_app (goodIn_of _ (by decide +kernel)) ggX2_take_X2_numberToken
set_option maxRecDepth 20000 in
theorem ggX2_take_X2_signToken : GoodIn wsX2_take wsX2_signToken := goodIn_r _ [85] (by decide +kernel) (by decide +kernel)
set_option maxRecDepth 20000 in
theorem gX2_take_X2_signToken : GoodIn wsX2_take (va_wsS RX2 94 yX2_signToken wsX2_signToken) := goodIn_app (goodIn_of _ (by decide +kernel)) ggX2_take_X2_signToken
theorem dX2_take_0 : decode cX2_take 0 = .ok (.aload_n 0, 1) := by decide +kernel
theorem dX2_take_1 : decode cX2_take 1 = .ok (.aload_n 0, 1) := by decide +kernel
theorem dX2_take_2 : decode cX2_take 2 = .ok (.getfield 19, 3) := by decide +kernel
theorem dX2_take_5 : decode cX2_take 5 = .ok (.putfield 40, 3) := by decide +kernel
theorem dX2_take_8 : decode cX2_take 8 = .ok (.iconst 0, 1) := by decide +kernel
theorem dX2_take_9 : decode cX2_take 9 = .ok (.istore_n 1, 1) := by decide +kernel
theorem dX2_take_10 : decode cX2_take 10 = .ok (.iload_n 1, 1) := by decide +kernel
theorem dX2_take_11 : decode cX2_take 11 = .ok (.sipush 160, 3) := by decide +kernel
theorem dX2_take_14 : decode cX2_take 14 = .ok (.if_icmp .ge 36, 3) := by decide +kernel
theorem dX2_take_17 : decode cX2_take 17 = .ok (.aload_n 0, 1) := by decide +kernel
theorem dX2_take_18 : decode cX2_take 18 = .ok (.getfield 9, 3) := by decide +kernel
theorem dX2_take_21 : decode cX2_take 21 = .ok (.aload_n 0, 1) := by decide +kernel
theorem dX2_take_22 : decode cX2_take 22 = .ok (.getfield 40, 3) := by decide +kernel
theorem dX2_take_25 : decode cX2_take 25 = .ok (.invokevirtual 72, 3) := by decide +kernel
theorem dX2_take_28 : decode cX2_take 28 = .ok (.invokestatic 78, 3) := by decide +kernel
theorem dX2_take_31 : decode cX2_take 31 = .ok (.ifCond .eq 19, 3) := by decide +kernel
theorem dX2_take_34 : decode cX2_take 34 = .ok (.aload_n 0, 1) := by decide +kernel
theorem dX2_take_35 : decode cX2_take 35 = .ok (.dup, 1) := by decide +kernel
theorem dX2_take_36 : decode cX2_take 36 = .ok (.getfield 40, 3) := by decide +kernel
theorem dX2_take_39 : decode cX2_take 39 = .ok (.iconst 1, 1) := by decide +kernel
theorem dX2_take_40 : decode cX2_take 40 = .ok (.iadd, 1) := by decide +kernel
theorem dX2_take_41 : decode cX2_take 41 = .ok (.putfield 40, 3) := by decide +kernel
theorem dX2_take_44 : decode cX2_take 44 = .ok (.iinc 1 1, 3) := by decide +kernel
theorem dX2_take_47 : decode cX2_take 47 = .ok (.goto (-37), 3) := by decide +kernel
theorem dX2_take_50 : decode cX2_take 50 = .ok (.aload_n 0, 1) := by decide +kernel
theorem dX2_take_51 : decode cX2_take 51 = .ok (.aload_n 0, 1) := by decide +kernel
theorem dX2_take_52 : decode cX2_take 52 = .ok (.getfield 40, 3) := by decide +kernel
theorem dX2_take_55 : decode cX2_take 55 = .ok (.putfield 19, 3) := by decide +kernel
theorem dX2_take_58 : decode cX2_take 58 = .ok (.aload_n 0, 1) := by decide +kernel
theorem dX2_take_59 : decode cX2_take 59 = .ok (.getfield 9, 3) := by decide +kernel
theorem dX2_take_62 : decode cX2_take 62 = .ok (.aload_n 0, 1) := by decide +kernel
theorem dX2_take_63 : decode cX2_take 63 = .ok (.getfield 40, 3) := by decide +kernel
theorem dX2_take_66 : decode cX2_take 66 = .ok (.invokevirtual 72, 3) := by decide +kernel
theorem dX2_take_69 : decode cX2_take 69 = .ok (.istore_n 1, 1) := by decide +kernel
theorem dX2_take_70 : decode cX2_take 70 = .ok (.iload_n 1, 1) := by decide +kernel
theorem dX2_take_71 : decode cX2_take 71 = .ok (.iconst (-1), 1) := by decide +kernel
theorem dX2_take_72 : decode cX2_take 72 = .ok (.if_icmp .ne 13, 3) := by decide +kernel
theorem dX2_take_75 : decode cX2_take 75 = .ok (.aload_n 0, 1) := by decide +kernel
theorem dX2_take_76 : decode cX2_take 76 = .ok (.sipush 10021, 3) := by decide +kernel
theorem dX2_take_79 : decode cX2_take 79 = .ok (.putfield 37, 3) := by decide +kernel
theorem dX2_take_82 : decode cX2_take 82 = .ok (.goto 57, 3) := by decide +kernel
theorem dX2_take_85 : decode cX2_take 85 = .ok (.iload_n 1, 1) := by decide +kernel
theorem dX2_take_86 : decode cX2_take 86 = .ok (.invokestatic 81, 3) := by decide +kernel
theorem dX2_take_89 : decode cX2_take 89 = .ok (.ifCond .eq 14, 3) := by decide +kernel
theorem dX2_take_92 : decode cX2_take 92 = .ok (.aload_n 0, 1) := by decide +kernel
theorem dX2_take_93 : decode cX2_take 93 = .ok (.aload_n 0, 1) := by decide +kernel
theorem dX2_take_94 : decode cX2_take 94 = .ok (.invokevirtual 84, 3) := by decide +kernel
theorem dX2_take_97 : decode cX2_take 97 = .ok (.putfield 37, 3) := by decide +kernel
theorem dX2_take_100 : decode cX2_take 100 = .ok (.goto 39, 3) := by decide +kernel
theorem dX2_take_103 : decode cX2_take 103 = .ok (.iload_n 1, 1) := by decide +kernel
theorem dX2_take_104 : decode cX2_take 104 = .ok (.invokestatic 88, 3) := by decide +kernel
theorem dX2_take_107 : decode cX2_take 107 = .ok (.ifCond .eq 14, 3) := by decide +kernel
theorem dX2_take_110 : decode cX2_take 110 = .ok (.aload_n 0, 1) := by decide +kernel
theorem dX2_take_111 : decode cX2_take 111 = .ok (.aload_n 0, 1) := by decide +kernel
theorem dX2_take_112 : decode cX2_take 112 = .ok (.invokevirtual 91, 3) := by decide +kernel
theorem dX2_take_115 : decode cX2_take 115 = .ok (.putfield 37, 3) := by decide +kernel
theorem dX2_take_118 : decode cX2_take 118 = .ok (.goto 21, 3) := by decide +kernel
theorem dX2_take_121 : decode cX2_take 121 = .ok (.aload_n 0, 1) := by decide +kernel
theorem dX2_take_122 : decode cX2_take 122 = .ok (.aload_n 0, 1) := by decide +kernel
theorem dX2_take_123 : decode cX2_take 123 = .ok (.getfield 40, 3) := by decide +kernel
theorem dX2_take_126 : decode cX2_take 126 = .ok (.iconst 1, 1) := by decide +kernel
theorem dX2_take_127 : decode cX2_take 127 = .ok (.iadd, 1) := by decide +kernel
theorem dX2_take_128 : decode cX2_take 128 = .ok (.putfield 19, 3) := by decide +kernel
theorem dX2_take_131 : decode cX2_take 131 = .ok (.aload_n 0, 1) := by decide +kernel
theorem dX2_take_132 : decode cX2_take 132 = .ok (.iload_n 1, 1) := by decide +kernel
theorem dX2_take_133 : decode cX2_take 133 = .ok (.invokestatic 94, 3) := by decide +kernel
theorem dX2_take_136 : decode cX2_take 136 = .ok (.putfield 37, 3) := by decide +kernel
theorem dX2_take_139 : decode cX2_take 139 = .ok (.return_, 1) := by decide +kernel
set_option maxRecDepth 20000 in
theorem ggX2_wordToken_X5_at : GoodIn wsX2_wordToken wsX5_at := goodIn_r _ [7, 8, 9, 73, 74] (by decide +kernel) (by decide +kernel)
set_option maxRecDepth 20000 in
theorem gX2_wordToken_X5_at : GoodIn wsX2_wordToken (wsV RX2 72 RX5 yX5_at wsX5_at) := goodIn_app (goodIn_of _ (by decide +kernel)) ggX2_wordToken_X5_at
set_option maxRecDepth 20000 in
theorem ggX2_wordToken_X2_isLetter : GoodIn wsX2_wordToken wsX2_isLetter := goodIn_r _ [13] (by decide +kernel) (by decide +kernel)
set_option maxRecDepth 20000 in
theorem gX2_wordToken_X2_isLetter : GoodIn wsX2_wordToken (va_wsS RX2 81 yX2_isLetter wsX2_isLetter) := goodIn_app (goodIn_of _ (by decide +kernel)) ggX2_wordToken_X2_isLetter
set_option maxRecDepth 20000 in
theorem ggX2_wordToken_X2_isWord : GoodIn wsX2_wordToken wsX2_isWord := goodIn_r _ [17, 2, 18, 1, 19, 20, 21, 22, 23, 24, 25, 26, 27, 28, 29, 30, 31, 32, 33, 34, 35, 36, 37, 38, 39, 40, 41, 42, 43, 44, 45, 46, 47, 48, 49, 50, 51, 52, 53, 54, 55, 56, 57, 58, 59, 60, 61, 62, 63, 64, 65, 66, 67, 3, 4, 5, 6, 7, 8, 9, 68, 69, 70, 71, 72, 73, 74] (by decide +kernel) (by decide +kernel)
set_option maxRecDepth 20000 in
theorem gX2_wordToken_X2_isWord : GoodIn wsX2_wordToken (wsV RX2 99 RX2 yX2_isWord wsX2_isWord) := goodIn_app (goodIn_of _ (by decide +kernel)) ggX2_wordToken_X2_isWord
theorem dX2_wordToken_0 : decode cX2_wordToken 0 = .ok (.iconst 0, 1) := by decide +kernel
theorem dX2_wordToken_1 : decode cX2_wordToken 1 = .ok (.istore_n 1, 1) := by decide +kernel
theorem dX2_wordToken_2 : decode cX2_wordToken 2 = .ok (.iload_n 1, 1) := by decide +kernel
theorem dX2_wordToken_3 : decode cX2_wordToken 3 = .ok (.sipush 160, 3) := by decide +kernel
theorem dX2_wordToken_6 : decode cX2_wordToken 6 = .ok (.if_icmp .ge 36, 3) := by decide +kernel
theorem dX2_wordToken_9 : decode cX2_wordToken 9 = .ok (.aload_n 0, 1) := by decide +kernel
theorem dX2_wordToken_10 : decode cX2_wordToken 10 = .ok (.getfield 9, 3) := by decide +kernel
theorem dX2_wordToken_13 : decode cX2_wordToken 13 = .ok (.aload_n 0, 1) := by decide +kernel
theorem dX2_wordToken_14 : decode cX2_wordToken 14 = .ok (.getfield 19, 3) := by decide +kernel
theorem dX2_wordToken_17 : decode cX2_wordToken 17 = .ok (.invokevirtual 72, 3) := by decide +kernel
theorem dX2_wordToken_20 : decode cX2_wordToken 20 = .ok (.invokestatic 81, 3) := by decide +kernel
theorem dX2_wordToken_23 : decode cX2_wordToken 23 = .ok (.ifCond .eq 19, 3) := by decide +kernel
theorem dX2_wordToken_26 : decode cX2_wordToken 26 = .ok (.aload_n 0, 1) := by decide +kernel
theorem dX2_wordToken_27 : decode cX2_wordToken 27 = .ok (.dup, 1) := by decide +kernel
theorem dX2_wordToken_28 : decode cX2_wordToken 28 = .ok (.getfield 19, 3) := by decide +kernel
theorem dX2_wordToken_31 : decode cX2_wordToken 31 = .ok (.iconst 1, 1) := by decide +kernel
theorem dX2_wordToken_32 : decode cX2_wordToken 32 = .ok (.iadd, 1) := by decide +kernel
theorem dX2_wordToken_33 : decode cX2_wordToken 33 = .ok (.putfield 19, 3) := by decide +kernel
theorem dX2_wordToken_36 : decode cX2_wordToken 36 = .ok (.iinc 1 1, 3) := by decide +kernel
theorem dX2_wordToken_39 : decode cX2_wordToken 39 = .ok (.goto (-37), 3) := by decide +kernel
theorem dX2_wordToken_42 : decode cX2_wordToken 42 = .ok (.aload_n 0, 1) := by decide +kernel
theorem dX2_wordToken_43 : decode cX2_wordToken 43 = .ok (.ldc 97, 2) := by decide +kernel
theorem dX2_wordToken_45 : decode cX2_wordToken 45 = .ok (.invokevirtual 99, 3) := by decide +kernel
theorem dX2_wordToken_48 : decode cX2_wordToken 48 = .ok (.ifCond .eq 7, 3) := by decide +kernel
theorem dX2_wordToken_51 : decode cX2_wordToken 51 = .ok (.sipush 10000, 3) := by decide +kernel
theorem dX2_wordToken_54 : decode cX2_wordToken 54 = .ok (.ireturn, 1) := by decide +kernel
theorem dX2_wordToken_55 : decode cX2_wordToken 55 = .ok (.aload_n 0, 1) := by decide +kernel
theorem dX2_wordToken_56 : decode cX2_wordToken 56 = .ok (.ldc 103, 2) := by decide +kernel
theorem dX2_wordToken_58 : decode cX2_wordToken 58 = .ok (.invokevirtual 99, 3) := by decide +kernel
theorem dX2_wordToken_61 : decode cX2_wordToken 61 = .ok (.ifCond .eq 7, 3) := by decide +kernel
theorem dX2_wordToken_64 : decode cX2_wordToken 64 = .ok (.sipush 10001, 3) := by decide +kernel
theorem dX2_wordToken_67 : decode cX2_wordToken 67 = .ok (.ireturn, 1) := by decide +kernel
theorem dX2_wordToken_68 : decode cX2_wordToken 68 = .ok (.aload_n 0, 1) := by decide +kernel
theorem dX2_wordToken_69 : decode cX2_wordToken 69 = .ok (.ldc 105, 2) := by decide +kernel
theorem dX2_wordToken_71 : decode cX2_wordToken 71 = .ok (.invokevirtual 99, 3) := by decide +kernel
theorem dX2_wordToken_74 : decode cX2_wordToken 74 = .ok (.ifCond .eq 7, 3) := by decide +kernel
theorem dX2_wordToken_77 : decode cX2_wordToken 77 = .ok (.sipush 10002, 3) := by decide +kernel
theorem dX2_wordToken_80 : decode cX2_wordToken 80 = .ok (.ireturn, 1) := by decide +kernel
theorem dX2_wordToken_81 : decode cX2_wordToken 81 = .ok (.aload_n 0, 1) := by decide +kernel
theorem dX2_wordToken_82 : decode cX2_wordToken 82 = .ok (.ldc 107, 2) := by decide +kernel
theorem dX2_wordToken_84 : decode cX2_wordToken 84 = .ok (.invokevirtual 99, 3) := by decide +kernel
theorem dX2_wordToken_87 : decode cX2_wordToken 87 = .ok (.ifCond .eq 7, 3) := by decide +kernel
theorem dX2_wordToken_90 : decode cX2_wordToken 90 = .ok (.sipush 10003, 3) := by decide +kernel
theorem dX2_wordToken_93 : decode cX2_wordToken 93 = .ok (.ireturn, 1) := by decide +kernel
theorem dX2_wordToken_94 : decode cX2_wordToken 94 = .ok (.aload_n 0, 1) := by decide +kernel
theorem dX2_wordToken_95 : decode cX2_wordToken 95 = .ok (.ldc 109, 2) := by decide +kernel
theorem dX2_wordToken_97 : decode cX2_wordToken 97 = .ok (.invokevirtual 99, 3) := by decide +kernel
theorem dX2_wordToken_100 : decode cX2_wordToken 100 = .ok (.ifCond .eq 7, 3) := by decide +kernel
theorem dX2_wordToken_103 : decode cX2_wordToken 103 = .ok (.sipush 10004, 3) := by decide +kernel
theorem dX2_wordToken_106 : decode cX2_wordToken 106 = .ok (.ireturn, 1) := by decide +kernel
theorem dX2_wordToken_107 : decode cX2_wordToken 107 = .ok (.aload_n 0, 1) := by decide +kernel
theorem dX2_wordToken_108 : decode cX2_wordToken 108 = .ok (.ldc 111, 2) := by decide +kernel
theorem dX2_wordToken_110 : decode cX2_wordToken 110 = .ok (.invokevirtual 99, 3) := by decide +kernel
theorem dX2_wordToken_113 : decode cX2_wordToken 113 = .ok (.ifCond .eq 7, 3) := by decide +kernel
theorem dX2_wordToken_116 : decode cX2_wordToken 116 = .ok (.sipush 10005, 3) := by decide +kernel
theorem dX2_wordToken_119 : decode cX2_wordToken 119 = .ok (.ireturn, 1) := by decide +kernel
theorem dX2_wordToken_120 : decode cX2_wordToken 120 = .ok (.aload_n 0, 1) := by decide +kernel
theorem dX2_wordToken_121 : decode cX2_wordToken 121 = .ok (.ldc 113, 2) := by decide +kernel
theorem dX2_wordToken_123 : decode cX2_wordToken 123 = .ok (.invokevirtual 99, 3) := by decide +kernel
theorem dX2_wordToken_126 : decode cX2_wordToken 126 = .ok (.ifCond .eq 7, 3) := by decide +kernel
theorem dX2_wordToken_129 : decode cX2_wordToken 129 = .ok (.sipush 10006, 3) := by decide +kernel
theorem dX2_wordToken_132 : decode cX2_wordToken 132 = .ok (.ireturn, 1) := by decide +kernel
theorem dX2_wordToken_133 : decode cX2_wordToken 133 = .ok (.aload_n 0, 1) := by decide +kernel
theorem dX2_wordToken_134 : decode cX2_wordToken 134 = .ok (.ldc 115, 2) := by decide +kernel
theorem dX2_wordToken_136 : decode cX2_wordToken 136 = .ok (.invokevirtual 99, 3) := by decide +kernel
theorem dX2_wordToken_139 : decode cX2_wordToken 139 = .ok (.ifCond .eq 7, 3) := by decide +kernel
theorem dX2_wordToken_142 : decode cX2_wordToken 142 = .ok (.sipush 10007, 3) := by decide +kernel
theorem dX2_wordToken_145 : decode cX2_wordToken 145 = .ok (.ireturn, 1) := by decide +kernel
theorem dX2_wordToken_146 : decode cX2_wordToken 146 = .ok (.aload_n 0, 1) := by decide +kernel
theorem dX2_wordToken_147 : decode cX2_wordToken 147 = .ok (.ldc 117, 2) := by decide +kernel
theorem dX2_wordToken_149 : decode cX2_wordToken 149 = .ok (.invokevirtual 99, 3) := by decide +kernel
theorem dX2_wordToken_152 : decode cX2_wordToken 152 = .ok (.ifCond .eq 7, 3) := by decide +kernel
theorem dX2_wordToken_155 : decode cX2_wordToken 155 = .ok (.sipush 10008, 3) := by decide +kernel
theorem dX2_wordToken_158 : decode cX2_wordToken 158 = .ok (.ireturn, 1) := by decide +kernel
theorem dX2_wordToken_159 : decode cX2_wordToken 159 = .ok (.aload_n 0, 1) := by decide +kernel
theorem dX2_wordToken_160 : decode cX2_wordToken 160 = .ok (.ldc 119, 2) := by decide +kernel
theorem dX2_wordToken_162 : decode cX2_wordToken 162 = .ok (.invokevirtual 99, 3) := by decide +kernel
theorem dX2_wordToken_165 : decode cX2_wordToken 165 = .ok (.ifCond .eq 7, 3) := by decide +kernel
theorem dX2_wordToken_168 : decode cX2_wordToken 168 = .ok (.sipush 10009, 3) := by decide +kernel
theorem dX2_wordToken_171 : decode cX2_wordToken 171 = .ok (.ireturn, 1) := by decide +kernel
theorem dX2_wordToken_172 : decode cX2_wordToken 172 = .ok (.aload_n 0, 1) := by decide +kernel
theorem dX2_wordToken_173 : decode cX2_wordToken 173 = .ok (.ldc 121, 2) := by decide +kernel
theorem dX2_wordToken_175 : decode cX2_wordToken 175 = .ok (.invokevirtual 99, 3) := by decide +kernel
theorem dX2_wordToken_178 : decode cX2_wordToken 178 = .ok (.ifCond .eq 7, 3) := by decide +kernel
theorem dX2_wordToken_181 : decode cX2_wordToken 181 = .ok (.sipush 10010, 3) := by decide +kernel
theorem dX2_wordToken_184 : decode cX2_wordToken 184 = .ok (.ireturn, 1) := by decide +kernel
theorem dX2_wordToken_185 : decode cX2_wordToken 185 = .ok (.aload_n 0, 1) := by decide +kernel
theorem dX2_wordToken_186 : decode cX2_wordToken 186 = .ok (.ldc 123, 2) := by decide +kernel
theorem dX2_wordToken_188 : decode cX2_wordToken 188 = .ok (.invokevirtual 99, 3) := by decide +kernel
theorem dX2_wordToken_191 : decode cX2_wordToken 191 = .ok (.ifCond .eq 7, 3) := by decide +kernel
theorem dX2_wordToken_194 : decode cX2_wordToken 194 = .ok (.sipush 10011, 3) := by decide +kernel
theorem dX2_wordToken_197 : decode cX2_wordToken 197 = .ok (.ireturn, 1) := by decide +kernel
theorem dX2_wordToken_198 : decode cX2_wordToken 198 = .ok (.sipush 10022, 3) := by decide +kernel
theorem dX2_wordToken_201 : decode cX2_wordToken 201 = .ok (.ireturn, 1) := by decide +kernel
set_option maxRecDepth 20000 in
theorem ggX2_isWord_J0_length_8abf5 : GoodIn wsX2_isWord wsJ0_length_8abf5 := goodIn_r _ [8, 9, 10, 11, 12, 7, 13, 14, 15] (by decide +kernel) (by decide +kernel)
set_option maxRecDepth 20000 in
theorem gX2_isWord_J0_length_8abf5 : GoodIn wsX2_isWord (wsV RX2 125 RJ0 yJ0_length_8abf5 wsJ0_length_8abf5) := goodIn_app (goodIn_of _ (by decide +kernel)) ggX2_isWord_J0_length_8abf5
set_option maxRecDepth 20000 in
theorem ggX2_isWord_J0_charAt_5068e : GoodIn wsX2_isWord wsJ0_charAt_5068e := goodIn_r _ [19, 9, 20, 21, 22, 7, 23, 14, 15, 24, 25, 26, 27, 28, 29, 30, 31, 32, 33, 34, 35, 36, 37, 38, 39, 40, 41, 42, 43, 44, 45, 46, 47, 48, 49, 50, 51, 52] (by decide +kernel) (by decide +kernel)
set_option maxRecDepth 20000 in
theorem gX2_isWord_J0_charAt_5068e : GoodIn wsX2_isWord (wsV RX2 130 RJ0 yJ0_charAt_5068e wsJ0_charAt_5068e) := goodIn_app (goodIn_of _ (by decide +kernel)) ggX2_isWord_J0_charAt_5068e
set_option maxRecDepth 20000 in
theorem ggX2_isWord_X5_at : GoodIn wsX2_isWord wsX5_at := goodIn_r _ [57, 58, 59, 65, 66] (by decide +kernel) (by decide +kernel)
set_option maxRecDepth 20000 in
theorem gX2_isWord_X5_at : GoodIn wsX2_isWord (wsV RX2 72 RX5 yX5_at wsX5_at) := goodIn_app (goodIn_of _ (by decide +kernel)) ggX2_isWord_X5_at
theorem dX2_isWord_0 : decode cX2_isWord 0 = .ok (.aload_n 1, 1) := by decide +kernel
theorem dX2_isWord_1 : decode cX2_isWord 1 = .ok (.invokevirtual 125, 3) := by decide +kernel
theorem dX2_isWord_4 : decode cX2_isWord 4 = .ok (.aload_n 0, 1) := by decide +kernel
theorem dX2_isWord_5 : decode cX2_isWord 5 = .ok (.getfield 19, 3) := by decide +kernel
theorem dX2_isWord_8 : decode cX2_isWord 8 = .ok (.aload_n 0, 1) := by decide +kernel
theorem dX2_isWord_9 : decode cX2_isWord 9 = .ok (.getfield 40, 3) := by decide +kernel
theorem dX2_isWord_12 : decode cX2_isWord 12 = .ok (.isub, 1) := by decide +kernel
theorem dX2_isWord_13 : decode cX2_isWord 13 = .ok (.if_icmp .eq 5, 3) := by decide +kernel
theorem dX2_isWord_16 : decode cX2_isWord 16 = .ok (.iconst 0, 1) := by decide +kernel
theorem dX2_isWord_17 : decode cX2_isWord 17 = .ok (.ireturn, 1) := by decide +kernel
theorem dX2_isWord_18 : decode cX2_isWord 18 = .ok (.iconst 0, 1) := by decide +kernel
theorem dX2_isWord_19 : decode cX2_isWord 19 = .ok (.istore_n 2, 1) := by decide +kernel
theorem dX2_isWord_20 : decode cX2_isWord 20 = .ok (.iload_n 2, 1) := by decide +kernel
theorem dX2_isWord_21 : decode cX2_isWord 21 = .ok (.aload_n 1, 1) := by decide +kernel
theorem dX2_isWord_22 : decode cX2_isWord 22 = .ok (.invokevirtual 125, 3) := by decide +kernel
theorem dX2_isWord_25 : decode cX2_isWord 25 = .ok (.if_icmp .ge 32, 3) := by decide +kernel
theorem dX2_isWord_28 : decode cX2_isWord 28 = .ok (.aload_n 1, 1) := by decide +kernel
theorem dX2_isWord_29 : decode cX2_isWord 29 = .ok (.iload_n 2, 1) := by decide +kernel
theorem dX2_isWord_30 : decode cX2_isWord 30 = .ok (.invokevirtual 130, 3) := by decide +kernel
theorem dX2_isWord_33 : decode cX2_isWord 33 = .ok (.aload_n 0, 1) := by decide +kernel
theorem dX2_isWord_34 : decode cX2_isWord 34 = .ok (.getfield 9, 3) := by decide +kernel
theorem dX2_isWord_37 : decode cX2_isWord 37 = .ok (.aload_n 0, 1) := by decide +kernel
theorem dX2_isWord_38 : decode cX2_isWord 38 = .ok (.getfield 40, 3) := by decide +kernel
theorem dX2_isWord_41 : decode cX2_isWord 41 = .ok (.iload_n 2, 1) := by decide +kernel
theorem dX2_isWord_42 : decode cX2_isWord 42 = .ok (.iadd, 1) := by decide +kernel
theorem dX2_isWord_43 : decode cX2_isWord 43 = .ok (.invokevirtual 72, 3) := by decide +kernel
theorem dX2_isWord_46 : decode cX2_isWord 46 = .ok (.if_icmp .eq 5, 3) := by decide +kernel
theorem dX2_isWord_49 : decode cX2_isWord 49 = .ok (.iconst 0, 1) := by decide +kernel
theorem dX2_isWord_50 : decode cX2_isWord 50 = .ok (.ireturn, 1) := by decide +kernel
theorem dX2_isWord_51 : decode cX2_isWord 51 = .ok (.iinc 2 1, 3) := by decide +kernel
theorem dX2_isWord_54 : decode cX2_isWord 54 = .ok (.goto (-34), 3) := by decide +kernel
theorem dX2_isWord_57 : decode cX2_isWord 57 = .ok (.iconst 1, 1) := by decide +kernel
theorem dX2_isWord_58 : decode cX2_isWord 58 = .ok (.ireturn, 1) := by decide +kernel
set_option maxRecDepth 20000 in
theorem ggX2_numberToken_X5_at : GoodIn wsX2_numberToken wsX5_at := goodIn_r _ [8, 9, 10, 20, 21] (by decide +kernel) (by decide +kernel)
set_option maxRecDepth 20000 in
theorem gX2_numberToken_X5_at : GoodIn wsX2_numberToken (wsV RX2 72 RX5 yX5_at wsX5_at) := goodIn_app (goodIn_of _ (by decide +kernel)) ggX2_numberToken_X5_at
set_option maxRecDepth 20000 in
theorem ggX2_numberToken_X2_isDigit : GoodIn wsX2_numberToken wsX2_isDigit := goodIn_r _ [14] (by decide +kernel) (by decide +kernel)
set_option maxRecDepth 20000 in
theorem gX2_numberToken_X2_isDigit : GoodIn wsX2_numberToken (va_wsS RX2 88 yX2_isDigit wsX2_isDigit) := goodIn_app (goodIn_of _ (by decide +kernel)) ggX2_numberToken_X2_isDigit
theorem dX2_numberToken_0 : decode cX2_numberToken 0 = .ok (.iconst 0, 1) := by decide +kernel
theorem dX2_numberToken_1 : decode cX2_numberToken 1 = .ok (.istore_n 1, 1) := by decide +kernel
theorem dX2_numberToken_2 : decode cX2_numberToken 2 = .ok (.iconst 0, 1) := by decide +kernel
theorem dX2_numberToken_3 : decode cX2_numberToken 3 = .ok (.istore_n 2, 1) := by decide +kernel
theorem dX2_numberToken_4 : decode cX2_numberToken 4 = .ok (.iload_n 2, 1) := by decide +kernel
theorem dX2_numberToken_5 : decode cX2_numberToken 5 = .ok (.sipush 160, 3) := by decide +kernel
theorem dX2_numberToken_8 : decode cX2_numberToken 8 = .ok (.if_icmp .ge 56, 3) := by decide +kernel
theorem dX2_numberToken_11 : decode cX2_numberToken 11 = .ok (.aload_n 0, 1) := by decide +kernel
theorem dX2_numberToken_12 : decode cX2_numberToken 12 = .ok (.getfield 9, 3) := by decide +kernel
theorem dX2_numberToken_15 : decode cX2_numberToken 15 = .ok (.aload_n 0, 1) := by decide +kernel
theorem dX2_numberToken_16 : decode cX2_numberToken 16 = .ok (.getfield 19, 3) := by decide +kernel
theorem dX2_numberToken_19 : decode cX2_numberToken 19 = .ok (.invokevirtual 72, 3) := by decide +kernel
theorem dX2_numberToken_22 : decode cX2_numberToken 22 = .ok (.invokestatic 88, 3) := by decide +kernel
theorem dX2_numberToken_25 : decode cX2_numberToken 25 = .ok (.ifCond .eq 39, 3) := by decide +kernel
theorem dX2_numberToken_28 : decode cX2_numberToken 28 = .ok (.bipush 10, 2) := by decide +kernel
theorem dX2_numberToken_30 : decode cX2_numberToken 30 = .ok (.iload_n 1, 1) := by decide +kernel
theorem dX2_numberToken_31 : decode cX2_numberToken 31 = .ok (.imul, 1) := by decide +kernel
theorem dX2_numberToken_32 : decode cX2_numberToken 32 = .ok (.aload_n 0, 1) := by decide +kernel
theorem dX2_numberToken_33 : decode cX2_numberToken 33 = .ok (.getfield 9, 3) := by decide +kernel
theorem dX2_numberToken_36 : decode cX2_numberToken 36 = .ok (.aload_n 0, 1) := by decide +kernel
theorem dX2_numberToken_37 : decode cX2_numberToken 37 = .ok (.getfield 19, 3) := by decide +kernel
theorem dX2_numberToken_40 : decode cX2_numberToken 40 = .ok (.invokevirtual 72, 3) := by decide +kernel
theorem dX2_numberToken_43 : decode cX2_numberToken 43 = .ok (.iadd, 1) := by decide +kernel
theorem dX2_numberToken_44 : decode cX2_numberToken 44 = .ok (.bipush 48, 2) := by decide +kernel
theorem dX2_numberToken_46 : decode cX2_numberToken 46 = .ok (.isub, 1) := by decide +kernel
theorem dX2_numberToken_47 : decode cX2_numberToken 47 = .ok (.istore_n 1, 1) := by decide +kernel
theorem dX2_numberToken_48 : decode cX2_numberToken 48 = .ok (.aload_n 0, 1) := by decide +kernel
theorem dX2_numberToken_49 : decode cX2_numberToken 49 = .ok (.dup, 1) := by decide +kernel
theorem dX2_numberToken_50 : decode cX2_numberToken 50 = .ok (.getfield 19, 3) := by decide +kernel
theorem dX2_numberToken_53 : decode cX2_numberToken 53 = .ok (.iconst 1, 1) := by decide +kernel
theorem dX2_numberToken_54 : decode cX2_numberToken 54 = .ok (.iadd, 1) := by decide +kernel
theorem dX2_numberToken_55 : decode cX2_numberToken 55 = .ok (.putfield 19, 3) := by decide +kernel
theorem dX2_numberToken_58 : decode cX2_numberToken 58 = .ok (.iinc 2 1, 3) := by decide +kernel
theorem dX2_numberToken_61 : decode cX2_numberToken 61 = .ok (.goto (-57), 3) := by decide +kernel
theorem dX2_numberToken_64 : decode cX2_numberToken 64 = .ok (.aload_n 0, 1) := by decide +kernel
theorem dX2_numberToken_65 : decode cX2_numberToken 65 = .ok (.getfield 19, 3) := by decide +kernel
theorem dX2_numberToken_68 : decode cX2_numberToken 68 = .ok (.aload_n 0, 1) := by decide +kernel
theorem dX2_numberToken_69 : decode cX2_numberToken 69 = .ok (.getfield 40, 3) := by decide +kernel
theorem dX2_numberToken_72 : decode cX2_numberToken 72 = .ok (.isub, 1) := by decide +kernel
theorem dX2_numberToken_73 : decode cX2_numberToken 73 = .ok (.iconst 4, 1) := by decide +kernel
theorem dX2_numberToken_74 : decode cX2_numberToken 74 = .ok (.if_icmp .le 9, 3) := by decide +kernel
theorem dX2_numberToken_77 : decode cX2_numberToken 77 = .ok (.sipush 10022, 3) := by decide +kernel
theorem dX2_numberToken_80 : decode cX2_numberToken 80 = .ok (.goto 4, 3) := by decide +kernel
theorem dX2_numberToken_83 : decode cX2_numberToken 83 = .ok (.iload_n 1, 1) := by decide +kernel
theorem dX2_numberToken_84 : decode cX2_numberToken 84 = .ok (.ireturn, 1) := by decide +kernel
theorem dX2_signToken_0 : decode cX2_signToken 0 = .ok (.iload_n 0, 1) := by decide +kernel
theorem dX2_signToken_1 : decode cX2_signToken 1 = .ok (.tableswitch 135 40 61 #[103, 107, 123, 115, 135, 119, 135, 135, 135, 135, 135, 135, 135, 135, 135, 135, 135, 135, 135, 111, 127, 131], 103) := by decide +kernel
theorem dX2_signToken_104 : decode cX2_signToken 104 = .ok (.sipush 10012, 3) := by decide +kernel
theorem dX2_signToken_107 : decode cX2_signToken 107 = .ok (.ireturn, 1) := by decide +kernel
theorem dX2_signToken_108 : decode cX2_signToken 108 = .ok (.sipush 10013, 3) := by decide +kernel
theorem dX2_signToken_111 : decode cX2_signToken 111 = .ok (.ireturn, 1) := by decide +kernel
theorem dX2_signToken_112 : decode cX2_signToken 112 = .ok (.sipush 10014, 3) := by decide +kernel
theorem dX2_signToken_115 : decode cX2_signToken 115 = .ok (.ireturn, 1) := by decide +kernel
theorem dX2_signToken_116 : decode cX2_signToken 116 = .ok (.sipush 10015, 3) := by decide +kernel
theorem dX2_signToken_119 : decode cX2_signToken 119 = .ok (.ireturn, 1) := by decide +kernel
theorem dX2_signToken_120 : decode cX2_signToken 120 = .ok (.sipush 10016, 3) := by decide +kernel
theorem dX2_signToken_123 : decode cX2_signToken 123 = .ok (.ireturn, 1) := by decide +kernel
theorem dX2_signToken_124 : decode cX2_signToken 124 = .ok (.sipush 10017, 3) := by decide +kernel
theorem dX2_signToken_127 : decode cX2_signToken 127 = .ok (.ireturn, 1) := by decide +kernel
theorem dX2_signToken_128 : decode cX2_signToken 128 = .ok (.sipush 10018, 3) := by decide +kernel
theorem dX2_signToken_131 : decode cX2_signToken 131 = .ok (.ireturn, 1) := by decide +kernel
theorem dX2_signToken_132 : decode cX2_signToken 132 = .ok (.sipush 10019, 3) := by decide +kernel
theorem dX2_signToken_135 : decode cX2_signToken 135 = .ok (.ireturn, 1) := by decide +kernel
theorem dX2_signToken_136 : decode cX2_signToken 136 = .ok (.sipush 10022, 3) := by decide +kernel
theorem dX2_signToken_139 : decode cX2_signToken 139 = .ok (.ireturn, 1) := by decide +kernel
theorem dX2_isBlank_0 : decode cX2_isBlank 0 = .ok (.iload_n 0, 1) := by decide +kernel
theorem dX2_isBlank_1 : decode cX2_isBlank 1 = .ok (.bipush 32, 2) := by decide +kernel
theorem dX2_isBlank_3 : decode cX2_isBlank 3 = .ok (.if_icmp .eq 9, 3) := by decide +kernel
theorem dX2_isBlank_6 : decode cX2_isBlank 6 = .ok (.iload_n 0, 1) := by decide +kernel
theorem dX2_isBlank_7 : decode cX2_isBlank 7 = .ok (.bipush 10, 2) := by decide +kernel
theorem dX2_isBlank_9 : decode cX2_isBlank 9 = .ok (.if_icmp .ne 7, 3) := by decide +kernel
theorem dX2_isBlank_12 : decode cX2_isBlank 12 = .ok (.iconst 1, 1) := by decide +kernel
theorem dX2_isBlank_13 : decode cX2_isBlank 13 = .ok (.goto 4, 3) := by decide +kernel
theorem dX2_isBlank_16 : decode cX2_isBlank 16 = .ok (.iconst 0, 1) := by decide +kernel
theorem dX2_isBlank_17 : decode cX2_isBlank 17 = .ok (.ireturn, 1) := by decide +kernel
theorem dX2_isLetter_0 : decode cX2_isLetter 0 = .ok (.iload_n 0, 1) := by decide +kernel
theorem dX2_isLetter_1 : decode cX2_isLetter 1 = .ok (.bipush 97, 2) := by decide +kernel
theorem dX2_isLetter_3 : decode cX2_isLetter 3 = .ok (.if_icmp .lt 13, 3) := by decide +kernel
theorem dX2_isLetter_6 : decode cX2_isLetter 6 = .ok (.iload_n 0, 1) := by decide +kernel
theorem dX2_isLetter_7 : decode cX2_isLetter 7 = .ok (.bipush 122, 2) := by decide +kernel
theorem dX2_isLetter_9 : decode cX2_isLetter 9 = .ok (.if_icmp .gt 7, 3) := by decide +kernel
theorem dX2_isLetter_12 : decode cX2_isLetter 12 = .ok (.iconst 1, 1) := by decide +kernel
theorem dX2_isLetter_13 : decode cX2_isLetter 13 = .ok (.goto 4, 3) := by decide +kernel
theorem dX2_isLetter_16 : decode cX2_isLetter 16 = .ok (.iconst 0, 1) := by decide +kernel
theorem dX2_isLetter_17 : decode cX2_isLetter 17 = .ok (.ireturn, 1) := by decide +kernel
theorem dX2_isDigit_0 : decode cX2_isDigit 0 = .ok (.iload_n 0, 1) := by decide +kernel
theorem dX2_isDigit_1 : decode cX2_isDigit 1 = .ok (.bipush 48, 2) := by decide +kernel
theorem dX2_isDigit_3 : decode cX2_isDigit 3 = .ok (.if_icmp .lt 13, 3) := by decide +kernel
theorem dX2_isDigit_6 : decode cX2_isDigit 6 = .ok (.iload_n 0, 1) := by decide +kernel
theorem dX2_isDigit_7 : decode cX2_isDigit 7 = .ok (.bipush 57, 2) := by decide +kernel
theorem dX2_isDigit_9 : decode cX2_isDigit 9 = .ok (.if_icmp .gt 7, 3) := by decide +kernel
theorem dX2_isDigit_12 : decode cX2_isDigit 12 = .ok (.iconst 1, 1) := by decide +kernel
theorem dX2_isDigit_13 : decode cX2_isDigit 13 = .ok (.goto 4, 3) := by decide +kernel
theorem dX2_isDigit_16 : decode cX2_isDigit 16 = .ok (.iconst 0, 1) := by decide +kernel
theorem dX2_isDigit_17 : decode cX2_isDigit 17 = .ok (.ireturn, 1) := by decide +kernel
theorem dX3_init_0 : decode cX3_init 0 = .ok (.aload_n 0, 1) := by decide +kernel
theorem dX3_init_1 : decode cX3_init 1 = .ok (.invokespecial 3, 3) := by decide +kernel
theorem dX3_init_4 : decode cX3_init 4 = .ok (.aload_n 0, 1) := by decide +kernel
theorem dX3_init_5 : decode cX3_init 5 = .ok (.bipush 40, 2) := by decide +kernel
theorem dX3_init_7 : decode cX3_init 7 = .ok (.newarray .int, 2) := by decide +kernel
theorem dX3_init_9 : decode cX3_init 9 = .ok (.putfield 9, 3) := by decide +kernel
theorem dX3_init_12 : decode cX3_init 12 = .ok (.aload_n 0, 1) := by decide +kernel
theorem dX3_init_13 : decode cX3_init 13 = .ok (.iconst (-1), 1) := by decide +kernel
theorem dX3_init_14 : decode cX3_init 14 = .ok (.putfield 15, 3) := by decide +kernel
theorem dX3_init_17 : decode cX3_init 17 = .ok (.aload_n 0, 1) := by decide +kernel
theorem dX3_init_18 : decode cX3_init 18 = .ok (.iconst 0, 1) := by decide +kernel
theorem dX3_init_19 : decode cX3_init 19 = .ok (.putfield 19, 3) := by decide +kernel
theorem dX3_init_22 : decode cX3_init 22 = .ok (.return_, 1) := by decide +kernel
theorem dX3_become_0 : decode cX3_become 0 = .ok (.aload_n 0, 1) := by decide +kernel
theorem dX3_become_1 : decode cX3_become 1 = .ok (.iload_n 1, 1) := by decide +kernel
theorem dX3_become_2 : decode cX3_become 2 = .ok (.putfield 15, 3) := by decide +kernel
theorem dX3_become_5 : decode cX3_become 5 = .ok (.aload_n 0, 1) := by decide +kernel
theorem dX3_become_6 : decode cX3_become 6 = .ok (.iconst 0, 1) := by decide +kernel
theorem dX3_become_7 : decode cX3_become 7 = .ok (.iload_n 2, 1) := by decide +kernel
theorem dX3_become_8 : decode cX3_become 8 = .ok (.bipush 40, 2) := by decide +kernel
theorem dX3_become_10 : decode cX3_become 10 = .ok (.invokestatic 22, 3) := by decide +kernel
theorem dX3_become_13 : decode cX3_become 13 = .ok (.invokestatic 28, 3) := by decide +kernel
theorem dX3_become_16 : decode cX3_become 16 = .ok (.putfield 19, 3) := by decide +kernel
theorem dX3_become_19 : decode cX3_become 19 = .ok (.iconst 0, 1) := by decide +kernel
theorem dX3_become_20 : decode cX3_become 20 = .ok (.istore_n 3, 1) := by decide +kernel
theorem dX3_become_21 : decode cX3_become 21 = .ok (.iload_n 3, 1) := by decide +kernel
theorem dX3_become_22 : decode cX3_become 22 = .ok (.bipush 40, 2) := by decide +kernel
theorem dX3_become_24 : decode cX3_become 24 = .ok (.if_icmp .ge 16, 3) := by decide +kernel
theorem dX3_become_27 : decode cX3_become 27 = .ok (.aload_n 0, 1) := by decide +kernel
theorem dX3_become_28 : decode cX3_become 28 = .ok (.getfield 9, 3) := by decide +kernel
theorem dX3_become_31 : decode cX3_become 31 = .ok (.iload_n 3, 1) := by decide +kernel
theorem dX3_become_32 : decode cX3_become 32 = .ok (.iconst 0, 1) := by decide +kernel
theorem dX3_become_33 : decode cX3_become 33 = .ok (.iastore, 1) := by decide +kernel
theorem dX3_become_34 : decode cX3_become 34 = .ok (.iinc 3 1, 3) := by decide +kernel
theorem dX3_become_37 : decode cX3_become 37 = .ok (.goto (-16), 3) := by decide +kernel
theorem dX3_become_40 : decode cX3_become 40 = .ok (.return_, 1) := by decide +kernel
theorem dX3_isMissing_0 : decode cX3_isMissing 0 = .ok (.aload_n 0, 1) := by decide +kernel
theorem dX3_isMissing_1 : decode cX3_isMissing 1 = .ok (.getfield 15, 3) := by decide +kernel
theorem dX3_isMissing_4 : decode cX3_isMissing 4 = .ok (.iconst (-1), 1) := by decide +kernel
theorem dX3_isMissing_5 : decode cX3_isMissing 5 = .ok (.if_icmp .ne 7, 3) := by decide +kernel
theorem dX3_isMissing_8 : decode cX3_isMissing 8 = .ok (.iconst 1, 1) := by decide +kernel
theorem dX3_isMissing_9 : decode cX3_isMissing 9 = .ok (.goto 4, 3) := by decide +kernel
theorem dX3_isMissing_12 : decode cX3_isMissing 12 = .ok (.iconst 0, 1) := by decide +kernel
theorem dX3_isMissing_13 : decode cX3_isMissing 13 = .ok (.ireturn, 1) := by decide +kernel
theorem dX3_has_0 : decode cX3_has 0 = .ok (.iload_n 1, 1) := by decide +kernel
theorem dX3_has_1 : decode cX3_has 1 = .ok (.ifCond .lt 15, 3) := by decide +kernel
theorem dX3_has_4 : decode cX3_has 4 = .ok (.iload_n 1, 1) := by decide +kernel
theorem dX3_has_5 : decode cX3_has 5 = .ok (.aload_n 0, 1) := by decide +kernel
theorem dX3_has_6 : decode cX3_has 6 = .ok (.getfield 19, 3) := by decide +kernel
theorem dX3_has_9 : decode cX3_has 9 = .ok (.if_icmp .ge 7, 3) := by decide +kernel
theorem dX3_has_12 : decode cX3_has 12 = .ok (.iconst 1, 1) := by decide +kernel
theorem dX3_has_13 : decode cX3_has 13 = .ok (.goto 4, 3) := by decide +kernel
theorem dX3_has_16 : decode cX3_has 16 = .ok (.iconst 0, 1) := by decide +kernel
theorem dX3_has_17 : decode cX3_has 17 = .ok (.ireturn, 1) := by decide +kernel
theorem dX3_hasAll_0 : decode cX3_hasAll 0 = .ok (.iload_n 1, 1) := by decide +kernel
theorem dX3_hasAll_1 : decode cX3_hasAll 1 = .ok (.ifCond .lt 29, 3) := by decide +kernel
theorem dX3_hasAll_4 : decode cX3_hasAll 4 = .ok (.iload_n 2, 1) := by decide +kernel
theorem dX3_hasAll_5 : decode cX3_hasAll 5 = .ok (.ifCond .lt 25, 3) := by decide +kernel
theorem dX3_hasAll_8 : decode cX3_hasAll 8 = .ok (.iload_n 2, 1) := by decide +kernel
theorem dX3_hasAll_9 : decode cX3_hasAll 9 = .ok (.aload_n 0, 1) := by decide +kernel
theorem dX3_hasAll_10 : decode cX3_hasAll 10 = .ok (.getfield 19, 3) := by decide +kernel
theorem dX3_hasAll_13 : decode cX3_hasAll 13 = .ok (.if_icmp .gt 17, 3) := by decide +kernel
theorem dX3_hasAll_16 : decode cX3_hasAll 16 = .ok (.iload_n 1, 1) := by decide +kernel
theorem dX3_hasAll_17 : decode cX3_hasAll 17 = .ok (.aload_n 0, 1) := by decide +kernel
theorem dX3_hasAll_18 : decode cX3_hasAll 18 = .ok (.getfield 19, 3) := by decide +kernel
theorem dX3_hasAll_21 : decode cX3_hasAll 21 = .ok (.iload_n 2, 1) := by decide +kernel
theorem dX3_hasAll_22 : decode cX3_hasAll 22 = .ok (.isub, 1) := by decide +kernel
theorem dX3_hasAll_23 : decode cX3_hasAll 23 = .ok (.if_icmp .gt 7, 3) := by decide +kernel
theorem dX3_hasAll_26 : decode cX3_hasAll 26 = .ok (.iconst 1, 1) := by decide +kernel
theorem dX3_hasAll_27 : decode cX3_hasAll 27 = .ok (.goto 4, 3) := by decide +kernel
theorem dX3_hasAll_30 : decode cX3_hasAll 30 = .ok (.iconst 0, 1) := by decide +kernel
theorem dX3_hasAll_31 : decode cX3_hasAll 31 = .ok (.ireturn, 1) := by decide +kernel
set_option maxRecDepth 20000 in
theorem ggX3_at_X3_has : GoodIn wsX3_at wsX3_has := goodIn_r _ [6, 7, 8, 9, 10] (by decide +kernel) (by decide +kernel)
set_option maxRecDepth 20000 in
theorem gX3_at_X3_has : GoodIn wsX3_at (wsV RX3 31 RX3 yX3_has wsX3_has) := goodIn_app (goodIn_of _ (by decide +kernel)) ggX3_at_X3_has
theorem dX3_at_0 : decode cX3_at 0 = .ok (.aload_n 0, 1) := by decide +kernel
theorem dX3_at_1 : decode cX3_at 1 = .ok (.iload_n 1, 1) := by decide +kernel
theorem dX3_at_2 : decode cX3_at 2 = .ok (.invokevirtual 31, 3) := by decide +kernel
theorem dX3_at_5 : decode cX3_at 5 = .ok (.ifCond .eq 12, 3) := by decide +kernel
theorem dX3_at_8 : decode cX3_at 8 = .ok (.aload_n 0, 1) := by decide +kernel
theorem dX3_at_9 : decode cX3_at 9 = .ok (.getfield 9, 3) := by decide +kernel
theorem dX3_at_12 : decode cX3_at 12 = .ok (.iload_n 1, 1) := by decide +kernel
theorem dX3_at_13 : decode cX3_at 13 = .ok (.iaload, 1) := by decide +kernel
theorem dX3_at_14 : decode cX3_at 14 = .ok (.goto 4, 3) := by decide +kernel
theorem dX3_at_17 : decode cX3_at 17 = .ok (.iconst 0, 1) := by decide +kernel
theorem dX3_at_18 : decode cX3_at 18 = .ok (.ireturn, 1) := by decide +kernel
set_option maxRecDepth 20000 in
theorem ggX3_put_X3_has : GoodIn wsX3_put wsX3_has := goodIn_r _ [7, 8, 9, 10, 11] (by decide +kernel) (by decide +kernel)
set_option maxRecDepth 20000 in
theorem gX3_put_X3_has : GoodIn wsX3_put (wsV RX3 31 RX3 yX3_has wsX3_has) := goodIn_app (goodIn_of _ (by decide +kernel)) ggX3_put_X3_has
theorem dX3_put_0 : decode cX3_put 0 = .ok (.aload_n 0, 1) := by decide +kernel
theorem dX3_put_1 : decode cX3_put 1 = .ok (.iload_n 1, 1) := by decide +kernel
theorem dX3_put_2 : decode cX3_put 2 = .ok (.invokevirtual 31, 3) := by decide +kernel
theorem dX3_put_5 : decode cX3_put 5 = .ok (.ifCond .eq 35, 3) := by decide +kernel
theorem dX3_put_8 : decode cX3_put 8 = .ok (.aload_n 0, 1) := by decide +kernel
theorem dX3_put_9 : decode cX3_put 9 = .ok (.getfield 9, 3) := by decide +kernel
theorem dX3_put_12 : decode cX3_put 12 = .ok (.iload_n 1, 1) := by decide +kernel
theorem dX3_put_13 : decode cX3_put 13 = .ok (.aload_n 0, 1) := by decide +kernel
theorem dX3_put_14 : decode cX3_put 14 = .ok (.getfield 15, 3) := by decide +kernel
theorem dX3_put_17 : decode cX3_put 17 = .ok (.ifCond .ne 8, 3) := by decide +kernel
theorem dX3_put_20 : decode cX3_put 20 = .ok (.iload_n 2, 1) := by decide +kernel
theorem dX3_put_21 : decode cX3_put 21 = .ok (.i2b, 1) := by decide +kernel
theorem dX3_put_22 : decode cX3_put 22 = .ok (.goto 17, 3) := by decide +kernel
theorem dX3_put_25 : decode cX3_put 25 = .ok (.aload_n 0, 1) := by decide +kernel
theorem dX3_put_26 : decode cX3_put 26 = .ok (.getfield 15, 3) := by decide +kernel
theorem dX3_put_29 : decode cX3_put 29 = .ok (.iconst 1, 1) := by decide +kernel
theorem dX3_put_30 : decode cX3_put 30 = .ok (.if_icmp .ne 8, 3) := by decide +kernel
theorem dX3_put_33 : decode cX3_put 33 = .ok (.iload_n 2, 1) := by decide +kernel
theorem dX3_put_34 : decode cX3_put 34 = .ok (.i2s, 1) := by decide +kernel
theorem dX3_put_35 : decode cX3_put 35 = .ok (.goto 4, 3) := by decide +kernel
theorem dX3_put_38 : decode cX3_put 38 = .ok (.iload_n 2, 1) := by decide +kernel
theorem dX3_put_39 : decode cX3_put 39 = .ok (.iastore, 1) := by decide +kernel
theorem dX3_put_40 : decode cX3_put 40 = .ok (.return_, 1) := by decide +kernel
theorem dX4_init_0 : decode cX4_init 0 = .ok (.aload_n 0, 1) := by decide +kernel
theorem dX4_init_1 : decode cX4_init 1 = .ok (.invokespecial 3, 3) := by decide +kernel
theorem dX4_init_4 : decode cX4_init 4 = .ok (.aload_n 0, 1) := by decide +kernel
theorem dX4_init_5 : decode cX4_init 5 = .ok (.iconst 0, 1) := by decide +kernel
theorem dX4_init_6 : decode cX4_init 6 = .ok (.putfield 9, 3) := by decide +kernel
theorem dX4_init_9 : decode cX4_init 9 = .ok (.return_, 1) := by decide +kernel
theorem dX4_isOf_0 : decode cX4_isOf 0 = .ok (.aload_n 0, 1) := by decide +kernel
theorem dX4_isOf_1 : decode cX4_isOf 1 = .ok (.getfield 9, 3) := by decide +kernel
theorem dX4_isOf_4 : decode cX4_isOf 4 = .ok (.iload_n 1, 1) := by decide +kernel
theorem dX4_isOf_5 : decode cX4_isOf 5 = .ok (.if_icmp .ne 23, 3) := by decide +kernel
theorem dX4_isOf_8 : decode cX4_isOf 8 = .ok (.aload_n 0, 1) := by decide +kernel
theorem dX4_isOf_9 : decode cX4_isOf 9 = .ok (.getfield 15, 3) := by decide +kernel
theorem dX4_isOf_12 : decode cX4_isOf 12 = .ok (.iload_n 2, 1) := by decide +kernel
theorem dX4_isOf_13 : decode cX4_isOf 13 = .ok (.if_icmp .ne 15, 3) := by decide +kernel
theorem dX4_isOf_16 : decode cX4_isOf 16 = .ok (.aload_n 0, 1) := by decide +kernel
theorem dX4_isOf_17 : decode cX4_isOf 17 = .ok (.getfield 18, 3) := by decide +kernel
theorem dX4_isOf_20 : decode cX4_isOf 20 = .ok (.iload_n 3, 1) := by decide +kernel
theorem dX4_isOf_21 : decode cX4_isOf 21 = .ok (.if_icmp .ne 7, 3) := by decide +kernel
theorem dX4_isOf_24 : decode cX4_isOf 24 = .ok (.iconst 1, 1) := by decide +kernel
theorem dX4_isOf_25 : decode cX4_isOf 25 = .ok (.goto 4, 3) := by decide +kernel
theorem dX4_isOf_28 : decode cX4_isOf 28 = .ok (.iconst 0, 1) := by decide +kernel
theorem dX4_isOf_29 : decode cX4_isOf 29 = .ok (.ireturn, 1) := by decide +kernel
theorem dX4_begin_0 : decode cX4_begin 0 = .ok (.aload_n 0, 1) := by decide +kernel
theorem dX4_begin_1 : decode cX4_begin 1 = .ok (.iload_n 1, 1) := by decide +kernel
theorem dX4_begin_2 : decode cX4_begin 2 = .ok (.putfield 9, 3) := by decide +kernel
theorem dX4_begin_5 : decode cX4_begin 5 = .ok (.aload_n 0, 1) := by decide +kernel
theorem dX4_begin_6 : decode cX4_begin 6 = .ok (.iload_n 2, 1) := by decide +kernel
theorem dX4_begin_7 : decode cX4_begin 7 = .ok (.putfield 15, 3) := by decide +kernel
theorem dX4_begin_10 : decode cX4_begin 10 = .ok (.aload_n 0, 1) := by decide +kernel
theorem dX4_begin_11 : decode cX4_begin 11 = .ok (.iload_n 3, 1) := by decide +kernel
theorem dX4_begin_12 : decode cX4_begin 12 = .ok (.putfield 18, 3) := by decide +kernel
theorem dX4_begin_15 : decode cX4_begin 15 = .ok (.aload_n 0, 1) := by decide +kernel
theorem dX4_begin_16 : decode cX4_begin 16 = .ok (.iconst 0, 1) := by decide +kernel
theorem dX4_begin_17 : decode cX4_begin 17 = .ok (.putfield 21, 3) := by decide +kernel
theorem dX4_begin_20 : decode cX4_begin 20 = .ok (.aload_n 0, 1) := by decide +kernel
theorem dX4_begin_21 : decode cX4_begin 21 = .ok (.lconst 0, 1) := by decide +kernel
theorem dX4_begin_22 : decode cX4_begin 22 = .ok (.putfield 24, 3) := by decide +kernel
theorem dX4_begin_25 : decode cX4_begin 25 = .ok (.aload_n 0, 1) := by decide +kernel
theorem dX4_begin_26 : decode cX4_begin 26 = .ok (.iconst (-1), 1) := by decide +kernel
theorem dX4_begin_27 : decode cX4_begin 27 = .ok (.putfield 28, 3) := by decide +kernel
theorem dX4_begin_30 : decode cX4_begin 30 = .ok (.aload_n 0, 1) := by decide +kernel
theorem dX4_begin_31 : decode cX4_begin 31 = .ok (.iconst 0, 1) := by decide +kernel
theorem dX4_begin_32 : decode cX4_begin 32 = .ok (.putfield 31, 3) := by decide +kernel
theorem dX4_begin_35 : decode cX4_begin 35 = .ok (.return_, 1) := by decide +kernel
set_option maxRecDepth 20000 in
theorem ggX4_add_X0_digits : GoodIn wsX4_add wsX0_digits := goodIn_r _ [10, 11, 12, 13, 14, 9, 15, 16, 24, 25, 26, 27, 28] (by decide +kernel) (by decide +kernel)
set_option maxRecDepth 20000 in
theorem gX4_add_X0_digits : GoodIn wsX4_add (wsV RX4 34 RX0 yX0_digits wsX0_digits) := goodIn_app (goodIn_of _ (by decide +kernel)) ggX4_add_X0_digits
theorem dX4_add_0 : decode cX4_add 0 = .ok (.aload_n 0, 1) := by decide +kernel
theorem dX4_add_1 : decode cX4_add 1 = .ok (.dup, 1) := by decide +kernel
theorem dX4_add_2 : decode cX4_add 2 = .ok (.getfield 24, 3) := by decide +kernel
theorem dX4_add_5 : decode cX4_add 5 = .ok (.iload_n 1, 1) := by decide +kernel
theorem dX4_add_6 : decode cX4_add 6 = .ok (.i2l, 1) := by decide +kernel
theorem dX4_add_7 : decode cX4_add 7 = .ok (.ladd, 1) := by decide +kernel
theorem dX4_add_8 : decode cX4_add 8 = .ok (.putfield 24, 3) := by decide +kernel
theorem dX4_add_11 : decode cX4_add 11 = .ok (.iload_n 1, 1) := by decide +kernel
theorem dX4_add_12 : decode cX4_add 12 = .ok (.aload_n 0, 1) := by decide +kernel
theorem dX4_add_13 : decode cX4_add 13 = .ok (.getfield 9, 3) := by decide +kernel
theorem dX4_add_16 : decode cX4_add 16 = .ok (.if_icmp .ne 13, 3) := by decide +kernel
theorem dX4_add_19 : decode cX4_add 19 = .ok (.aload_n 0, 1) := by decide +kernel
theorem dX4_add_20 : decode cX4_add 20 = .ok (.dup, 1) := by decide +kernel
theorem dX4_add_21 : decode cX4_add 21 = .ok (.getfield 21, 3) := by decide +kernel
theorem dX4_add_24 : decode cX4_add 24 = .ok (.iconst 1, 1) := by decide +kernel
theorem dX4_add_25 : decode cX4_add 25 = .ok (.iadd, 1) := by decide +kernel
theorem dX4_add_26 : decode cX4_add 26 = .ok (.putfield 21, 3) := by decide +kernel
theorem dX4_add_29 : decode cX4_add 29 = .ok (.aload_n 0, 1) := by decide +kernel
theorem dX4_add_30 : decode cX4_add 30 = .ok (.getfield 28, 3) := by decide +kernel
theorem dX4_add_33 : decode cX4_add 33 = .ok (.iconst (-1), 1) := by decide +kernel
theorem dX4_add_34 : decode cX4_add 34 = .ok (.if_icmp .eq 11, 3) := by decide +kernel
theorem dX4_add_37 : decode cX4_add 37 = .ok (.iload_n 1, 1) := by decide +kernel
theorem dX4_add_38 : decode cX4_add 38 = .ok (.aload_n 0, 1) := by decide +kernel
theorem dX4_add_39 : decode cX4_add 39 = .ok (.getfield 28, 3) := by decide +kernel
theorem dX4_add_42 : decode cX4_add 42 = .ok (.if_icmp .ge 16, 3) := by decide +kernel
theorem dX4_add_45 : decode cX4_add 45 = .ok (.aload_n 0, 1) := by decide +kernel
theorem dX4_add_46 : decode cX4_add 46 = .ok (.iload_n 1, 1) := by decide +kernel
theorem dX4_add_47 : decode cX4_add 47 = .ok (.putfield 28, 3) := by decide +kernel
theorem dX4_add_50 : decode cX4_add 50 = .ok (.aload_n 0, 1) := by decide +kernel
theorem dX4_add_51 : decode cX4_add 51 = .ok (.aload_n 2, 1) := by decide +kernel
theorem dX4_add_52 : decode cX4_add 52 = .ok (.invokevirtual 34, 3) := by decide +kernel
theorem dX4_add_55 : decode cX4_add 55 = .ok (.putfield 31, 3) := by decide +kernel
theorem dX4_add_58 : decode cX4_add 58 = .ok (.return_, 1) := by decide +kernel
theorem dX5_init_0 : decode cX5_init 0 = .ok (.aload_n 0, 1) := by decide +kernel
theorem dX5_init_1 : decode cX5_init 1 = .ok (.invokespecial 3, 3) := by decide +kernel
theorem dX5_init_4 : decode cX5_init 4 = .ok (.aload_n 0, 1) := by decide +kernel
theorem dX5_init_5 : decode cX5_init 5 = .ok (.sipush 160, 3) := by decide +kernel
theorem dX5_init_8 : decode cX5_init 8 = .ok (.newarray .int, 2) := by decide +kernel
theorem dX5_init_10 : decode cX5_init 10 = .ok (.putfield 9, 3) := by decide +kernel
theorem dX5_init_13 : decode cX5_init 13 = .ok (.aload_n 0, 1) := by decide +kernel
theorem dX5_init_14 : decode cX5_init 14 = .ok (.iconst 0, 1) := by decide +kernel
theorem dX5_init_15 : decode cX5_init 15 = .ok (.putfield 15, 3) := by decide +kernel
theorem dX5_init_18 : decode cX5_init 18 = .ok (.return_, 1) := by decide +kernel
theorem dX5_add_0 : decode cX5_add 0 = .ok (.aload_n 0, 1) := by decide +kernel
theorem dX5_add_1 : decode cX5_add 1 = .ok (.getfield 15, 3) := by decide +kernel
theorem dX5_add_4 : decode cX5_add 4 = .ok (.sipush 160, 3) := by decide +kernel
theorem dX5_add_7 : decode cX5_add 7 = .ok (.if_icmp .ge 23, 3) := by decide +kernel
theorem dX5_add_10 : decode cX5_add 10 = .ok (.aload_n 0, 1) := by decide +kernel
theorem dX5_add_11 : decode cX5_add 11 = .ok (.getfield 9, 3) := by decide +kernel
theorem dX5_add_14 : decode cX5_add 14 = .ok (.aload_n 0, 1) := by decide +kernel
theorem dX5_add_15 : decode cX5_add 15 = .ok (.getfield 15, 3) := by decide +kernel
theorem dX5_add_18 : decode cX5_add 18 = .ok (.iload_n 1, 1) := by decide +kernel
theorem dX5_add_19 : decode cX5_add 19 = .ok (.iastore, 1) := by decide +kernel
theorem dX5_add_20 : decode cX5_add 20 = .ok (.aload_n 0, 1) := by decide +kernel
theorem dX5_add_21 : decode cX5_add 21 = .ok (.dup, 1) := by decide +kernel
theorem dX5_add_22 : decode cX5_add 22 = .ok (.getfield 15, 3) := by decide +kernel
theorem dX5_add_25 : decode cX5_add 25 = .ok (.iconst 1, 1) := by decide +kernel
theorem dX5_add_26 : decode cX5_add 26 = .ok (.iadd, 1) := by decide +kernel
theorem dX5_add_27 : decode cX5_add 27 = .ok (.putfield 15, 3) := by decide +kernel
theorem dX5_add_30 : decode cX5_add 30 = .ok (.return_, 1) := by decide +kernel
theorem dX5_clear_0 : decode cX5_clear 0 = .ok (.aload_n 0, 1) := by decide +kernel
theorem dX5_clear_1 : decode cX5_clear 1 = .ok (.iconst 0, 1) := by decide +kernel
theorem dX5_clear_2 : decode cX5_clear 2 = .ok (.putfield 15, 3) := by decide +kernel
theorem dX5_clear_5 : decode cX5_clear 5 = .ok (.return_, 1) := by decide +kernel
theorem dX5_at_0 : decode cX5_at 0 = .ok (.iload_n 1, 1) := by decide +kernel
theorem dX5_at_1 : decode cX5_at 1 = .ok (.ifCond .lt 20, 3) := by decide +kernel
theorem dX5_at_4 : decode cX5_at 4 = .ok (.iload_n 1, 1) := by decide +kernel
theorem dX5_at_5 : decode cX5_at 5 = .ok (.aload_n 0, 1) := by decide +kernel
theorem dX5_at_6 : decode cX5_at 6 = .ok (.getfield 15, 3) := by decide +kernel
theorem dX5_at_9 : decode cX5_at 9 = .ok (.if_icmp .ge 12, 3) := by decide +kernel
theorem dX5_at_12 : decode cX5_at 12 = .ok (.aload_n 0, 1) := by decide +kernel
theorem dX5_at_13 : decode cX5_at 13 = .ok (.getfield 9, 3) := by decide +kernel
theorem dX5_at_16 : decode cX5_at 16 = .ok (.iload_n 1, 1) := by decide +kernel
theorem dX5_at_17 : decode cX5_at 17 = .ok (.iaload, 1) := by decide +kernel
theorem dX5_at_18 : decode cX5_at 18 = .ok (.goto 4, 3) := by decide +kernel
theorem dX5_at_21 : decode cX5_at 21 = .ok (.iconst (-1), 1) := by decide +kernel
theorem dX5_at_22 : decode cX5_at 22 = .ok (.ireturn, 1) := by decide +kernel
theorem dX6_init_0 : decode cX6_init 0 = .ok (.aload_n 0, 1) := by decide +kernel
theorem dX6_init_1 : decode cX6_init 1 = .ok (.invokespecial 3, 3) := by decide +kernel
theorem dX6_init_4 : decode cX6_init 4 = .ok (.aload_n 0, 1) := by decide +kernel
theorem dX6_init_5 : decode cX6_init 5 = .ok (.sipush 160, 3) := by decide +kernel
theorem dX6_init_8 : decode cX6_init 8 = .ok (.newarray .int, 2) := by decide +kernel
theorem dX6_init_10 : decode cX6_init 10 = .ok (.putfield 9, 3) := by decide +kernel
theorem dX6_init_13 : decode cX6_init 13 = .ok (.aload_n 0, 1) := by decide +kernel
theorem dX6_init_14 : decode cX6_init 14 = .ok (.iconst 0, 1) := by decide +kernel
theorem dX6_init_15 : decode cX6_init 15 = .ok (.putfield 15, 3) := by decide +kernel
theorem dX6_init_18 : decode cX6_init 18 = .ok (.aload_n 0, 1) := by decide +kernel
theorem dX6_init_19 : decode cX6_init 19 = .ok (.iconst 3, 1) := by decide +kernel
theorem dX6_init_20 : decode cX6_init 20 = .ok (.newarray .int, 2) := by decide +kernel
theorem dX6_init_22 : decode cX6_init 22 = .ok (.putfield 19, 3) := by decide +kernel
theorem dX6_init_25 : decode cX6_init 25 = .ok (.aload_n 0, 1) := by decide +kernel
theorem dX6_init_26 : decode cX6_init 26 = .ok (.bipush 40, 2) := by decide +kernel
theorem dX6_init_28 : decode cX6_init 28 = .ok (.newarray .int, 2) := by decide +kernel
theorem dX6_init_30 : decode cX6_init 30 = .ok (.putfield 22, 3) := by decide +kernel
theorem dX6_init_33 : decode cX6_init 33 = .ok (.return_, 1) := by decide +kernel
theorem dX6_clear_0 : decode cX6_clear 0 = .ok (.aload_n 0, 1) := by decide +kernel
theorem dX6_clear_1 : decode cX6_clear 1 = .ok (.iconst 0, 1) := by decide +kernel
theorem dX6_clear_2 : decode cX6_clear 2 = .ok (.putfield 15, 3) := by decide +kernel
theorem dX6_clear_5 : decode cX6_clear 5 = .ok (.return_, 1) := by decide +kernel
theorem dX6_add_0 : decode cX6_add 0 = .ok (.aload_n 0, 1) := by decide +kernel
theorem dX6_add_1 : decode cX6_add 1 = .ok (.getfield 15, 3) := by decide +kernel
theorem dX6_add_4 : decode cX6_add 4 = .ok (.sipush 160, 3) := by decide +kernel
theorem dX6_add_7 : decode cX6_add 7 = .ok (.if_icmp .ge 23, 3) := by decide +kernel
theorem dX6_add_10 : decode cX6_add 10 = .ok (.aload_n 0, 1) := by decide +kernel
theorem dX6_add_11 : decode cX6_add 11 = .ok (.getfield 9, 3) := by decide +kernel
theorem dX6_add_14 : decode cX6_add 14 = .ok (.aload_n 0, 1) := by decide +kernel
theorem dX6_add_15 : decode cX6_add 15 = .ok (.getfield 15, 3) := by decide +kernel
theorem dX6_add_18 : decode cX6_add 18 = .ok (.iload_n 1, 1) := by decide +kernel
theorem dX6_add_19 : decode cX6_add 19 = .ok (.iastore, 1) := by decide +kernel
theorem dX6_add_20 : decode cX6_add 20 = .ok (.aload_n 0, 1) := by decide +kernel
theorem dX6_add_21 : decode cX6_add 21 = .ok (.dup, 1) := by decide +kernel
theorem dX6_add_22 : decode cX6_add 22 = .ok (.getfield 15, 3) := by decide +kernel
theorem dX6_add_25 : decode cX6_add 25 = .ok (.iconst 1, 1) := by decide +kernel
theorem dX6_add_26 : decode cX6_add 26 = .ok (.iadd, 1) := by decide +kernel
theorem dX6_add_27 : decode cX6_add 27 = .ok (.putfield 15, 3) := by decide +kernel
theorem dX6_add_30 : decode cX6_add 30 = .ok (.return_, 1) := by decide +kernel
theorem dX6_endPart_0 : decode cX6_endPart 0 = .ok (.iload_n 1, 1) := by decide +kernel
theorem dX6_endPart_1 : decode cX6_endPart 1 = .ok (.ifCond .lt 18, 3) := by decide +kernel
theorem dX6_endPart_4 : decode cX6_endPart 4 = .ok (.iload_n 1, 1) := by decide +kernel
theorem dX6_endPart_5 : decode cX6_endPart 5 = .ok (.iconst 3, 1) := by decide +kernel
theorem dX6_endPart_6 : decode cX6_endPart 6 = .ok (.if_icmp .ge 13, 3) := by decide +kernel
theorem dX6_endPart_9 : decode cX6_endPart 9 = .ok (.aload_n 0, 1) := by decide +kernel
theorem dX6_endPart_10 : decode cX6_endPart 10 = .ok (.getfield 19, 3) := by decide +kernel
theorem dX6_endPart_13 : decode cX6_endPart 13 = .ok (.iload_n 1, 1) := by decide +kernel
theorem dX6_endPart_14 : decode cX6_endPart 14 = .ok (.aload_n 0, 1) := by decide +kernel
theorem dX6_endPart_15 : decode cX6_endPart 15 = .ok (.getfield 15, 3) := by decide +kernel
theorem dX6_endPart_18 : decode cX6_endPart 18 = .ok (.iastore, 1) := by decide +kernel
theorem dX6_endPart_19 : decode cX6_endPart 19 = .ok (.return_, 1) := by decide +kernel
set_option maxRecDepth 20000 in
theorem ggX6_worth_X6_work : GoodIn wsX6_worth wsX6_work := goodIn_r _ [8, 9, 10, 11, 7, 12, 1, 13, 14, 15, 16, 17, 18, 19, 20, 21, 22, 23, 24, 25] (by decide +kernel) (by decide +kernel)
set_option maxRecDepth 20000 in
theorem gX6_worth_X6_work : GoodIn wsX6_worth (wsV RX6 28 RX6 yX6_work wsX6_work) := goodIn_app (goodIn_of _ (by decide +kernel)) ggX6_worth_X6_work
set_option maxRecDepth 20000 in
theorem ggX6_worth_X6_pull : GoodIn wsX6_worth wsX6_pull := goodIn_r _ [17, 1, 13, 21, 22, 23, 24, 25] (by decide +kernel) (by decide +kernel)
set_option maxRecDepth 20000 in
theorem gX6_worth_X6_pull : GoodIn wsX6_worth (wsV RX6 32 RX6 yX6_pull wsX6_pull) := goodIn_app (goodIn_of _ (by decide +kernel)) ggX6_worth_X6_pull
theorem dX6_worth_0 : decode cX6_worth 0 = .ok (.iload_n 1, 1) := by decide +kernel
theorem dX6_worth_1 : decode cX6_worth 1 = .ok (.ifCond .lt 8, 3) := by decide +kernel
theorem dX6_worth_4 : decode cX6_worth 4 = .ok (.iload_n 1, 1) := by decide +kernel
theorem dX6_worth_5 : decode cX6_worth 5 = .ok (.iconst 3, 1) := by decide +kernel
theorem dX6_worth_6 : decode cX6_worth 6 = .ok (.if_icmp .lt 5, 3) := by decide +kernel
theorem dX6_worth_9 : decode cX6_worth 9 = .ok (.iconst 0, 1) := by decide +kernel
theorem dX6_worth_10 : decode cX6_worth 10 = .ok (.ireturn, 1) := by decide +kernel
theorem dX6_worth_11 : decode cX6_worth 11 = .ok (.aload_n 0, 1) := by decide +kernel
theorem dX6_worth_12 : decode cX6_worth 12 = .ok (.iconst 0, 1) := by decide +kernel
theorem dX6_worth_13 : decode cX6_worth 13 = .ok (.putfield 25, 3) := by decide +kernel
theorem dX6_worth_16 : decode cX6_worth 16 = .ok (.iload_n 1, 1) := by decide +kernel
theorem dX6_worth_17 : decode cX6_worth 17 = .ok (.ifCond .ne 7, 3) := by decide +kernel
theorem dX6_worth_20 : decode cX6_worth 20 = .ok (.iconst 0, 1) := by decide +kernel
theorem dX6_worth_21 : decode cX6_worth 21 = .ok (.goto 11, 3) := by decide +kernel
theorem dX6_worth_24 : decode cX6_worth 24 = .ok (.aload_n 0, 1) := by decide +kernel
theorem dX6_worth_25 : decode cX6_worth 25 = .ok (.getfield 19, 3) := by decide +kernel
theorem dX6_worth_28 : decode cX6_worth 28 = .ok (.iload_n 1, 1) := by decide +kernel
theorem dX6_worth_29 : decode cX6_worth 29 = .ok (.iconst 1, 1) := by decide +kernel
theorem dX6_worth_30 : decode cX6_worth 30 = .ok (.isub, 1) := by decide +kernel
theorem dX6_worth_31 : decode cX6_worth 31 = .ok (.iaload, 1) := by decide +kernel
theorem dX6_worth_32 : decode cX6_worth 32 = .ok (.istore_n 3, 1) := by decide +kernel
theorem dX6_worth_33 : decode cX6_worth 33 = .ok (.iload_n 3, 1) := by decide +kernel
theorem dX6_worth_34 : decode cX6_worth 34 = .ok (.istore 4, 2) := by decide +kernel
theorem dX6_worth_36 : decode cX6_worth 36 = .ok (.iload 4, 2) := by decide +kernel
theorem dX6_worth_38 : decode cX6_worth 38 = .ok (.aload_n 0, 1) := by decide +kernel
theorem dX6_worth_39 : decode cX6_worth 39 = .ok (.getfield 19, 3) := by decide +kernel
theorem dX6_worth_42 : decode cX6_worth 42 = .ok (.iload_n 1, 1) := by decide +kernel
theorem dX6_worth_43 : decode cX6_worth 43 = .ok (.iaload, 1) := by decide +kernel
theorem dX6_worth_44 : decode cX6_worth 44 = .ok (.if_icmp .ge 29, 3) := by decide +kernel
theorem dX6_worth_47 : decode cX6_worth 47 = .ok (.iload 4, 2) := by decide +kernel
theorem dX6_worth_49 : decode cX6_worth 49 = .ok (.sipush 160, 3) := by decide +kernel
theorem dX6_worth_52 : decode cX6_worth 52 = .ok (.if_icmp .ge 21, 3) := by decide +kernel
theorem dX6_worth_55 : decode cX6_worth 55 = .ok (.aload_n 0, 1) := by decide +kernel
theorem dX6_worth_56 : decode cX6_worth 56 = .ok (.aload_n 0, 1) := by decide +kernel
theorem dX6_worth_57 : decode cX6_worth 57 = .ok (.getfield 9, 3) := by decide +kernel
theorem dX6_worth_60 : decode cX6_worth 60 = .ok (.iload 4, 2) := by decide +kernel
theorem dX6_worth_62 : decode cX6_worth 62 = .ok (.iaload, 1) := by decide +kernel
theorem dX6_worth_63 : decode cX6_worth 63 = .ok (.aload_n 2, 1) := by decide +kernel
theorem dX6_worth_64 : decode cX6_worth 64 = .ok (.invokevirtual 28, 3) := by decide +kernel
theorem dX6_worth_67 : decode cX6_worth 67 = .ok (.iinc 4 1, 3) := by decide +kernel
theorem dX6_worth_70 : decode cX6_worth 70 = .ok (.goto (-34), 3) := by decide +kernel
theorem dX6_worth_73 : decode cX6_worth 73 = .ok (.aload_n 0, 1) := by decide +kernel
theorem dX6_worth_74 : decode cX6_worth 74 = .ok (.invokevirtual 32, 3) := by decide +kernel
theorem dX6_worth_77 : decode cX6_worth 77 = .ok (.ireturn, 1) := by decide +kernel
set_option maxRecDepth 20000 in
theorem ggX6_work_X6_push : GoodIn wsX6_work wsX6_push := goodIn_r _ [5, 6, 7, 15, 16, 17, 18, 19] (by decide +kernel) (by decide +kernel)
set_option maxRecDepth 20000 in
theorem gX6_work_X6_push : GoodIn wsX6_work (wsV RX6 38 RX6 yX6_push wsX6_push) := goodIn_app (goodIn_of _ (by decide +kernel)) ggX6_work_X6_push
set_option maxRecDepth 20000 in
theorem ggX6_work_X6_pull : GoodIn wsX6_work wsX6_pull := goodIn_r _ [11, 6, 7, 15, 16, 17, 18, 19] (by decide +kernel) (by decide +kernel)
set_option maxRecDepth 20000 in
theorem gX6_work_X6_pull : GoodIn wsX6_work (wsV RX6 32 RX6 yX6_pull wsX6_pull) := goodIn_app (goodIn_of _ (by decide +kernel)) ggX6_work_X6_pull
set_option maxRecDepth 20000 in
theorem ggX6_work_X6_join : GoodIn wsX6_work wsX6_join := goodIn_r _ [14] (by decide +kernel) (by decide +kernel)
set_option maxRecDepth 20000 in
theorem gX6_work_X6_join : GoodIn wsX6_work (va_wsS RX6 42 yX6_join wsX6_join) := goodIn_app (goodIn_of _ (by decide +kernel)) ggX6_work_X6_join
theorem dX6_work_0 : decode cX6_work 0 = .ok (.iload_n 1, 1) := by decide +kernel
theorem dX6_work_1 : decode cX6_work 1 = .ok (.sipush 10000, 3) := by decide +kernel
theorem dX6_work_4 : decode cX6_work 4 = .ok (.if_icmp .ge 11, 3) := by decide +kernel
theorem dX6_work_7 : decode cX6_work 7 = .ok (.aload_n 0, 1) := by decide +kernel
theorem dX6_work_8 : decode cX6_work 8 = .ok (.iload_n 1, 1) := by decide +kernel
theorem dX6_work_9 : decode cX6_work 9 = .ok (.invokevirtual 38, 3) := by decide +kernel
theorem dX6_work_12 : decode cX6_work 12 = .ok (.goto 99, 3) := by decide +kernel
theorem dX6_work_15 : decode cX6_work 15 = .ok (.iload_n 1, 1) := by decide +kernel
theorem dX6_work_16 : decode cX6_work 16 = .ok (.sipush 10006, 3) := by decide +kernel
theorem dX6_work_19 : decode cX6_work 19 = .ok (.if_icmp .ge 29, 3) := by decide +kernel
theorem dX6_work_22 : decode cX6_work 22 = .ok (.iload_n 1, 1) := by decide +kernel
theorem dX6_work_23 : decode cX6_work 23 = .ok (.sipush 10000, 3) := by decide +kernel
theorem dX6_work_26 : decode cX6_work 26 = .ok (.isub, 1) := by decide +kernel
theorem dX6_work_27 : decode cX6_work 27 = .ok (.istore_n 3, 1) := by decide +kernel
theorem dX6_work_28 : decode cX6_work 28 = .ok (.aload_n 0, 1) := by decide +kernel
theorem dX6_work_29 : decode cX6_work 29 = .ok (.iload_n 3, 1) := by decide +kernel
theorem dX6_work_30 : decode cX6_work 30 = .ok (.aload_n 2, 1) := by decide +kernel
theorem dX6_work_31 : decode cX6_work 31 = .ok (.arraylength, 1) := by decide +kernel
theorem dX6_work_32 : decode cX6_work 32 = .ok (.if_icmp .ge 9, 3) := by decide +kernel
theorem dX6_work_35 : decode cX6_work 35 = .ok (.aload_n 2, 1) := by decide +kernel
theorem dX6_work_36 : decode cX6_work 36 = .ok (.iload_n 3, 1) := by decide +kernel
theorem dX6_work_37 : decode cX6_work 37 = .ok (.iaload, 1) := by decide +kernel
theorem dX6_work_38 : decode cX6_work 38 = .ok (.goto 4, 3) := by decide +kernel
theorem dX6_work_41 : decode cX6_work 41 = .ok (.iconst 0, 1) := by decide +kernel
theorem dX6_work_42 : decode cX6_work 42 = .ok (.invokevirtual 38, 3) := by decide +kernel
theorem dX6_work_45 : decode cX6_work 45 = .ok (.goto 66, 3) := by decide +kernel
theorem dX6_work_48 : decode cX6_work 48 = .ok (.iload_n 1, 1) := by decide +kernel
theorem dX6_work_49 : decode cX6_work 49 = .ok (.sipush 10011, 3) := by decide +kernel
theorem dX6_work_52 : decode cX6_work 52 = .ok (.if_icmp .ne 22, 3) := by decide +kernel
theorem dX6_work_55 : decode cX6_work 55 = .ok (.aload_n 0, 1) := by decide +kernel
theorem dX6_work_56 : decode cX6_work 56 = .ok (.aload_n 0, 1) := by decide +kernel
theorem dX6_work_57 : decode cX6_work 57 = .ok (.invokevirtual 32, 3) := by decide +kernel
theorem dX6_work_60 : decode cX6_work 60 = .ok (.ifCond .ne 7, 3) := by decide +kernel
theorem dX6_work_63 : decode cX6_work 63 = .ok (.iconst 1, 1) := by decide +kernel
theorem dX6_work_64 : decode cX6_work 64 = .ok (.goto 4, 3) := by decide +kernel
theorem dX6_work_67 : decode cX6_work 67 = .ok (.iconst 0, 1) := by decide +kernel
theorem dX6_work_68 : decode cX6_work 68 = .ok (.invokevirtual 38, 3) := by decide +kernel
theorem dX6_work_71 : decode cX6_work 71 = .ok (.goto 40, 3) := by decide +kernel
theorem dX6_work_74 : decode cX6_work 74 = .ok (.iload_n 1, 1) := by decide +kernel
theorem dX6_work_75 : decode cX6_work 75 = .ok (.sipush 10020, 3) := by decide +kernel
theorem dX6_work_78 : decode cX6_work 78 = .ok (.if_icmp .ne 15, 3) := by decide +kernel
theorem dX6_work_81 : decode cX6_work 81 = .ok (.aload_n 0, 1) := by decide +kernel
theorem dX6_work_82 : decode cX6_work 82 = .ok (.aload_n 0, 1) := by decide +kernel
theorem dX6_work_83 : decode cX6_work 83 = .ok (.invokevirtual 32, 3) := by decide +kernel
theorem dX6_work_86 : decode cX6_work 86 = .ok (.ineg, 1) := by decide +kernel
theorem dX6_work_87 : decode cX6_work 87 = .ok (.invokevirtual 38, 3) := by decide +kernel
theorem dX6_work_90 : decode cX6_work 90 = .ok (.goto 21, 3) := by decide +kernel
theorem dX6_work_93 : decode cX6_work 93 = .ok (.aload_n 0, 1) := by decide +kernel
theorem dX6_work_94 : decode cX6_work 94 = .ok (.invokevirtual 32, 3) := by decide +kernel
theorem dX6_work_97 : decode cX6_work 97 = .ok (.istore_n 3, 1) := by decide +kernel
theorem dX6_work_98 : decode cX6_work 98 = .ok (.aload_n 0, 1) := by decide +kernel
theorem dX6_work_99 : decode cX6_work 99 = .ok (.iload_n 1, 1) := by decide +kernel
theorem dX6_work_100 : decode cX6_work 100 = .ok (.aload_n 0, 1) := by decide +kernel
theorem dX6_work_101 : decode cX6_work 101 = .ok (.invokevirtual 32, 3) := by decide +kernel
theorem dX6_work_104 : decode cX6_work 104 = .ok (.iload_n 3, 1) := by decide +kernel
theorem dX6_work_105 : decode cX6_work 105 = .ok (.invokestatic 42, 3) := by decide +kernel
theorem dX6_work_108 : decode cX6_work 108 = .ok (.invokevirtual 38, 3) := by decide +kernel
theorem dX6_work_111 : decode cX6_work 111 = .ok (.return_, 1) := by decide +kernel
theorem dX6_join_0 : decode cX6_join 0 = .ok (.iload_n 0, 1) := by decide +kernel
theorem dX6_join_1 : decode cX6_join 1 = .ok (.tableswitch 121 10009 10019 #[59, 73, 121, 121, 121, 121, 109, 113, 117, 87, 98], 59) := by decide +kernel
theorem dX6_join_60 : decode cX6_join 60 = .ok (.iload_n 1, 1) := by decide +kernel
theorem dX6_join_61 : decode cX6_join 61 = .ok (.ifCond .ne 7, 3) := by decide +kernel
theorem dX6_join_64 : decode cX6_join 64 = .ok (.iload_n 2, 1) := by decide +kernel
theorem dX6_join_65 : decode cX6_join 65 = .ok (.ifCond .eq 7, 3) := by decide +kernel
theorem dX6_join_68 : decode cX6_join 68 = .ok (.iconst 1, 1) := by decide +kernel
theorem dX6_join_69 : decode cX6_join 69 = .ok (.goto 4, 3) := by decide +kernel
theorem dX6_join_72 : decode cX6_join 72 = .ok (.iconst 0, 1) := by decide +kernel
theorem dX6_join_73 : decode cX6_join 73 = .ok (.ireturn, 1) := by decide +kernel
theorem dX6_join_74 : decode cX6_join 74 = .ok (.iload_n 1, 1) := by decide +kernel
theorem dX6_join_75 : decode cX6_join 75 = .ok (.ifCond .eq 11, 3) := by decide +kernel
theorem dX6_join_78 : decode cX6_join 78 = .ok (.iload_n 2, 1) := by decide +kernel
theorem dX6_join_79 : decode cX6_join 79 = .ok (.ifCond .eq 7, 3) := by decide +kernel
theorem dX6_join_82 : decode cX6_join 82 = .ok (.iconst 1, 1) := by decide +kernel
theorem dX6_join_83 : decode cX6_join 83 = .ok (.goto 4, 3) := by decide +kernel
theorem dX6_join_86 : decode cX6_join 86 = .ok (.iconst 0, 1) := by decide +kernel
theorem dX6_join_87 : decode cX6_join 87 = .ok (.ireturn, 1) := by decide +kernel
theorem dX6_join_88 : decode cX6_join 88 = .ok (.iload_n 1, 1) := by decide +kernel
theorem dX6_join_89 : decode cX6_join 89 = .ok (.iload_n 2, 1) := by decide +kernel
theorem dX6_join_90 : decode cX6_join 90 = .ok (.if_icmp .ge 7, 3) := by decide +kernel
theorem dX6_join_93 : decode cX6_join 93 = .ok (.iconst 1, 1) := by decide +kernel
theorem dX6_join_94 : decode cX6_join 94 = .ok (.goto 4, 3) := by decide +kernel
theorem dX6_join_97 : decode cX6_join 97 = .ok (.iconst 0, 1) := by decide +kernel
theorem dX6_join_98 : decode cX6_join 98 = .ok (.ireturn, 1) := by decide +kernel
theorem dX6_join_99 : decode cX6_join 99 = .ok (.iload_n 1, 1) := by decide +kernel
theorem dX6_join_100 : decode cX6_join 100 = .ok (.iload_n 2, 1) := by decide +kernel
theorem dX6_join_101 : decode cX6_join 101 = .ok (.if_icmp .ne 7, 3) := by decide +kernel
theorem dX6_join_104 : decode cX6_join 104 = .ok (.iconst 1, 1) := by decide +kernel
theorem dX6_join_105 : decode cX6_join 105 = .ok (.goto 4, 3) := by decide +kernel
theorem dX6_join_108 : decode cX6_join 108 = .ok (.iconst 0, 1) := by decide +kernel
theorem dX6_join_109 : decode cX6_join 109 = .ok (.ireturn, 1) := by decide +kernel
theorem dX6_join_110 : decode cX6_join 110 = .ok (.iload_n 1, 1) := by decide +kernel
theorem dX6_join_111 : decode cX6_join 111 = .ok (.iload_n 2, 1) := by decide +kernel
theorem dX6_join_112 : decode cX6_join 112 = .ok (.iadd, 1) := by decide +kernel
theorem dX6_join_113 : decode cX6_join 113 = .ok (.ireturn, 1) := by decide +kernel
theorem dX6_join_114 : decode cX6_join 114 = .ok (.iload_n 1, 1) := by decide +kernel
theorem dX6_join_115 : decode cX6_join 115 = .ok (.iload_n 2, 1) := by decide +kernel
theorem dX6_join_116 : decode cX6_join 116 = .ok (.isub, 1) := by decide +kernel
theorem dX6_join_117 : decode cX6_join 117 = .ok (.ireturn, 1) := by decide +kernel
theorem dX6_join_118 : decode cX6_join 118 = .ok (.iload_n 1, 1) := by decide +kernel
theorem dX6_join_119 : decode cX6_join 119 = .ok (.iload_n 2, 1) := by decide +kernel
theorem dX6_join_120 : decode cX6_join 120 = .ok (.imul, 1) := by decide +kernel
theorem dX6_join_121 : decode cX6_join 121 = .ok (.ireturn, 1) := by decide +kernel
theorem dX6_join_122 : decode cX6_join 122 = .ok (.iconst 0, 1) := by decide +kernel
theorem dX6_join_123 : decode cX6_join 123 = .ok (.ireturn, 1) := by decide +kernel
theorem dX6_push_0 : decode cX6_push 0 = .ok (.aload_n 0, 1) := by decide +kernel
theorem dX6_push_1 : decode cX6_push 1 = .ok (.getfield 25, 3) := by decide +kernel
theorem dX6_push_4 : decode cX6_push 4 = .ok (.bipush 40, 2) := by decide +kernel
theorem dX6_push_6 : decode cX6_push 6 = .ok (.if_icmp .ge 23, 3) := by decide +kernel
theorem dX6_push_9 : decode cX6_push 9 = .ok (.aload_n 0, 1) := by decide +kernel
theorem dX6_push_10 : decode cX6_push 10 = .ok (.getfield 22, 3) := by decide +kernel
theorem dX6_push_13 : decode cX6_push 13 = .ok (.aload_n 0, 1) := by decide +kernel
theorem dX6_push_14 : decode cX6_push 14 = .ok (.getfield 25, 3) := by decide +kernel
theorem dX6_push_17 : decode cX6_push 17 = .ok (.iload_n 1, 1) := by decide +kernel
theorem dX6_push_18 : decode cX6_push 18 = .ok (.iastore, 1) := by decide +kernel
theorem dX6_push_19 : decode cX6_push 19 = .ok (.aload_n 0, 1) := by decide +kernel
theorem dX6_push_20 : decode cX6_push 20 = .ok (.dup, 1) := by decide +kernel
theorem dX6_push_21 : decode cX6_push 21 = .ok (.getfield 25, 3) := by decide +kernel
theorem dX6_push_24 : decode cX6_push 24 = .ok (.iconst 1, 1) := by decide +kernel
theorem dX6_push_25 : decode cX6_push 25 = .ok (.iadd, 1) := by decide +kernel
theorem dX6_push_26 : decode cX6_push 26 = .ok (.putfield 25, 3) := by decide +kernel
theorem dX6_push_29 : decode cX6_push 29 = .ok (.return_, 1) := by decide +kernel
theorem dX6_pull_0 : decode cX6_pull 0 = .ok (.aload_n 0, 1) := by decide +kernel
theorem dX6_pull_1 : decode cX6_pull 1 = .ok (.getfield 25, 3) := by decide +kernel
theorem dX6_pull_4 : decode cX6_pull 4 = .ok (.iconst 1, 1) := by decide +kernel
theorem dX6_pull_5 : decode cX6_pull 5 = .ok (.if_icmp .ge 5, 3) := by decide +kernel
theorem dX6_pull_8 : decode cX6_pull 8 = .ok (.iconst 0, 1) := by decide +kernel
theorem dX6_pull_9 : decode cX6_pull 9 = .ok (.ireturn, 1) := by decide +kernel
theorem dX6_pull_10 : decode cX6_pull 10 = .ok (.aload_n 0, 1) := by decide +kernel
theorem dX6_pull_11 : decode cX6_pull 11 = .ok (.dup, 1) := by decide +kernel
theorem dX6_pull_12 : decode cX6_pull 12 = .ok (.getfield 25, 3) := by decide +kernel
theorem dX6_pull_15 : decode cX6_pull 15 = .ok (.iconst 1, 1) := by decide +kernel
theorem dX6_pull_16 : decode cX6_pull 16 = .ok (.isub, 1) := by decide +kernel
theorem dX6_pull_17 : decode cX6_pull 17 = .ok (.putfield 25, 3) := by decide +kernel
theorem dX6_pull_20 : decode cX6_pull 20 = .ok (.aload_n 0, 1) := by decide +kernel
theorem dX6_pull_21 : decode cX6_pull 21 = .ok (.getfield 22, 3) := by decide +kernel
theorem dX6_pull_24 : decode cX6_pull 24 = .ok (.aload_n 0, 1) := by decide +kernel
theorem dX6_pull_25 : decode cX6_pull 25 = .ok (.getfield 25, 3) := by decide +kernel
theorem dX6_pull_28 : decode cX6_pull 28 = .ok (.iaload, 1) := by decide +kernel
theorem dX6_pull_29 : decode cX6_pull 29 = .ok (.ireturn, 1) := by decide +kernel
set_option maxRecDepth 20000 in
theorem ggX8_init_X0_init : GoodIn wsX8_init wsX0_init := goodIn_r _ [46, 47, 2, 3, 33, 48, 49, 238, 239, 240, 241, 242] (by decide +kernel) (by decide +kernel)
set_option maxRecDepth 20000 in
theorem gX8_init_X0_init_n9 : GoodIn wsX8_init (wsX0_init) := ggX8_init_X0_init
set_option maxRecDepth 20000 in
theorem ggX8_init_X1_init : GoodIn wsX8_init wsX1_init := goodIn_r _ [52, 53, 2, 3, 54, 38, 39, 55, 56, 57, 58, 59, 60, 61, 273, 274, 275, 276, 277, 278, 279, 263, 264, 265] (by decide +kernel) (by decide +kernel)
set_option maxRecDepth 20000 in
theorem gX8_init_X1_init : GoodIn wsX8_init (wsX1_init) := ggX8_init_X1_init
set_option maxRecDepth 20000 in
theorem ggX8_init_X5_init : GoodIn wsX8_init wsX5_init := goodIn_r _ [63, 64, 2, 3, 33, 65, 66, 266, 267] (by decide +kernel) (by decide +kernel)
set_option maxRecDepth 20000 in
theorem gX8_init_X5_init_n60 : GoodIn wsX8_init (wsX5_init) := ggX8_init_X5_init
set_option maxRecDepth 20000 in
theorem ggX8_init_X2_init : GoodIn wsX8_init wsX2_init := goodIn_r _ [68, 69, 2, 3] (by decide +kernel) (by decide +kernel)
set_option maxRecDepth 20000 in
theorem gX8_init_X2_init_n67 : GoodIn wsX8_init (wsX2_init) := ggX8_init_X2_init
set_option maxRecDepth 20000 in
theorem ggX8_init_X4_init : GoodIn wsX8_init wsX4_init := goodIn_r _ [59, 60, 2, 3, 61, 273, 274, 275, 276, 277, 278, 279] (by decide +kernel) (by decide +kernel)
set_option maxRecDepth 20000 in
theorem gX8_init_X4_init_n91 : GoodIn wsX8_init (wsX4_init) := ggX8_init_X4_init
set_option maxRecDepth 20000 in
theorem ggX8_init_X0_layOwn : GoodIn wsX8_init wsX0_layOwn := goodIn_r _ [73, 74, 75, 76, 77, 78, 79, 80, 49, 48, 238, 239, 240, 241, 242] (by decide +kernel) (by decide +kernel)
set_option maxRecDepth 20000 in
theorem gX8_init_X0_layOwn : GoodIn wsX8_init (wsV RX8 96 RX0 yX0_layOwn wsX0_layOwn) := goodIn_app (goodIn_of _ (by decide +kernel)) ggX8_init_X0_layOwn
set_option maxRecDepth 20000 in
theorem ggX8_init_X3_init : GoodIn wsX8_init wsX3_init := goodIn_r _ [82, 83, 2, 3, 33, 84, 85, 86, 280, 281, 282] (by decide +kernel) (by decide +kernel)
set_option maxRecDepth 20000 in
theorem gX8_init_X3_init_n100 : GoodIn wsX8_init (wsX3_init) := ggX8_init_X3_init
set_option maxRecDepth 20000 in
theorem ggX8_init_X6_init : GoodIn wsX8_init wsX6_init := goodIn_r _ [88, 89, 2, 3, 33, 90, 91, 92, 93, 283, 284, 285, 286, 287] (by decide +kernel) (by decide +kernel)
set_option maxRecDepth 20000 in
theorem gX8_init_X6_init_n101 : GoodIn wsX8_init (wsX6_init) := ggX8_init_X6_init
set_option maxRecDepth 20000 in
theorem ggX8_init_J0_length_8abf5 : GoodIn wsX8_init wsJ0_length_8abf5 := goodIn_r _ [98, 99, 100, 101, 102, 97, 103, 104, 105] (by decide +kernel) (by decide +kernel)
set_option maxRecDepth 20000 in
theorem gX8_init_J0_length_8abf5 : GoodIn wsX8_init (wsV RX8 104 RJ0 yJ0_length_8abf5 wsJ0_length_8abf5) := goodIn_app (goodIn_of _ (by decide +kernel)) ggX8_init_J0_length_8abf5
set_option maxRecDepth 20000 in
theorem ggX8_init_J0_charAt_5068e : GoodIn wsX8_init wsJ0_charAt_5068e := goodIn_r _ [109, 99, 110, 111, 112, 97, 113, 104, 105, 114, 115, 116, 117, 118, 119, 120, 121, 122, 123, 124, 125, 126, 127, 128, 129, 130, 131, 132, 133, 134, 135, 136, 137, 138, 139, 140, 141, 142] (by decide +kernel) (by decide +kernel)
set_option maxRecDepth 20000 in
theorem gX8_init_J0_charAt_5068e : GoodIn wsX8_init (wsV RX8 110 RJ0 yJ0_charAt_5068e wsJ0_charAt_5068e) := goodIn_app (goodIn_of _ (by decide +kernel)) ggX8_init_J0_charAt_5068e
set_option maxRecDepth 20000 in
theorem ggX8_init_X5_add : GoodIn wsX8_init wsX5_add := goodIn_r _ [146, 66, 65, 266, 267] (by decide +kernel) (by decide +kernel)
set_option maxRecDepth 20000 in
theorem gX8_init_X5_add : GoodIn wsX8_init (wsV RX8 114 RX5 yX5_add wsX5_add) := goodIn_app (goodIn_of _ (by decide +kernel)) ggX8_init_X5_add
set_option maxRecDepth 20000 in
theorem ggX8_init_X2_readText : GoodIn wsX8_init wsX2_readText := goodIn_r _ [150, 151, 152, 153, 154, 155, 156, 157, 158, 44, 159, 91, 160, 161, 162, 28, 163, 164, 165, 166, 24, 167, 66, 65, 168, 169, 170, 171, 172, 173, 174, 175, 176, 177, 178, 179, 180, 181, 182, 95, 96, 97, 98, 99, 100, 101, 102, 103, 104, 105, 183, 107, 108, 109, 110, 111, 112, 113, 114, 115, 116, 117, 118, 119, 120, 121, 122, 123, 124, 125, 126, 127, 128, 129, 130, 131, 132, 133, 134, 135, 136, 137, 138, 139, 140, 141, 142, 184, 185, 186, 187, 188, 189, 190, 191, 192, 193, 194, 195, 196, 197, 198, 199, 200, 201, 202, 203, 204, 205, 206, 207, 208, 90, 209, 210, 211, 212, 213, 214, 215, 216, 217, 218, 219, 220, 221, 222, 223, 224, 225, 226, 227, 228, 229, 230, 231, 232, 233, 92, 268, 269, 270, 271, 272, 283, 284, 285, 286, 287, 266, 267] (by decide +kernel) (by decide +kernel)
set_option maxRecDepth 20000 in
theorem gX8_init_X2_readText : GoodIn wsX8_init (wsV RX8 117 RX2 yX2_readText wsX2_readText) := goodIn_app (goodIn_of _ (by decide +kernel)) ggX8_init_X2_readText
set_option maxRecDepth 20000 in
theorem ggX8_init_X5_clear : GoodIn wsX8_init wsX5_clear := goodIn_r _ [237, 66, 266, 267] (by decide +kernel) (by decide +kernel)
set_option maxRecDepth 20000 in
theorem gX8_init_X5_clear : GoodIn wsX8_init (wsV RX8 121 RX5 yX5_clear wsX5_clear) := goodIn_app (goodIn_of _ (by decide +kernel)) ggX8_init_X5_clear
theorem dX8_init_0 : decode cX8_init 0 = .ok (.aload_n 0, 1) := by decide +kernel
theorem dX8_init_1 : decode cX8_init 1 = .ok (.invokespecial 1, 3) := by decide +kernel
theorem dX8_init_4 : decode cX8_init 4 = .ok (.aload_n 0, 1) := by decide +kernel
theorem dX8_init_5 : decode cX8_init 5 = .ok (.new 7, 3) := by decide +kernel
theorem dX8_init_8 : decode cX8_init 8 = .ok (.dup, 1) := by decide +kernel
theorem dX8_init_9 : decode cX8_init 9 = .ok (.invokespecial 9, 3) := by decide +kernel
theorem dX8_init_12 : decode cX8_init 12 = .ok (.putfield 10, 3) := by decide +kernel
theorem dX8_init_15 : decode cX8_init 15 = .ok (.aload_n 0, 1) := by decide +kernel
theorem dX8_init_16 : decode cX8_init 16 = .ok (.iconst 3, 1) := by decide +kernel
theorem dX8_init_17 : decode cX8_init 17 = .ok (.putfield 16, 3) := by decide +kernel
theorem dX8_init_20 : decode cX8_init 20 = .ok (.aload_n 0, 1) := by decide +kernel
theorem dX8_init_21 : decode cX8_init 21 = .ok (.iconst 0, 1) := by decide +kernel
theorem dX8_init_22 : decode cX8_init 22 = .ok (.putfield 20, 3) := by decide +kernel
theorem dX8_init_25 : decode cX8_init 25 = .ok (.aload_n 0, 1) := by decide +kernel
theorem dX8_init_26 : decode cX8_init 26 = .ok (.new 7, 3) := by decide +kernel
theorem dX8_init_29 : decode cX8_init 29 = .ok (.dup, 1) := by decide +kernel
theorem dX8_init_30 : decode cX8_init 30 = .ok (.invokespecial 9, 3) := by decide +kernel
theorem dX8_init_33 : decode cX8_init 33 = .ok (.putfield 23, 3) := by decide +kernel
theorem dX8_init_36 : decode cX8_init 36 = .ok (.aload_n 0, 1) := by decide +kernel
theorem dX8_init_37 : decode cX8_init 37 = .ok (.iconst 0, 1) := by decide +kernel
theorem dX8_init_38 : decode cX8_init 38 = .ok (.putfield 26, 3) := by decide +kernel
theorem dX8_init_41 : decode cX8_init 41 = .ok (.aload_n 0, 1) := by decide +kernel
theorem dX8_init_42 : decode cX8_init 42 = .ok (.bipush 8, 2) := by decide +kernel
theorem dX8_init_44 : decode cX8_init 44 = .ok (.anewarray 30, 3) := by decide +kernel
theorem dX8_init_47 : decode cX8_init 47 = .ok (.putfield 32, 3) := by decide +kernel
theorem dX8_init_50 : decode cX8_init 50 = .ok (.aload_n 0, 1) := by decide +kernel
theorem dX8_init_51 : decode cX8_init 51 = .ok (.iconst 0, 1) := by decide +kernel
theorem dX8_init_52 : decode cX8_init 52 = .ok (.putfield 36, 3) := by decide +kernel
theorem dX8_init_55 : decode cX8_init 55 = .ok (.aload_n 0, 1) := by decide +kernel
theorem dX8_init_56 : decode cX8_init 56 = .ok (.bipush 12, 2) := by decide +kernel
theorem dX8_init_58 : decode cX8_init 58 = .ok (.anewarray 30, 3) := by decide +kernel
theorem dX8_init_61 : decode cX8_init 61 = .ok (.putfield 39, 3) := by decide +kernel
theorem dX8_init_64 : decode cX8_init 64 = .ok (.aload_n 0, 1) := by decide +kernel
theorem dX8_init_65 : decode cX8_init 65 = .ok (.new 30, 3) := by decide +kernel
theorem dX8_init_68 : decode cX8_init 68 = .ok (.dup, 1) := by decide +kernel
theorem dX8_init_69 : decode cX8_init 69 = .ok (.iconst 2, 1) := by decide +kernel
theorem dX8_init_70 : decode cX8_init 70 = .ok (.iconst 0, 1) := by decide +kernel
theorem dX8_init_71 : decode cX8_init 71 = .ok (.invokespecial 42, 3) := by decide +kernel
theorem dX8_init_74 : decode cX8_init 74 = .ok (.putfield 45, 3) := by decide +kernel
theorem dX8_init_77 : decode cX8_init 77 = .ok (.aload_n 0, 1) := by decide +kernel
theorem dX8_init_78 : decode cX8_init 78 = .ok (.bipush 6, 2) := by decide +kernel
theorem dX8_init_80 : decode cX8_init 80 = .ok (.anewarray 49, 3) := by decide +kernel
theorem dX8_init_83 : decode cX8_init 83 = .ok (.putfield 51, 3) := by decide +kernel
theorem dX8_init_86 : decode cX8_init 86 = .ok (.aload_n 0, 1) := by decide +kernel
theorem dX8_init_87 : decode cX8_init 87 = .ok (.iconst 0, 1) := by decide +kernel
theorem dX8_init_88 : decode cX8_init 88 = .ok (.putfield 55, 3) := by decide +kernel
theorem dX8_init_91 : decode cX8_init 91 = .ok (.aload_n 0, 1) := by decide +kernel
theorem dX8_init_92 : decode cX8_init 92 = .ok (.new 58, 3) := by decide +kernel
theorem dX8_init_95 : decode cX8_init 95 = .ok (.dup, 1) := by decide +kernel
theorem dX8_init_96 : decode cX8_init 96 = .ok (.invokespecial 60, 3) := by decide +kernel
theorem dX8_init_99 : decode cX8_init 99 = .ok (.putfield 61, 3) := by decide +kernel
theorem dX8_init_102 : decode cX8_init 102 = .ok (.aload_n 0, 1) := by decide +kernel
theorem dX8_init_103 : decode cX8_init 103 = .ok (.new 65, 3) := by decide +kernel
theorem dX8_init_106 : decode cX8_init 106 = .ok (.dup, 1) := by decide +kernel
theorem dX8_init_107 : decode cX8_init 107 = .ok (.invokespecial 67, 3) := by decide +kernel
theorem dX8_init_110 : decode cX8_init 110 = .ok (.putfield 68, 3) := by decide +kernel
theorem dX8_init_113 : decode cX8_init 113 = .ok (.aload_n 0, 1) := by decide +kernel
theorem dX8_init_114 : decode cX8_init 114 = .ok (.iconst 4, 1) := by decide +kernel
theorem dX8_init_115 : decode cX8_init 115 = .ok (.anewarray 72, 3) := by decide +kernel
theorem dX8_init_118 : decode cX8_init 118 = .ok (.putfield 74, 3) := by decide +kernel
theorem dX8_init_121 : decode cX8_init 121 = .ok (.aload_n 0, 1) := by decide +kernel
theorem dX8_init_122 : decode cX8_init 122 = .ok (.new 7, 3) := by decide +kernel
theorem dX8_init_125 : decode cX8_init 125 = .ok (.dup, 1) := by decide +kernel
theorem dX8_init_126 : decode cX8_init 126 = .ok (.invokespecial 9, 3) := by decide +kernel
theorem dX8_init_129 : decode cX8_init 129 = .ok (.putfield 78, 3) := by decide +kernel
theorem dX8_init_132 : decode cX8_init 132 = .ok (.aload_n 0, 1) := by decide +kernel
theorem dX8_init_133 : decode cX8_init 133 = .ok (.bipush 6, 2) := by decide +kernel
theorem dX8_init_135 : decode cX8_init 135 = .ok (.newarray .int, 2) := by decide +kernel
theorem dX8_init_137 : decode cX8_init 137 = .ok (.putfield 81, 3) := by decide +kernel
theorem dX8_init_140 : decode cX8_init 140 = .ok (.aload_n 0, 1) := by decide +kernel
theorem dX8_init_141 : decode cX8_init 141 = .ok (.bipush 13, 2) := by decide +kernel
theorem dX8_init_143 : decode cX8_init 143 = .ok (.newarray .long, 2) := by decide +kernel
theorem dX8_init_145 : decode cX8_init 145 = .ok (.putfield 85, 3) := by decide +kernel
theorem dX8_init_148 : decode cX8_init 148 = .ok (.aload_n 0, 1) := by decide +kernel
theorem dX8_init_149 : decode cX8_init 149 = .ok (.new 89, 3) := by decide +kernel
theorem dX8_init_152 : decode cX8_init 152 = .ok (.dup, 1) := by decide +kernel
theorem dX8_init_153 : decode cX8_init 153 = .ok (.invokespecial 91, 3) := by decide +kernel
theorem dX8_init_156 : decode cX8_init 156 = .ok (.putfield 92, 3) := by decide +kernel
theorem dX8_init_159 : decode cX8_init 159 = .ok (.aload_n 0, 1) := by decide +kernel
theorem dX8_init_160 : decode cX8_init 160 = .ok (.getfield 10, 3) := by decide +kernel
theorem dX8_init_163 : decode cX8_init 163 = .ok (.bipush 6, 2) := by decide +kernel
theorem dX8_init_165 : decode cX8_init 165 = .ok (.invokevirtual 96, 3) := by decide +kernel
theorem dX8_init_168 : decode cX8_init 168 = .ok (.iconst 0, 1) := by decide +kernel
theorem dX8_init_169 : decode cX8_init 169 = .ok (.istore_n 1, 1) := by decide +kernel
theorem dX8_init_170 : decode cX8_init 170 = .ok (.iload_n 1, 1) := by decide +kernel
theorem dX8_init_171 : decode cX8_init 171 = .ok (.iconst 4, 1) := by decide +kernel
theorem dX8_init_172 : decode cX8_init 172 = .ok (.if_icmp .ge 22, 3) := by decide +kernel
theorem dX8_init_175 : decode cX8_init 175 = .ok (.aload_n 0, 1) := by decide +kernel
theorem dX8_init_176 : decode cX8_init 176 = .ok (.getfield 74, 3) := by decide +kernel
theorem dX8_init_179 : decode cX8_init 179 = .ok (.iload_n 1, 1) := by decide +kernel
theorem dX8_init_180 : decode cX8_init 180 = .ok (.new 72, 3) := by decide +kernel
theorem dX8_init_183 : decode cX8_init 183 = .ok (.dup, 1) := by decide +kernel
theorem dX8_init_184 : decode cX8_init 184 = .ok (.invokespecial 100, 3) := by decide +kernel
theorem dX8_init_187 : decode cX8_init 187 = .ok (.aastore, 1) := by decide +kernel
theorem dX8_init_188 : decode cX8_init 188 = .ok (.iinc 1 1, 3) := by decide +kernel
theorem dX8_init_191 : decode cX8_init 191 = .ok (.goto (-21), 3) := by decide +kernel
theorem dX8_init_194 : decode cX8_init 194 = .ok (.iconst 0, 1) := by decide +kernel
theorem dX8_init_195 : decode cX8_init 195 = .ok (.istore_n 1, 1) := by decide +kernel
theorem dX8_init_196 : decode cX8_init 196 = .ok (.iload_n 1, 1) := by decide +kernel
theorem dX8_init_197 : decode cX8_init 197 = .ok (.bipush 6, 2) := by decide +kernel
theorem dX8_init_199 : decode cX8_init 199 = .ok (.if_icmp .ge 22, 3) := by decide +kernel
theorem dX8_init_202 : decode cX8_init 202 = .ok (.aload_n 0, 1) := by decide +kernel
theorem dX8_init_203 : decode cX8_init 203 = .ok (.getfield 51, 3) := by decide +kernel
theorem dX8_init_206 : decode cX8_init 206 = .ok (.iload_n 1, 1) := by decide +kernel
theorem dX8_init_207 : decode cX8_init 207 = .ok (.new 49, 3) := by decide +kernel
theorem dX8_init_210 : decode cX8_init 210 = .ok (.dup, 1) := by decide +kernel
theorem dX8_init_211 : decode cX8_init 211 = .ok (.invokespecial 101, 3) := by decide +kernel
theorem dX8_init_214 : decode cX8_init 214 = .ok (.aastore, 1) := by decide +kernel
theorem dX8_init_215 : decode cX8_init 215 = .ok (.iinc 1 1, 3) := by decide +kernel
theorem dX8_init_218 : decode cX8_init 218 = .ok (.goto (-22), 3) := by decide +kernel
theorem dX8_init_221 : decode cX8_init 221 = .ok (.iconst 0, 1) := by decide +kernel
theorem dX8_init_222 : decode cX8_init 222 = .ok (.istore_n 1, 1) := by decide +kernel
theorem dX8_init_223 : decode cX8_init 223 = .ok (.iload_n 1, 1) := by decide +kernel
theorem dX8_init_224 : decode cX8_init 224 = .ok (.bipush 12, 2) := by decide +kernel
theorem dX8_init_226 : decode cX8_init 226 = .ok (.if_icmp .ge 24, 3) := by decide +kernel
theorem dX8_init_229 : decode cX8_init 229 = .ok (.aload_n 0, 1) := by decide +kernel
theorem dX8_init_230 : decode cX8_init 230 = .ok (.getfield 39, 3) := by decide +kernel
theorem dX8_init_233 : decode cX8_init 233 = .ok (.iload_n 1, 1) := by decide +kernel
theorem dX8_init_234 : decode cX8_init 234 = .ok (.new 30, 3) := by decide +kernel
theorem dX8_init_237 : decode cX8_init 237 = .ok (.dup, 1) := by decide +kernel
theorem dX8_init_238 : decode cX8_init 238 = .ok (.iconst 3, 1) := by decide +kernel
theorem dX8_init_239 : decode cX8_init 239 = .ok (.iload_n 1, 1) := by decide +kernel
theorem dX8_init_240 : decode cX8_init 240 = .ok (.invokespecial 42, 3) := by decide +kernel
theorem dX8_init_243 : decode cX8_init 243 = .ok (.aastore, 1) := by decide +kernel
theorem dX8_init_244 : decode cX8_init 244 = .ok (.iinc 1 1, 3) := by decide +kernel
theorem dX8_init_247 : decode cX8_init 247 = .ok (.goto (-24), 3) := by decide +kernel
theorem dX8_init_250 : decode cX8_init 250 = .ok (.iconst 0, 1) := by decide +kernel
theorem dX8_init_251 : decode cX8_init 251 = .ok (.istore_n 1, 1) := by decide +kernel
theorem dX8_init_252 : decode cX8_init 252 = .ok (.iload_n 1, 1) := by decide +kernel
theorem dX8_init_253 : decode cX8_init 253 = .ok (.ldc 102, 2) := by decide +kernel
theorem dX8_init_255 : decode cX8_init 255 = .ok (.invokevirtual 104, 3) := by decide +kernel
theorem dX8_init_258 : decode cX8_init 258 = .ok (.if_icmp .ge 22, 3) := by decide +kernel
theorem dX8_init_261 : decode cX8_init 261 = .ok (.aload_n 0, 1) := by decide +kernel
theorem dX8_init_262 : decode cX8_init 262 = .ok (.getfield 61, 3) := by decide +kernel
theorem dX8_init_265 : decode cX8_init 265 = .ok (.ldc 102, 2) := by decide +kernel
theorem dX8_init_267 : decode cX8_init 267 = .ok (.iload_n 1, 1) := by decide +kernel
theorem dX8_init_268 : decode cX8_init 268 = .ok (.invokevirtual 110, 3) := by decide +kernel
theorem dX8_init_271 : decode cX8_init 271 = .ok (.invokevirtual 114, 3) := by decide +kernel
theorem dX8_init_274 : decode cX8_init 274 = .ok (.iinc 1 1, 3) := by decide +kernel
theorem dX8_init_277 : decode cX8_init 277 = .ok (.goto (-25), 3) := by decide +kernel
theorem dX8_init_280 : decode cX8_init 280 = .ok (.aload_n 0, 1) := by decide +kernel
theorem dX8_init_281 : decode cX8_init 281 = .ok (.getfield 68, 3) := by decide +kernel
theorem dX8_init_284 : decode cX8_init 284 = .ok (.aload_n 0, 1) := by decide +kernel
theorem dX8_init_285 : decode cX8_init 285 = .ok (.getfield 61, 3) := by decide +kernel
theorem dX8_init_288 : decode cX8_init 288 = .ok (.aload_n 0, 1) := by decide +kernel
theorem dX8_init_289 : decode cX8_init 289 = .ok (.getfield 51, 3) := by decide +kernel
theorem dX8_init_292 : decode cX8_init 292 = .ok (.iconst 0, 1) := by decide +kernel
theorem dX8_init_293 : decode cX8_init 293 = .ok (.aaload, 1) := by decide +kernel
theorem dX8_init_294 : decode cX8_init 294 = .ok (.invokevirtual 117, 3) := by decide +kernel
theorem dX8_init_297 : decode cX8_init 297 = .ok (.pop, 1) := by decide +kernel
theorem dX8_init_298 : decode cX8_init 298 = .ok (.aload_n 0, 1) := by decide +kernel
theorem dX8_init_299 : decode cX8_init 299 = .ok (.getfield 61, 3) := by decide +kernel
theorem dX8_init_302 : decode cX8_init 302 = .ok (.invokevirtual 121, 3) := by decide +kernel
theorem dX8_init_305 : decode cX8_init 305 = .ok (.aload_n 0, 1) := by decide +kernel
theorem dX8_init_306 : decode cX8_init 306 = .ok (.iconst 1, 1) := by decide +kernel
theorem dX8_init_307 : decode cX8_init 307 = .ok (.putfield 55, 3) := by decide +kernel
theorem dX8_init_310 : decode cX8_init 310 = .ok (.return_, 1) := by decide +kernel
set_option maxRecDepth 20000 in
theorem ggX8_boxes_X0_layOwn : GoodIn wsX8_boxes wsX0_layOwn := goodIn_r _ [6, 7, 8, 9, 10, 11, 12, 13, 14, 15, 36, 37, 38, 39, 40] (by decide +kernel) (by decide +kernel)
set_option maxRecDepth 20000 in
theorem gX8_boxes_X0_layOwn : GoodIn wsX8_boxes (wsV RX8 96 RX0 yX0_layOwn wsX0_layOwn) := goodIn_app (goodIn_of _ (by decide +kernel)) ggX8_boxes_X0_layOwn
theorem dX8_boxes_0 : decode cX8_boxes 0 = .ok (.iload_n 1, 1) := by decide +kernel
theorem dX8_boxes_1 : decode cX8_boxes 1 = .ok (.iconst 1, 1) := by decide +kernel
theorem dX8_boxes_2 : decode cX8_boxes 2 = .ok (.if_icmp .lt 9, 3) := by decide +kernel
theorem dX8_boxes_5 : decode cX8_boxes 5 = .ok (.iload_n 1, 1) := by decide +kernel
theorem dX8_boxes_6 : decode cX8_boxes 6 = .ok (.bipush 12, 2) := by decide +kernel
theorem dX8_boxes_8 : decode cX8_boxes 8 = .ok (.if_icmp .le 6, 3) := by decide +kernel
theorem dX8_boxes_11 : decode cX8_boxes 11 = .ok (.bipush (-2), 2) := by decide +kernel
theorem dX8_boxes_13 : decode cX8_boxes 13 = .ok (.ireturn, 1) := by decide +kernel
theorem dX8_boxes_14 : decode cX8_boxes 14 = .ok (.aload_n 0, 1) := by decide +kernel
theorem dX8_boxes_15 : decode cX8_boxes 15 = .ok (.getfield 10, 3) := by decide +kernel
theorem dX8_boxes_18 : decode cX8_boxes 18 = .ok (.getfield 124, 3) := by decide +kernel
theorem dX8_boxes_21 : decode cX8_boxes 21 = .ok (.istore_n 2, 1) := by decide +kernel
theorem dX8_boxes_22 : decode cX8_boxes 22 = .ok (.aload_n 0, 1) := by decide +kernel
theorem dX8_boxes_23 : decode cX8_boxes 23 = .ok (.getfield 10, 3) := by decide +kernel
theorem dX8_boxes_26 : decode cX8_boxes 26 = .ok (.iload_n 1, 1) := by decide +kernel
theorem dX8_boxes_27 : decode cX8_boxes 27 = .ok (.invokevirtual 96, 3) := by decide +kernel
theorem dX8_boxes_30 : decode cX8_boxes 30 = .ok (.iload_n 2, 1) := by decide +kernel
theorem dX8_boxes_31 : decode cX8_boxes 31 = .ok (.ireturn, 1) := by decide +kernel
theorem dX8_looks_0 : decode cX8_looks 0 = .ok (.iload_n 1, 1) := by decide +kernel
theorem dX8_looks_1 : decode cX8_looks 1 = .ok (.iconst 1, 1) := by decide +kernel
theorem dX8_looks_2 : decode cX8_looks 2 = .ok (.if_icmp .lt 9, 3) := by decide +kernel
theorem dX8_looks_5 : decode cX8_looks 5 = .ok (.iload_n 1, 1) := by decide +kernel
theorem dX8_looks_6 : decode cX8_looks 6 = .ok (.bipush 12, 2) := by decide +kernel
theorem dX8_looks_8 : decode cX8_looks 8 = .ok (.if_icmp .le 6, 3) := by decide +kernel
theorem dX8_looks_11 : decode cX8_looks 11 = .ok (.bipush (-2), 2) := by decide +kernel
theorem dX8_looks_13 : decode cX8_looks 13 = .ok (.ireturn, 1) := by decide +kernel
theorem dX8_looks_14 : decode cX8_looks 14 = .ok (.aload_n 0, 1) := by decide +kernel
theorem dX8_looks_15 : decode cX8_looks 15 = .ok (.getfield 16, 3) := by decide +kernel
theorem dX8_looks_18 : decode cX8_looks 18 = .ok (.istore_n 2, 1) := by decide +kernel
theorem dX8_looks_19 : decode cX8_looks 19 = .ok (.aload_n 0, 1) := by decide +kernel
theorem dX8_looks_20 : decode cX8_looks 20 = .ok (.iload_n 1, 1) := by decide +kernel
theorem dX8_looks_21 : decode cX8_looks 21 = .ok (.putfield 16, 3) := by decide +kernel
theorem dX8_looks_24 : decode cX8_looks 24 = .ok (.iload_n 2, 1) := by decide +kernel
theorem dX8_looks_25 : decode cX8_looks 25 = .ok (.ireturn, 1) := by decide +kernel
set_option maxRecDepth 20000 in
theorem ggX8_lay_X8_sheetAt : GoodIn wsX8_lay wsX8_sheetAt := goodIn_r _ [6, 7, 41, 42, 43, 44, 45, 46, 47, 48, 49, 50, 51, 52, 53, 54, 55, 56, 57, 58, 59, 60] (by decide +kernel) (by decide +kernel)
set_option maxRecDepth 20000 in
theorem gX8_lay_X8_sheetAt : GoodIn wsX8_lay (wsV RX8 127 RX8 yX8_sheetAt wsX8_sheetAt) := goodIn_app (goodIn_of _ (by decide +kernel)) ggX8_lay_X8_sheetAt
set_option maxRecDepth 20000 in
theorem ggX8_lay_X3_isMissing : GoodIn wsX8_lay wsX3_isMissing := goodIn_r _ [12, 13, 38, 39, 40] (by decide +kernel) (by decide +kernel)
set_option maxRecDepth 20000 in
theorem gX8_lay_X3_isMissing : GoodIn wsX8_lay (wsV RX8 131 RX3 yX3_isMissing wsX3_isMissing) := goodIn_app (goodIn_of _ (by decide +kernel)) ggX8_lay_X3_isMissing
set_option maxRecDepth 20000 in
theorem ggX8_lay_X8_holdsLaying : GoodIn wsX8_lay wsX8_holdsLaying := goodIn_r _ [16, 17, 18, 19, 11, 20, 21, 22, 23, 24, 25, 26, 38, 39, 40] (by decide +kernel) (by decide +kernel)
set_option maxRecDepth 20000 in
theorem gX8_lay_X8_holdsLaying : GoodIn wsX8_lay (va_wsS RX8 136 yX8_holdsLaying wsX8_holdsLaying) := goodIn_app (goodIn_of _ (by decide +kernel)) ggX8_lay_X8_holdsLaying
set_option maxRecDepth 20000 in
theorem ggX8_lay_X3_at : GoodIn wsX8_lay wsX3_at := goodIn_r _ [20, 21, 22, 23, 24, 11, 25, 26, 38, 39, 40] (by decide +kernel) (by decide +kernel)
set_option maxRecDepth 20000 in
theorem gX8_lay_X3_at : GoodIn wsX8_lay (wsV RX8 140 RX3 yX3_at wsX3_at) := goodIn_app (goodIn_of _ (by decide +kernel)) ggX8_lay_X3_at
set_option maxRecDepth 20000 in
theorem ggX8_lay_X0_put : GoodIn wsX8_lay wsX0_put := goodIn_r _ [31, 32, 33, 34, 35, 30, 36, 37, 61, 62, 63, 64, 65] (by decide +kernel) (by decide +kernel)
set_option maxRecDepth 20000 in
theorem gX8_lay_X0_put : GoodIn wsX8_lay (wsV RX8 144 RX0 yX0_put wsX0_put) := goodIn_app (goodIn_of _ (by decide +kernel)) ggX8_lay_X0_put
theorem dX8_lay_0 : decode cX8_lay 0 = .ok (.aload_n 0, 1) := by decide +kernel
theorem dX8_lay_1 : decode cX8_lay 1 = .ok (.iload_n 1, 1) := by decide +kernel
theorem dX8_lay_2 : decode cX8_lay 2 = .ok (.invokevirtual 127, 3) := by decide +kernel
theorem dX8_lay_5 : decode cX8_lay 5 = .ok (.astore_n 2, 1) := by decide +kernel
theorem dX8_lay_6 : decode cX8_lay 6 = .ok (.aload_n 2, 1) := by decide +kernel
theorem dX8_lay_7 : decode cX8_lay 7 = .ok (.ifnonnull 6, 3) := by decide +kernel
theorem dX8_lay_10 : decode cX8_lay 10 = .ok (.bipush (-2), 2) := by decide +kernel
theorem dX8_lay_12 : decode cX8_lay 12 = .ok (.ireturn, 1) := by decide +kernel
theorem dX8_lay_13 : decode cX8_lay 13 = .ok (.aload_n 2, 1) := by decide +kernel
theorem dX8_lay_14 : decode cX8_lay 14 = .ok (.invokevirtual 131, 3) := by decide +kernel
theorem dX8_lay_17 : decode cX8_lay 17 = .ok (.ifCond .eq 6, 3) := by decide +kernel
theorem dX8_lay_20 : decode cX8_lay 20 = .ok (.bipush (-11), 2) := by decide +kernel
theorem dX8_lay_22 : decode cX8_lay 22 = .ok (.ireturn, 1) := by decide +kernel
theorem dX8_lay_23 : decode cX8_lay 23 = .ok (.aload_n 2, 1) := by decide +kernel
theorem dX8_lay_24 : decode cX8_lay 24 = .ok (.getfield 135, 3) := by decide +kernel
theorem dX8_lay_27 : decode cX8_lay 27 = .ok (.aload_n 0, 1) := by decide +kernel
theorem dX8_lay_28 : decode cX8_lay 28 = .ok (.getfield 10, 3) := by decide +kernel
theorem dX8_lay_31 : decode cX8_lay 31 = .ok (.getfield 124, 3) := by decide +kernel
theorem dX8_lay_34 : decode cX8_lay 34 = .ok (.if_icmp .ne 10, 3) := by decide +kernel
theorem dX8_lay_37 : decode cX8_lay 37 = .ok (.aload_n 2, 1) := by decide +kernel
theorem dX8_lay_38 : decode cX8_lay 38 = .ok (.invokestatic 136, 3) := by decide +kernel
theorem dX8_lay_41 : decode cX8_lay 41 = .ok (.ifCond .ne 6, 3) := by decide +kernel
theorem dX8_lay_44 : decode cX8_lay 44 = .ok (.bipush (-2), 2) := by decide +kernel
theorem dX8_lay_46 : decode cX8_lay 46 = .ok (.ireturn, 1) := by decide +kernel
theorem dX8_lay_47 : decode cX8_lay 47 = .ok (.iconst 0, 1) := by decide +kernel
theorem dX8_lay_48 : decode cX8_lay 48 = .ok (.istore_n 3, 1) := by decide +kernel
theorem dX8_lay_49 : decode cX8_lay 49 = .ok (.iconst 0, 1) := by decide +kernel
theorem dX8_lay_50 : decode cX8_lay 50 = .ok (.istore 4, 2) := by decide +kernel
theorem dX8_lay_52 : decode cX8_lay 52 = .ok (.iload 4, 2) := by decide +kernel
theorem dX8_lay_54 : decode cX8_lay 54 = .ok (.aload_n 0, 1) := by decide +kernel
theorem dX8_lay_55 : decode cX8_lay 55 = .ok (.getfield 10, 3) := by decide +kernel
theorem dX8_lay_58 : decode cX8_lay 58 = .ok (.getfield 124, 3) := by decide +kernel
theorem dX8_lay_61 : decode cX8_lay 61 = .ok (.if_icmp .ge 37, 3) := by decide +kernel
theorem dX8_lay_64 : decode cX8_lay 64 = .ok (.aload_n 0, 1) := by decide +kernel
theorem dX8_lay_65 : decode cX8_lay 65 = .ok (.getfield 10, 3) := by decide +kernel
theorem dX8_lay_68 : decode cX8_lay 68 = .ok (.iload 4, 2) := by decide +kernel
theorem dX8_lay_70 : decode cX8_lay 70 = .ok (.aload_n 2, 1) := by decide +kernel
theorem dX8_lay_71 : decode cX8_lay 71 = .ok (.iload 4, 2) := by decide +kernel
theorem dX8_lay_73 : decode cX8_lay 73 = .ok (.invokevirtual 140, 3) := by decide +kernel
theorem dX8_lay_76 : decode cX8_lay 76 = .ok (.invokevirtual 144, 3) := by decide +kernel
theorem dX8_lay_79 : decode cX8_lay 79 = .ok (.aload_n 2, 1) := by decide +kernel
theorem dX8_lay_80 : decode cX8_lay 80 = .ok (.iload 4, 2) := by decide +kernel
theorem dX8_lay_82 : decode cX8_lay 82 = .ok (.invokevirtual 140, 3) := by decide +kernel
theorem dX8_lay_85 : decode cX8_lay 85 = .ok (.iconst (-1), 1) := by decide +kernel
theorem dX8_lay_86 : decode cX8_lay 86 = .ok (.if_icmp .eq 6, 3) := by decide +kernel
theorem dX8_lay_89 : decode cX8_lay 89 = .ok (.iinc 3 1, 3) := by decide +kernel
theorem dX8_lay_92 : decode cX8_lay 92 = .ok (.iinc 4 1, 3) := by decide +kernel
theorem dX8_lay_95 : decode cX8_lay 95 = .ok (.goto (-43), 3) := by decide +kernel
theorem dX8_lay_98 : decode cX8_lay 98 = .ok (.iload_n 3, 1) := by decide +kernel
theorem dX8_lay_99 : decode cX8_lay 99 = .ok (.ireturn, 1) := by decide +kernel
set_option maxRecDepth 20000 in
theorem ggX8_holdsLaying_X3_at : GoodIn wsX8_holdsLaying wsX3_at := goodIn_r _ [5, 6, 7, 8, 9, 4, 10, 11, 12, 13, 14] (by decide +kernel) (by decide +kernel)
set_option maxRecDepth 20000 in
theorem gX8_holdsLaying_X3_at : GoodIn wsX8_holdsLaying (wsV RX8 140 RX3 yX3_at wsX3_at) := goodIn_app (goodIn_of _ (by decide +kernel)) ggX8_holdsLaying_X3_at
theorem dX8_holdsLaying_0 : decode cX8_holdsLaying 0 = .ok (.iconst 0, 1) := by decide +kernel
theorem dX8_holdsLaying_1 : decode cX8_holdsLaying 1 = .ok (.istore_n 1, 1) := by decide +kernel
theorem dX8_holdsLaying_2 : decode cX8_holdsLaying 2 = .ok (.iconst 0, 1) := by decide +kernel
theorem dX8_holdsLaying_3 : decode cX8_holdsLaying 3 = .ok (.istore_n 2, 1) := by decide +kernel
theorem dX8_holdsLaying_4 : decode cX8_holdsLaying 4 = .ok (.iload_n 2, 1) := by decide +kernel
theorem dX8_holdsLaying_5 : decode cX8_holdsLaying 5 = .ok (.aload_n 0, 1) := by decide +kernel
theorem dX8_holdsLaying_6 : decode cX8_holdsLaying 6 = .ok (.getfield 135, 3) := by decide +kernel
theorem dX8_holdsLaying_9 : decode cX8_holdsLaying 9 = .ok (.if_icmp .ge 52, 3) := by decide +kernel
theorem dX8_holdsLaying_12 : decode cX8_holdsLaying 12 = .ok (.aload_n 0, 1) := by decide +kernel
theorem dX8_holdsLaying_13 : decode cX8_holdsLaying 13 = .ok (.iload_n 2, 1) := by decide +kernel
theorem dX8_holdsLaying_14 : decode cX8_holdsLaying 14 = .ok (.invokevirtual 140, 3) := by decide +kernel
theorem dX8_holdsLaying_17 : decode cX8_holdsLaying 17 = .ok (.istore_n 3, 1) := by decide +kernel
theorem dX8_holdsLaying_18 : decode cX8_holdsLaying 18 = .ok (.iload_n 3, 1) := by decide +kernel
theorem dX8_holdsLaying_19 : decode cX8_holdsLaying 19 = .ok (.iconst (-1), 1) := by decide +kernel
theorem dX8_holdsLaying_20 : decode cX8_holdsLaying 20 = .ok (.if_icmp .lt 11, 3) := by decide +kernel
theorem dX8_holdsLaying_23 : decode cX8_holdsLaying 23 = .ok (.iload_n 3, 1) := by decide +kernel
theorem dX8_holdsLaying_24 : decode cX8_holdsLaying 24 = .ok (.aload_n 0, 1) := by decide +kernel
theorem dX8_holdsLaying_25 : decode cX8_holdsLaying 25 = .ok (.getfield 135, 3) := by decide +kernel
theorem dX8_holdsLaying_28 : decode cX8_holdsLaying 28 = .ok (.if_icmp .lt 5, 3) := by decide +kernel
theorem dX8_holdsLaying_31 : decode cX8_holdsLaying 31 = .ok (.iconst 0, 1) := by decide +kernel
theorem dX8_holdsLaying_32 : decode cX8_holdsLaying 32 = .ok (.ireturn, 1) := by decide +kernel
theorem dX8_holdsLaying_33 : decode cX8_holdsLaying 33 = .ok (.iload_n 3, 1) := by decide +kernel
theorem dX8_holdsLaying_34 : decode cX8_holdsLaying 34 = .ok (.iconst (-1), 1) := by decide +kernel
theorem dX8_holdsLaying_35 : decode cX8_holdsLaying 35 = .ok (.if_icmp .eq 20, 3) := by decide +kernel
theorem dX8_holdsLaying_38 : decode cX8_holdsLaying 38 = .ok (.iload_n 1, 1) := by decide +kernel
theorem dX8_holdsLaying_39 : decode cX8_holdsLaying 39 = .ok (.iload_n 3, 1) := by decide +kernel
theorem dX8_holdsLaying_40 : decode cX8_holdsLaying 40 = .ok (.ishr, 1) := by decide +kernel
theorem dX8_holdsLaying_41 : decode cX8_holdsLaying 41 = .ok (.iconst 1, 1) := by decide +kernel
theorem dX8_holdsLaying_42 : decode cX8_holdsLaying 42 = .ok (.iand, 1) := by decide +kernel
theorem dX8_holdsLaying_43 : decode cX8_holdsLaying 43 = .ok (.iconst 1, 1) := by decide +kernel
theorem dX8_holdsLaying_44 : decode cX8_holdsLaying 44 = .ok (.if_icmp .ne 5, 3) := by decide +kernel
theorem dX8_holdsLaying_47 : decode cX8_holdsLaying 47 = .ok (.iconst 0, 1) := by decide +kernel
theorem dX8_holdsLaying_48 : decode cX8_holdsLaying 48 = .ok (.ireturn, 1) := by decide +kernel
theorem dX8_holdsLaying_49 : decode cX8_holdsLaying 49 = .ok (.iload_n 1, 1) := by decide +kernel
theorem dX8_holdsLaying_50 : decode cX8_holdsLaying 50 = .ok (.iconst 1, 1) := by decide +kernel
theorem dX8_holdsLaying_51 : decode cX8_holdsLaying 51 = .ok (.iload_n 3, 1) := by decide +kernel
theorem dX8_holdsLaying_52 : decode cX8_holdsLaying 52 = .ok (.ishl, 1) := by decide +kernel
theorem dX8_holdsLaying_53 : decode cX8_holdsLaying 53 = .ok (.ior, 1) := by decide +kernel
theorem dX8_holdsLaying_54 : decode cX8_holdsLaying 54 = .ok (.istore_n 1, 1) := by decide +kernel
theorem dX8_holdsLaying_55 : decode cX8_holdsLaying 55 = .ok (.iinc 2 1, 3) := by decide +kernel
theorem dX8_holdsLaying_58 : decode cX8_holdsLaying 58 = .ok (.goto (-54), 3) := by decide +kernel
theorem dX8_holdsLaying_61 : decode cX8_holdsLaying 61 = .ok (.iconst 1, 1) := by decide +kernel
theorem dX8_holdsLaying_62 : decode cX8_holdsLaying 62 = .ok (.ireturn, 1) := by decide +kernel
set_option maxRecDepth 20000 in
theorem ggX8_swap_X0_has : GoodIn wsX8_swap wsX0_has := goodIn_r _ [6, 7, 42, 43, 44, 45, 46] (by decide +kernel) (by decide +kernel)
set_option maxRecDepth 20000 in
theorem gX8_swap_X0_has : GoodIn wsX8_swap (wsV RX8 147 RX0 yX0_has wsX0_has) := goodIn_app (goodIn_of _ (by decide +kernel)) ggX8_swap_X0_has
set_option maxRecDepth 20000 in
theorem ggX8_swap_X0_change : GoodIn wsX8_swap wsX0_change := goodIn_r _ [11, 12, 13, 14, 5, 15, 7, 16, 17, 18, 19, 20, 21, 3, 4, 6, 42, 43, 44, 45, 46] (by decide +kernel) (by decide +kernel)
set_option maxRecDepth 20000 in
theorem gX8_swap_X0_change : GoodIn wsX8_swap (wsV RX8 151 RX0 yX0_change wsX0_change) := goodIn_app (goodIn_of _ (by decide +kernel)) ggX8_swap_X0_change
theorem dX8_swap_0 : decode cX8_swap 0 = .ok (.aload_n 0, 1) := by decide +kernel
theorem dX8_swap_1 : decode cX8_swap 1 = .ok (.getfield 10, 3) := by decide +kernel
theorem dX8_swap_4 : decode cX8_swap 4 = .ok (.iload_n 1, 1) := by decide +kernel
theorem dX8_swap_5 : decode cX8_swap 5 = .ok (.invokevirtual 147, 3) := by decide +kernel
theorem dX8_swap_8 : decode cX8_swap 8 = .ok (.ifCond .eq 19, 3) := by decide +kernel
theorem dX8_swap_11 : decode cX8_swap 11 = .ok (.aload_n 0, 1) := by decide +kernel
theorem dX8_swap_12 : decode cX8_swap 12 = .ok (.getfield 10, 3) := by decide +kernel
theorem dX8_swap_15 : decode cX8_swap 15 = .ok (.iload_n 2, 1) := by decide +kernel
theorem dX8_swap_16 : decode cX8_swap 16 = .ok (.invokevirtual 147, 3) := by decide +kernel
theorem dX8_swap_19 : decode cX8_swap 19 = .ok (.ifCond .eq 8, 3) := by decide +kernel
theorem dX8_swap_22 : decode cX8_swap 22 = .ok (.iload_n 1, 1) := by decide +kernel
theorem dX8_swap_23 : decode cX8_swap 23 = .ok (.iload_n 2, 1) := by decide +kernel
theorem dX8_swap_24 : decode cX8_swap 24 = .ok (.if_icmp .ne 6, 3) := by decide +kernel
theorem dX8_swap_27 : decode cX8_swap 27 = .ok (.bipush (-2), 2) := by decide +kernel
theorem dX8_swap_29 : decode cX8_swap 29 = .ok (.ireturn, 1) := by decide +kernel
theorem dX8_swap_30 : decode cX8_swap 30 = .ok (.aload_n 0, 1) := by decide +kernel
theorem dX8_swap_31 : decode cX8_swap 31 = .ok (.getfield 10, 3) := by decide +kernel
theorem dX8_swap_34 : decode cX8_swap 34 = .ok (.iload_n 1, 1) := by decide +kernel
theorem dX8_swap_35 : decode cX8_swap 35 = .ok (.iload_n 2, 1) := by decide +kernel
theorem dX8_swap_36 : decode cX8_swap 36 = .ok (.invokevirtual 151, 3) := by decide +kernel
theorem dX8_swap_39 : decode cX8_swap 39 = .ok (.iconst 1, 1) := by decide +kernel
theorem dX8_swap_40 : decode cX8_swap 40 = .ok (.ireturn, 1) := by decide +kernel
set_option maxRecDepth 20000 in
theorem ggX8_empty_X0_has : GoodIn wsX8_empty wsX0_has := goodIn_r _ [6, 7, 38, 39, 40, 41, 42] (by decide +kernel) (by decide +kernel)
set_option maxRecDepth 20000 in
theorem gX8_empty_X0_has : GoodIn wsX8_empty (wsV RX8 147 RX0 yX0_has wsX0_has) := goodIn_app (goodIn_of _ (by decide +kernel)) ggX8_empty_X0_has
set_option maxRecDepth 20000 in
theorem ggX8_empty_X0_at : GoodIn wsX8_empty wsX0_at := goodIn_r _ [11, 7, 12, 38, 39, 40, 41, 42] (by decide +kernel) (by decide +kernel)
set_option maxRecDepth 20000 in
theorem gX8_empty_X0_at : GoodIn wsX8_empty (wsV RX8 154 RX0 yX0_at wsX0_at) := goodIn_app (goodIn_of _ (by decide +kernel)) ggX8_empty_X0_at
set_option maxRecDepth 20000 in
theorem ggX8_empty_X0_put : GoodIn wsX8_empty wsX0_put := goodIn_r _ [16, 12, 17, 3, 4, 5, 6, 7, 38, 39, 40, 41, 42] (by decide +kernel) (by decide +kernel)
set_option maxRecDepth 20000 in
theorem gX8_empty_X0_put : GoodIn wsX8_empty (wsV RX8 144 RX0 yX0_put wsX0_put) := goodIn_app (goodIn_of _ (by decide +kernel)) ggX8_empty_X0_put
theorem dX8_empty_0 : decode cX8_empty 0 = .ok (.aload_n 0, 1) := by decide +kernel
theorem dX8_empty_1 : decode cX8_empty 1 = .ok (.getfield 10, 3) := by decide +kernel
theorem dX8_empty_4 : decode cX8_empty 4 = .ok (.iload_n 1, 1) := by decide +kernel
theorem dX8_empty_5 : decode cX8_empty 5 = .ok (.invokevirtual 147, 3) := by decide +kernel
theorem dX8_empty_8 : decode cX8_empty 8 = .ok (.ifCond .ne 6, 3) := by decide +kernel
theorem dX8_empty_11 : decode cX8_empty 11 = .ok (.bipush (-2), 2) := by decide +kernel
theorem dX8_empty_13 : decode cX8_empty 13 = .ok (.ireturn, 1) := by decide +kernel
theorem dX8_empty_14 : decode cX8_empty 14 = .ok (.aload_n 0, 1) := by decide +kernel
theorem dX8_empty_15 : decode cX8_empty 15 = .ok (.getfield 10, 3) := by decide +kernel
theorem dX8_empty_18 : decode cX8_empty 18 = .ok (.iload_n 1, 1) := by decide +kernel
theorem dX8_empty_19 : decode cX8_empty 19 = .ok (.invokevirtual 154, 3) := by decide +kernel
theorem dX8_empty_22 : decode cX8_empty 22 = .ok (.istore_n 2, 1) := by decide +kernel
theorem dX8_empty_23 : decode cX8_empty 23 = .ok (.iload_n 2, 1) := by decide +kernel
theorem dX8_empty_24 : decode cX8_empty 24 = .ok (.iconst (-1), 1) := by decide +kernel
theorem dX8_empty_25 : decode cX8_empty 25 = .ok (.if_icmp .ne 6, 3) := by decide +kernel
theorem dX8_empty_28 : decode cX8_empty 28 = .ok (.bipush (-3), 2) := by decide +kernel
theorem dX8_empty_30 : decode cX8_empty 30 = .ok (.ireturn, 1) := by decide +kernel
theorem dX8_empty_31 : decode cX8_empty 31 = .ok (.aload_n 0, 1) := by decide +kernel
theorem dX8_empty_32 : decode cX8_empty 32 = .ok (.getfield 10, 3) := by decide +kernel
theorem dX8_empty_35 : decode cX8_empty 35 = .ok (.iload_n 1, 1) := by decide +kernel
theorem dX8_empty_36 : decode cX8_empty 36 = .ok (.iconst (-1), 1) := by decide +kernel
theorem dX8_empty_37 : decode cX8_empty 37 = .ok (.invokevirtual 144, 3) := by decide +kernel
theorem dX8_empty_40 : decode cX8_empty 40 = .ok (.iload_n 2, 1) := by decide +kernel
theorem dX8_empty_41 : decode cX8_empty 41 = .ok (.ireturn, 1) := by decide +kernel
set_option maxRecDepth 20000 in
theorem ggX8_box_X0_has : GoodIn wsX8_box wsX0_has := goodIn_r _ [6, 7, 38, 39, 40, 41, 42] (by decide +kernel) (by decide +kernel)
set_option maxRecDepth 20000 in
theorem gX8_box_X0_has : GoodIn wsX8_box (wsV RX8 147 RX0 yX0_has wsX0_has) := goodIn_app (goodIn_of _ (by decide +kernel)) ggX8_box_X0_has
set_option maxRecDepth 20000 in
theorem ggX8_box_X0_at : GoodIn wsX8_box wsX0_at := goodIn_r _ [11, 7, 12, 38, 39, 40, 41, 42] (by decide +kernel) (by decide +kernel)
set_option maxRecDepth 20000 in
theorem gX8_box_X0_at : GoodIn wsX8_box (wsV RX8 154 RX0 yX0_at wsX0_at) := goodIn_app (goodIn_of _ (by decide +kernel)) ggX8_box_X0_at
set_option maxRecDepth 20000 in
theorem ggX8_box_X0_ringLength : GoodIn wsX8_box wsX0_ringLength := goodIn_r _ [16, 7, 17, 9, 10, 5, 11, 12, 38, 39, 40, 41, 42] (by decide +kernel) (by decide +kernel)
set_option maxRecDepth 20000 in
theorem gX8_box_X0_ringLength : GoodIn wsX8_box (wsV RX8 155 RX0 yX0_ringLength wsX0_ringLength) := goodIn_app (goodIn_of _ (by decide +kernel)) ggX8_box_X0_ringLength
theorem dX8_box_0 : decode cX8_box 0 = .ok (.aload_n 0, 1) := by decide +kernel
