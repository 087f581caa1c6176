theorem dX9_box_1 : decode cX9_box 1 = .ok (.iload_n 1, 1) := by decide +kernel
theorem dX9_box_2 : decode cX9_box 2 = .ok (.invokevirtual 97, 3) := by decide +kernel
theorem dX9_box_5 : decode cX9_box 5 = .ok (.ifCond .eq 13, 3) := by decide +kernel
theorem dX9_box_8 : decode cX9_box 8 = .ok (.iload_n 2, 1) := by decide +kernel
theorem dX9_box_9 : decode cX9_box 9 = .ok (.i2l, 1) := by decide +kernel
theorem dX9_box_10 : decode cX9_box 10 = .ok (.lconst 0, 1) := by decide +kernel
theorem dX9_box_11 : decode cX9_box 11 = .ok (.lconst 1, 1) := by decide +kernel
theorem dX9_box_12 : decode cX9_box 12 = .ok (.invokestatic 85, 3) := by decide +kernel
theorem dX9_box_15 : decode cX9_box 15 = .ok (.ifCond .ne 6, 3) := by decide +kernel
theorem dX9_box_18 : decode cX9_box 18 = .ok (.bipush (-2), 2) := by decide +kernel
theorem dX9_box_20 : decode cX9_box 20 = .ok (.ireturn, 1) := by decide +kernel
theorem dX9_box_21 : decode cX9_box 21 = .ok (.iload_n 2, 1) := by decide +kernel
theorem dX9_box_22 : decode cX9_box 22 = .ok (.ifCond .ne 12, 3) := by decide +kernel
theorem dX9_box_25 : decode cX9_box 25 = .ok (.aload_n 0, 1) := by decide +kernel
theorem dX9_box_26 : decode cX9_box 26 = .ok (.getfield 23, 3) := by decide +kernel
theorem dX9_box_29 : decode cX9_box 29 = .ok (.iload_n 1, 1) := by decide +kernel
theorem dX9_box_30 : decode cX9_box 30 = .ok (.iaload, 1) := by decide +kernel
theorem dX9_box_31 : decode cX9_box 31 = .ok (.goto 8, 3) := by decide +kernel
theorem dX9_box_34 : decode cX9_box 34 = .ok (.aload_n 0, 1) := by decide +kernel
theorem dX9_box_35 : decode cX9_box 35 = .ok (.iload_n 1, 1) := by decide +kernel
theorem dX9_box_36 : decode cX9_box 36 = .ok (.invokevirtual 104, 3) := by decide +kernel
theorem dX9_box_39 : decode cX9_box 39 = .ok (.ireturn, 1) := by decide +kernel
set_option maxRecDepth 20000 in
theorem ggX9_lays_X9_ringOf : GoodIn wsX9_lays wsX9_ringOf := goodIn_r _ [10, 5, 4, 11, 12, 13, 14, 15, 16, 17, 18, 19, 20, 21, 22, 23, 24, 25, 26, 27, 28, 29, 30, 31, 32, 33, 34, 35, 36, 37, 38, 39, 40, 41, 42, 43, 44, 45, 46, 47, 48, 49, 50, 51, 52, 53, 54, 55] (by decide +kernel) (by decide +kernel)
set_option maxRecDepth 20000 in
theorem gX9_lays_X9_ringOf : GoodIn wsX9_lays (wsV RX9 104 RX9 yX9_ringOf wsX9_ringOf) := goodIn_app (goodIn_of _ (by decide +kernel)) ggX9_lays_X9_ringOf
theorem dX9_lays_0 : decode cX9_lays 0 = .ok (.iconst 0, 1) := by decide +kernel
theorem dX9_lays_1 : decode cX9_lays 1 = .ok (.istore_n 1, 1) := by decide +kernel
theorem dX9_lays_2 : decode cX9_lays 2 = .ok (.aload_n 0, 1) := by decide +kernel
theorem dX9_lays_3 : decode cX9_lays 3 = .ok (.iconst 0, 1) := by decide +kernel
theorem dX9_lays_4 : decode cX9_lays 4 = .ok (.putfield 108, 3) := by decide +kernel
theorem dX9_lays_7 : decode cX9_lays 7 = .ok (.aload_n 0, 1) := by decide +kernel
theorem dX9_lays_8 : decode cX9_lays 8 = .ok (.iconst 0, 1) := by decide +kernel
theorem dX9_lays_9 : decode cX9_lays 9 = .ok (.putfield 111, 3) := by decide +kernel
theorem dX9_lays_12 : decode cX9_lays 12 = .ok (.aload_n 0, 1) := by decide +kernel
theorem dX9_lays_13 : decode cX9_lays 13 = .ok (.iconst 0, 1) := by decide +kernel
theorem dX9_lays_14 : decode cX9_lays 14 = .ok (.putfield 114, 3) := by decide +kernel
theorem dX9_lays_17 : decode cX9_lays 17 = .ok (.iconst 0, 1) := by decide +kernel
theorem dX9_lays_18 : decode cX9_lays 18 = .ok (.istore_n 2, 1) := by decide +kernel
theorem dX9_lays_19 : decode cX9_lays 19 = .ok (.iload_n 2, 1) := by decide +kernel
theorem dX9_lays_20 : decode cX9_lays 20 = .ok (.aload_n 0, 1) := by decide +kernel
theorem dX9_lays_21 : decode cX9_lays 21 = .ok (.getfield 74, 3) := by decide +kernel
theorem dX9_lays_24 : decode cX9_lays 24 = .ok (.if_icmp .ge 133, 3) := by decide +kernel
theorem dX9_lays_27 : decode cX9_lays 27 = .ok (.aload_n 0, 1) := by decide +kernel
theorem dX9_lays_28 : decode cX9_lays 28 = .ok (.iload_n 2, 1) := by decide +kernel
theorem dX9_lays_29 : decode cX9_lays 29 = .ok (.invokevirtual 104, 3) := by decide +kernel
theorem dX9_lays_32 : decode cX9_lays 32 = .ok (.istore_n 3, 1) := by decide +kernel
theorem dX9_lays_33 : decode cX9_lays 33 = .ok (.aload_n 0, 1) := by decide +kernel
theorem dX9_lays_34 : decode cX9_lays 34 = .ok (.iload_n 3, 1) := by decide +kernel
theorem dX9_lays_35 : decode cX9_lays 35 = .ok (.aload_n 0, 1) := by decide +kernel
theorem dX9_lays_36 : decode cX9_lays 36 = .ok (.getfield 108, 3) := by decide +kernel
theorem dX9_lays_39 : decode cX9_lays 39 = .ok (.if_icmp .le 7, 3) := by decide +kernel
theorem dX9_lays_42 : decode cX9_lays 42 = .ok (.iload_n 3, 1) := by decide +kernel
theorem dX9_lays_43 : decode cX9_lays 43 = .ok (.goto 7, 3) := by decide +kernel
theorem dX9_lays_46 : decode cX9_lays 46 = .ok (.aload_n 0, 1) := by decide +kernel
theorem dX9_lays_47 : decode cX9_lays 47 = .ok (.getfield 108, 3) := by decide +kernel
theorem dX9_lays_50 : decode cX9_lays 50 = .ok (.putfield 108, 3) := by decide +kernel
theorem dX9_lays_53 : decode cX9_lays 53 = .ok (.aload_n 0, 1) := by decide +kernel
theorem dX9_lays_54 : decode cX9_lays 54 = .ok (.dup, 1) := by decide +kernel
theorem dX9_lays_55 : decode cX9_lays 55 = .ok (.getfield 111, 3) := by decide +kernel
theorem dX9_lays_58 : decode cX9_lays 58 = .ok (.aload_n 0, 1) := by decide +kernel
theorem dX9_lays_59 : decode cX9_lays 59 = .ok (.getfield 23, 3) := by decide +kernel
theorem dX9_lays_62 : decode cX9_lays 62 = .ok (.iload_n 2, 1) := by decide +kernel
theorem dX9_lays_63 : decode cX9_lays 63 = .ok (.iaload, 1) := by decide +kernel
theorem dX9_lays_64 : decode cX9_lays 64 = .ok (.iconst (-1), 1) := by decide +kernel
theorem dX9_lays_65 : decode cX9_lays 65 = .ok (.if_icmp .ne 7, 3) := by decide +kernel
theorem dX9_lays_68 : decode cX9_lays 68 = .ok (.iconst 1, 1) := by decide +kernel
theorem dX9_lays_69 : decode cX9_lays 69 = .ok (.goto 4, 3) := by decide +kernel
theorem dX9_lays_72 : decode cX9_lays 72 = .ok (.iconst 0, 1) := by decide +kernel
theorem dX9_lays_73 : decode cX9_lays 73 = .ok (.iadd, 1) := by decide +kernel
theorem dX9_lays_74 : decode cX9_lays 74 = .ok (.putfield 111, 3) := by decide +kernel
theorem dX9_lays_77 : decode cX9_lays 77 = .ok (.iload_n 3, 1) := by decide +kernel
theorem dX9_lays_78 : decode cX9_lays 78 = .ok (.ifCond .le 7, 3) := by decide +kernel
theorem dX9_lays_81 : decode cX9_lays 81 = .ok (.iconst 1, 1) := by decide +kernel
theorem dX9_lays_82 : decode cX9_lays 82 = .ok (.goto 4, 3) := by decide +kernel
theorem dX9_lays_85 : decode cX9_lays 85 = .ok (.iconst 0, 1) := by decide +kernel
theorem dX9_lays_86 : decode cX9_lays 86 = .ok (.istore 4, 2) := by decide +kernel
theorem dX9_lays_88 : decode cX9_lays 88 = .ok (.aload_n 0, 1) := by decide +kernel
theorem dX9_lays_89 : decode cX9_lays 89 = .ok (.getfield 23, 3) := by decide +kernel
theorem dX9_lays_92 : decode cX9_lays 92 = .ok (.iload_n 2, 1) := by decide +kernel
theorem dX9_lays_93 : decode cX9_lays 93 = .ok (.iaload, 1) := by decide +kernel
theorem dX9_lays_94 : decode cX9_lays 94 = .ok (.istore 5, 2) := by decide +kernel
theorem dX9_lays_96 : decode cX9_lays 96 = .ok (.iconst 1, 1) := by decide +kernel
theorem dX9_lays_97 : decode cX9_lays 97 = .ok (.istore 6, 2) := by decide +kernel
theorem dX9_lays_99 : decode cX9_lays 99 = .ok (.iload 6, 2) := by decide +kernel
theorem dX9_lays_101 : decode cX9_lays 101 = .ok (.iload_n 3, 1) := by decide +kernel
theorem dX9_lays_102 : decode cX9_lays 102 = .ok (.if_icmp .ge 36, 3) := by decide +kernel
theorem dX9_lays_105 : decode cX9_lays 105 = .ok (.iload 4, 2) := by decide +kernel
theorem dX9_lays_107 : decode cX9_lays 107 = .ok (.ifCond .eq 13, 3) := by decide +kernel
theorem dX9_lays_110 : decode cX9_lays 110 = .ok (.iload 5, 2) := by decide +kernel
theorem dX9_lays_112 : decode cX9_lays 112 = .ok (.iload_n 2, 1) := by decide +kernel
theorem dX9_lays_113 : decode cX9_lays 113 = .ok (.if_icmp .le 7, 3) := by decide +kernel
theorem dX9_lays_116 : decode cX9_lays 116 = .ok (.iconst 1, 1) := by decide +kernel
theorem dX9_lays_117 : decode cX9_lays 117 = .ok (.goto 4, 3) := by decide +kernel
theorem dX9_lays_120 : decode cX9_lays 120 = .ok (.iconst 0, 1) := by decide +kernel
theorem dX9_lays_121 : decode cX9_lays 121 = .ok (.istore 4, 2) := by decide +kernel
theorem dX9_lays_123 : decode cX9_lays 123 = .ok (.aload_n 0, 1) := by decide +kernel
theorem dX9_lays_124 : decode cX9_lays 124 = .ok (.getfield 23, 3) := by decide +kernel
theorem dX9_lays_127 : decode cX9_lays 127 = .ok (.iload 5, 2) := by decide +kernel
theorem dX9_lays_129 : decode cX9_lays 129 = .ok (.iaload, 1) := by decide +kernel
theorem dX9_lays_130 : decode cX9_lays 130 = .ok (.istore 5, 2) := by decide +kernel
theorem dX9_lays_132 : decode cX9_lays 132 = .ok (.iinc 6 1, 3) := by decide +kernel
theorem dX9_lays_135 : decode cX9_lays 135 = .ok (.goto (-36), 3) := by decide +kernel
theorem dX9_lays_138 : decode cX9_lays 138 = .ok (.iload_n 1, 1) := by decide +kernel
theorem dX9_lays_139 : decode cX9_lays 139 = .ok (.iload 4, 2) := by decide +kernel
theorem dX9_lays_141 : decode cX9_lays 141 = .ok (.ifCond .eq 7, 3) := by decide +kernel
theorem dX9_lays_144 : decode cX9_lays 144 = .ok (.iconst 1, 1) := by decide +kernel
theorem dX9_lays_145 : decode cX9_lays 145 = .ok (.goto 4, 3) := by decide +kernel
theorem dX9_lays_148 : decode cX9_lays 148 = .ok (.iconst 0, 1) := by decide +kernel
theorem dX9_lays_149 : decode cX9_lays 149 = .ok (.iadd, 1) := by decide +kernel
theorem dX9_lays_150 : decode cX9_lays 150 = .ok (.istore_n 1, 1) := by decide +kernel
theorem dX9_lays_151 : decode cX9_lays 151 = .ok (.iinc 2 1, 3) := by decide +kernel
theorem dX9_lays_154 : decode cX9_lays 154 = .ok (.goto (-135), 3) := by decide +kernel
theorem dX9_lays_157 : decode cX9_lays 157 = .ok (.aload_n 0, 1) := by decide +kernel
theorem dX9_lays_158 : decode cX9_lays 158 = .ok (.iload_n 1, 1) := by decide +kernel
theorem dX9_lays_159 : decode cX9_lays 159 = .ok (.putfield 114, 3) := by decide +kernel
theorem dX9_lays_162 : decode cX9_lays 162 = .ok (.return_, 1) := by decide +kernel
set_option maxRecDepth 20000 in
theorem ggX9_rings_X9_in : GoodIn wsX9_rings wsX9_in := goodIn_r _ [8] (by decide +kernel) (by decide +kernel)
set_option maxRecDepth 20000 in
theorem gX9_rings_X9_in : GoodIn wsX9_rings (va_wsS RX9 85 yX9_in wsX9_in) := goodIn_app (goodIn_of _ (by decide +kernel)) ggX9_rings_X9_in
set_option maxRecDepth 20000 in
theorem ggX9_rings_X9_lays : GoodIn wsX9_rings wsX9_lays := goodIn_r _ [12, 3, 4, 2, 13, 14, 15, 16, 17, 7, 18, 19, 20, 21, 22, 23, 24, 25, 26, 27, 28, 29, 30, 31, 32, 33, 34, 35, 36, 37, 38, 39, 40, 41, 42, 43, 44, 45, 46, 47, 48, 49, 50, 51, 52, 53, 54, 55, 56, 57, 58, 59, 60, 61, 62, 63] (by decide +kernel) (by decide +kernel)
set_option maxRecDepth 20000 in
theorem gX9_rings_X9_lays : GoodIn wsX9_rings (wsV RX9 119 RX9 yX9_lays wsX9_lays) := goodIn_app (goodIn_of _ (by decide +kernel)) ggX9_rings_X9_lays
theorem dX9_rings_0 : decode cX9_rings 0 = .ok (.iload_n 1, 1) := by decide +kernel
theorem dX9_rings_1 : decode cX9_rings 1 = .ok (.i2l, 1) := by decide +kernel
theorem dX9_rings_2 : decode cX9_rings 2 = .ok (.lconst 0, 1) := by decide +kernel
theorem dX9_rings_3 : decode cX9_rings 3 = .ok (.ldc2_w 117, 3) := by decide +kernel
theorem dX9_rings_6 : decode cX9_rings 6 = .ok (.invokestatic 85, 3) := by decide +kernel
theorem dX9_rings_9 : decode cX9_rings 9 = .ok (.ifCond .ne 6, 3) := by decide +kernel
theorem dX9_rings_12 : decode cX9_rings 12 = .ok (.bipush (-2), 2) := by decide +kernel
theorem dX9_rings_14 : decode cX9_rings 14 = .ok (.ireturn, 1) := by decide +kernel
theorem dX9_rings_15 : decode cX9_rings 15 = .ok (.aload_n 0, 1) := by decide +kernel
theorem dX9_rings_16 : decode cX9_rings 16 = .ok (.invokevirtual 119, 3) := by decide +kernel
theorem dX9_rings_19 : decode cX9_rings 19 = .ok (.iload_n 1, 1) := by decide +kernel
theorem dX9_rings_20 : decode cX9_rings 20 = .ok (.ifCond .ne 10, 3) := by decide +kernel
theorem dX9_rings_23 : decode cX9_rings 23 = .ok (.aload_n 0, 1) := by decide +kernel
theorem dX9_rings_24 : decode cX9_rings 24 = .ok (.getfield 114, 3) := by decide +kernel
theorem dX9_rings_27 : decode cX9_rings 27 = .ok (.goto 19, 3) := by decide +kernel
theorem dX9_rings_30 : decode cX9_rings 30 = .ok (.iload_n 1, 1) := by decide +kernel
theorem dX9_rings_31 : decode cX9_rings 31 = .ok (.iconst 1, 1) := by decide +kernel
theorem dX9_rings_32 : decode cX9_rings 32 = .ok (.if_icmp .ne 10, 3) := by decide +kernel
theorem dX9_rings_35 : decode cX9_rings 35 = .ok (.aload_n 0, 1) := by decide +kernel
theorem dX9_rings_36 : decode cX9_rings 36 = .ok (.getfield 108, 3) := by decide +kernel
theorem dX9_rings_39 : decode cX9_rings 39 = .ok (.goto 7, 3) := by decide +kernel
theorem dX9_rings_42 : decode cX9_rings 42 = .ok (.aload_n 0, 1) := by decide +kernel
theorem dX9_rings_43 : decode cX9_rings 43 = .ok (.getfield 111, 3) := by decide +kernel
theorem dX9_rings_46 : decode cX9_rings 46 = .ok (.ireturn, 1) := by decide +kernel
set_option maxRecDepth 20000 in
theorem ggX9_feed_X9_in : GoodIn wsX9_feed wsX9_in := goodIn_r _ [8] (by decide +kernel) (by decide +kernel)
set_option maxRecDepth 20000 in
theorem gX9_feed_X9_in : GoodIn wsX9_feed (va_wsS RX9 85 yX9_in wsX9_in) := goodIn_app (goodIn_of _ (by decide +kernel)) ggX9_feed_X9_in
theorem dX9_feed_0 : decode cX9_feed 0 = .ok (.iload_n 1, 1) := by decide +kernel
theorem dX9_feed_1 : decode cX9_feed 1 = .ok (.i2l, 1) := by decide +kernel
theorem dX9_feed_2 : decode cX9_feed 2 = .ok (.lconst 1, 1) := by decide +kernel
theorem dX9_feed_3 : decode cX9_feed 3 = .ok (.ldc2_w 122, 3) := by decide +kernel
theorem dX9_feed_6 : decode cX9_feed 6 = .ok (.invokestatic 85, 3) := by decide +kernel
theorem dX9_feed_9 : decode cX9_feed 9 = .ok (.ifCond .ne 6, 3) := by decide +kernel
theorem dX9_feed_12 : decode cX9_feed 12 = .ok (.bipush (-2), 2) := by decide +kernel
theorem dX9_feed_14 : decode cX9_feed 14 = .ok (.ireturn, 1) := by decide +kernel
theorem dX9_feed_15 : decode cX9_feed 15 = .ok (.aload_n 0, 1) := by decide +kernel
theorem dX9_feed_16 : decode cX9_feed 16 = .ok (.getfield 124, 3) := by decide +kernel
theorem dX9_feed_19 : decode cX9_feed 19 = .ok (.iload_n 1, 1) := by decide +kernel
theorem dX9_feed_20 : decode cX9_feed 20 = .ok (.iadd, 1) := by decide +kernel
theorem dX9_feed_21 : decode cX9_feed 21 = .ok (.sipush 160, 3) := by decide +kernel
theorem dX9_feed_24 : decode cX9_feed 24 = .ok (.if_icmp .le 6, 3) := by decide +kernel
theorem dX9_feed_27 : decode cX9_feed 27 = .ok (.bipush (-4), 2) := by decide +kernel
theorem dX9_feed_29 : decode cX9_feed 29 = .ok (.ireturn, 1) := by decide +kernel
theorem dX9_feed_30 : decode cX9_feed 30 = .ok (.iconst 0, 1) := by decide +kernel
theorem dX9_feed_31 : decode cX9_feed 31 = .ok (.istore 4, 2) := by decide +kernel
theorem dX9_feed_33 : decode cX9_feed 33 = .ok (.iload 4, 2) := by decide +kernel
theorem dX9_feed_35 : decode cX9_feed 35 = .ok (.iload_n 1, 1) := by decide +kernel
theorem dX9_feed_36 : decode cX9_feed 36 = .ok (.if_icmp .ge 40, 3) := by decide +kernel
theorem dX9_feed_39 : decode cX9_feed 39 = .ok (.aload_n 0, 1) := by decide +kernel
theorem dX9_feed_40 : decode cX9_feed 40 = .ok (.getfield 20, 3) := by decide +kernel
theorem dX9_feed_43 : decode cX9_feed 43 = .ok (.aload_n 0, 1) := by decide +kernel
theorem dX9_feed_44 : decode cX9_feed 44 = .ok (.getfield 124, 3) := by decide +kernel
theorem dX9_feed_47 : decode cX9_feed 47 = .ok (.lload_n 2, 1) := by decide +kernel
theorem dX9_feed_48 : decode cX9_feed 48 = .ok (.bipush 8, 2) := by decide +kernel
theorem dX9_feed_50 : decode cX9_feed 50 = .ok (.iload 4, 2) := by decide +kernel
theorem dX9_feed_52 : decode cX9_feed 52 = .ok (.imul, 1) := by decide +kernel
theorem dX9_feed_53 : decode cX9_feed 53 = .ok (.lshr, 1) := by decide +kernel
theorem dX9_feed_54 : decode cX9_feed 54 = .ok (.ldc2_w 83, 3) := by decide +kernel
theorem dX9_feed_57 : decode cX9_feed 57 = .ok (.land, 1) := by decide +kernel
theorem dX9_feed_58 : decode cX9_feed 58 = .ok (.l2i, 1) := by decide +kernel
theorem dX9_feed_59 : decode cX9_feed 59 = .ok (.iastore, 1) := by decide +kernel
theorem dX9_feed_60 : decode cX9_feed 60 = .ok (.aload_n 0, 1) := by decide +kernel
theorem dX9_feed_61 : decode cX9_feed 61 = .ok (.dup, 1) := by decide +kernel
theorem dX9_feed_62 : decode cX9_feed 62 = .ok (.getfield 124, 3) := by decide +kernel
theorem dX9_feed_65 : decode cX9_feed 65 = .ok (.iconst 1, 1) := by decide +kernel
theorem dX9_feed_66 : decode cX9_feed 66 = .ok (.iadd, 1) := by decide +kernel
theorem dX9_feed_67 : decode cX9_feed 67 = .ok (.putfield 124, 3) := by decide +kernel
theorem dX9_feed_70 : decode cX9_feed 70 = .ok (.iinc 4 1, 3) := by decide +kernel
theorem dX9_feed_73 : decode cX9_feed 73 = .ok (.goto (-40), 3) := by decide +kernel
theorem dX9_feed_76 : decode cX9_feed 76 = .ok (.aload_n 0, 1) := by decide +kernel
theorem dX9_feed_77 : decode cX9_feed 77 = .ok (.getfield 124, 3) := by decide +kernel
theorem dX9_feed_80 : decode cX9_feed 80 = .ok (.ireturn, 1) := by decide +kernel
theorem dX9_byteAt_0 : decode cX9_byteAt 0 = .ok (.iload_n 1, 1) := by decide +kernel
theorem dX9_byteAt_1 : decode cX9_byteAt 1 = .ok (.aload_n 0, 1) := by decide +kernel
theorem dX9_byteAt_2 : decode cX9_byteAt 2 = .ok (.getfield 127, 3) := by decide +kernel
theorem dX9_byteAt_5 : decode cX9_byteAt 5 = .ok (.if_icmp .ge 17, 3) := by decide +kernel
theorem dX9_byteAt_8 : decode cX9_byteAt 8 = .ok (.aload_n 0, 1) := by decide +kernel
theorem dX9_byteAt_9 : decode cX9_byteAt 9 = .ok (.getfield 13, 3) := by decide +kernel
theorem dX9_byteAt_12 : decode cX9_byteAt 12 = .ok (.aload_n 0, 1) := by decide +kernel
theorem dX9_byteAt_13 : decode cX9_byteAt 13 = .ok (.getfield 130, 3) := by decide +kernel
theorem dX9_byteAt_16 : decode cX9_byteAt 16 = .ok (.iload_n 1, 1) := by decide +kernel
theorem dX9_byteAt_17 : decode cX9_byteAt 17 = .ok (.iadd, 1) := by decide +kernel
theorem dX9_byteAt_18 : decode cX9_byteAt 18 = .ok (.iaload, 1) := by decide +kernel
theorem dX9_byteAt_19 : decode cX9_byteAt 19 = .ok (.goto 4, 3) := by decide +kernel
theorem dX9_byteAt_22 : decode cX9_byteAt 22 = .ok (.iconst (-1), 1) := by decide +kernel
theorem dX9_byteAt_23 : decode cX9_byteAt 23 = .ok (.ireturn, 1) := by decide +kernel
set_option maxRecDepth 20000 in
theorem ggX9_next1_X9_byteAt : GoodIn wsX9_next1 wsX9_byteAt := goodIn_r _ [18, 4, 19, 20, 24, 25, 26, 27, 28, 29, 30, 31, 32, 33, 34, 35, 36, 37, 38, 39, 40, 41, 42, 43, 44, 45, 46, 47, 48, 49, 50, 51, 52, 53, 54, 55, 56, 57, 58, 59, 60, 61, 62, 63, 64, 65, 66, 67, 68] (by decide +kernel) (by decide +kernel)
set_option maxRecDepth 20000 in
theorem gX9_next1_X9_byteAt : GoodIn wsX9_next1 (wsV RX9 136 RX9 yX9_byteAt wsX9_byteAt) := goodIn_app (goodIn_of _ (by decide +kernel)) ggX9_next1_X9_byteAt
set_option maxRecDepth 20000 in
theorem ggX9_next1_X9_in : GoodIn wsX9_next1 wsX9_in := goodIn_r _ [23] (by decide +kernel) (by decide +kernel)
set_option maxRecDepth 20000 in
theorem gX9_next1_X9_in : GoodIn wsX9_next1 (va_wsS RX9 85 yX9_in wsX9_in) := goodIn_app (goodIn_of _ (by decide +kernel)) ggX9_next1_X9_in
theorem dX9_next1_0 : decode cX9_next1 0 = .ok (.aload_n 0, 1) := by decide +kernel
theorem dX9_next1_1 : decode cX9_next1 1 = .ok (.aload_n 0, 1) := by decide +kernel
theorem dX9_next1_2 : decode cX9_next1 2 = .ok (.getfield 133, 3) := by decide +kernel
theorem dX9_next1_5 : decode cX9_next1 5 = .ok (.invokevirtual 136, 3) := by decide +kernel
theorem dX9_next1_8 : decode cX9_next1 8 = .ok (.bipush 32, 2) := by decide +kernel
theorem dX9_next1_10 : decode cX9_next1 10 = .ok (.if_icmp .eq 16, 3) := by decide +kernel
theorem dX9_next1_13 : decode cX9_next1 13 = .ok (.aload_n 0, 1) := by decide +kernel
theorem dX9_next1_14 : decode cX9_next1 14 = .ok (.aload_n 0, 1) := by decide +kernel
theorem dX9_next1_15 : decode cX9_next1 15 = .ok (.getfield 133, 3) := by decide +kernel
theorem dX9_next1_18 : decode cX9_next1 18 = .ok (.invokevirtual 136, 3) := by decide +kernel
theorem dX9_next1_21 : decode cX9_next1 21 = .ok (.bipush 10, 2) := by decide +kernel
theorem dX9_next1_23 : decode cX9_next1 23 = .ok (.if_icmp .ne 16, 3) := by decide +kernel
theorem dX9_next1_26 : decode cX9_next1 26 = .ok (.aload_n 0, 1) := by decide +kernel
theorem dX9_next1_27 : decode cX9_next1 27 = .ok (.dup, 1) := by decide +kernel
theorem dX9_next1_28 : decode cX9_next1 28 = .ok (.getfield 133, 3) := by decide +kernel
theorem dX9_next1_31 : decode cX9_next1 31 = .ok (.iconst 1, 1) := by decide +kernel
theorem dX9_next1_32 : decode cX9_next1 32 = .ok (.iadd, 1) := by decide +kernel
theorem dX9_next1_33 : decode cX9_next1 33 = .ok (.putfield 133, 3) := by decide +kernel
theorem dX9_next1_36 : decode cX9_next1 36 = .ok (.goto (-36), 3) := by decide +kernel
theorem dX9_next1_39 : decode cX9_next1 39 = .ok (.aload_n 0, 1) := by decide +kernel
theorem dX9_next1_40 : decode cX9_next1 40 = .ok (.aload_n 0, 1) := by decide +kernel
theorem dX9_next1_41 : decode cX9_next1 41 = .ok (.getfield 133, 3) := by decide +kernel
theorem dX9_next1_44 : decode cX9_next1 44 = .ok (.putfield 139, 3) := by decide +kernel
theorem dX9_next1_47 : decode cX9_next1 47 = .ok (.aload_n 0, 1) := by decide +kernel
theorem dX9_next1_48 : decode cX9_next1 48 = .ok (.aload_n 0, 1) := by decide +kernel
theorem dX9_next1_49 : decode cX9_next1 49 = .ok (.getfield 133, 3) := by decide +kernel
theorem dX9_next1_52 : decode cX9_next1 52 = .ok (.invokevirtual 136, 3) := by decide +kernel
theorem dX9_next1_55 : decode cX9_next1 55 = .ok (.istore_n 1, 1) := by decide +kernel
theorem dX9_next1_56 : decode cX9_next1 56 = .ok (.aload_n 0, 1) := by decide +kernel
theorem dX9_next1_57 : decode cX9_next1 57 = .ok (.iconst 4, 1) := by decide +kernel
theorem dX9_next1_58 : decode cX9_next1 58 = .ok (.putfield 142, 3) := by decide +kernel
theorem dX9_next1_61 : decode cX9_next1 61 = .ok (.iload_n 1, 1) := by decide +kernel
theorem dX9_next1_62 : decode cX9_next1 62 = .ok (.ifCond .ge 19, 3) := by decide +kernel
theorem dX9_next1_65 : decode cX9_next1 65 = .ok (.aload_n 0, 1) := by decide +kernel
theorem dX9_next1_66 : decode cX9_next1 66 = .ok (.iconst 0, 1) := by decide +kernel
theorem dX9_next1_67 : decode cX9_next1 67 = .ok (.putfield 142, 3) := by decide +kernel
theorem dX9_next1_70 : decode cX9_next1 70 = .ok (.aload_n 0, 1) := by decide +kernel
theorem dX9_next1_71 : decode cX9_next1 71 = .ok (.aload_n 0, 1) := by decide +kernel
theorem dX9_next1_72 : decode cX9_next1 72 = .ok (.getfield 127, 3) := by decide +kernel
theorem dX9_next1_75 : decode cX9_next1 75 = .ok (.putfield 139, 3) := by decide +kernel
theorem dX9_next1_78 : decode cX9_next1 78 = .ok (.goto 294, 3) := by decide +kernel
theorem dX9_next1_81 : decode cX9_next1 81 = .ok (.iload_n 1, 1) := by decide +kernel
theorem dX9_next1_82 : decode cX9_next1 82 = .ok (.i2l, 1) := by decide +kernel
theorem dX9_next1_83 : decode cX9_next1 83 = .ok (.ldc2_w 145, 3) := by decide +kernel
theorem dX9_next1_86 : decode cX9_next1 86 = .ok (.ldc2_w 147, 3) := by decide +kernel
theorem dX9_next1_89 : decode cX9_next1 89 = .ok (.invokestatic 85, 3) := by decide +kernel
theorem dX9_next1_92 : decode cX9_next1 92 = .ok (.ifCond .eq 93, 3) := by decide +kernel
theorem dX9_next1_95 : decode cX9_next1 95 = .ok (.aload_n 0, 1) := by decide +kernel
theorem dX9_next1_96 : decode cX9_next1 96 = .ok (.iconst 1, 1) := by decide +kernel
theorem dX9_next1_97 : decode cX9_next1 97 = .ok (.putfield 142, 3) := by decide +kernel
theorem dX9_next1_100 : decode cX9_next1 100 = .ok (.aload_n 0, 1) := by decide +kernel
theorem dX9_next1_101 : decode cX9_next1 101 = .ok (.lconst 0, 1) := by decide +kernel
theorem dX9_next1_102 : decode cX9_next1 102 = .ok (.putfield 149, 3) := by decide +kernel
theorem dX9_next1_105 : decode cX9_next1 105 = .ok (.iconst 0, 1) := by decide +kernel
theorem dX9_next1_106 : decode cX9_next1 106 = .ok (.istore_n 2, 1) := by decide +kernel
theorem dX9_next1_107 : decode cX9_next1 107 = .ok (.aload_n 0, 1) := by decide +kernel
theorem dX9_next1_108 : decode cX9_next1 108 = .ok (.aload_n 0, 1) := by decide +kernel
theorem dX9_next1_109 : decode cX9_next1 109 = .ok (.getfield 133, 3) := by decide +kernel
theorem dX9_next1_112 : decode cX9_next1 112 = .ok (.invokevirtual 136, 3) := by decide +kernel
theorem dX9_next1_115 : decode cX9_next1 115 = .ok (.i2l, 1) := by decide +kernel
theorem dX9_next1_116 : decode cX9_next1 116 = .ok (.ldc2_w 145, 3) := by decide +kernel
theorem dX9_next1_119 : decode cX9_next1 119 = .ok (.ldc2_w 147, 3) := by decide +kernel
theorem dX9_next1_122 : decode cX9_next1 122 = .ok (.invokestatic 85, 3) := by decide +kernel
theorem dX9_next1_125 : decode cX9_next1 125 = .ok (.ifCond .eq 57, 3) := by decide +kernel
theorem dX9_next1_128 : decode cX9_next1 128 = .ok (.aload_n 0, 1) := by decide +kernel
theorem dX9_next1_129 : decode cX9_next1 129 = .ok (.iload_n 2, 1) := by decide +kernel
theorem dX9_next1_130 : decode cX9_next1 130 = .ok (.bipush 8, 2) := by decide +kernel
theorem dX9_next1_132 : decode cX9_next1 132 = .ok (.if_icmp .ge 28, 3) := by decide +kernel
theorem dX9_next1_135 : decode cX9_next1 135 = .ok (.ldc2_w 153, 3) := by decide +kernel
theorem dX9_next1_138 : decode cX9_next1 138 = .ok (.aload_n 0, 1) := by decide +kernel
theorem dX9_next1_139 : decode cX9_next1 139 = .ok (.getfield 149, 3) := by decide +kernel
theorem dX9_next1_142 : decode cX9_next1 142 = .ok (.lmul, 1) := by decide +kernel
theorem dX9_next1_143 : decode cX9_next1 143 = .ok (.aload_n 0, 1) := by decide +kernel
theorem dX9_next1_144 : decode cX9_next1 144 = .ok (.aload_n 0, 1) := by decide +kernel
theorem dX9_next1_145 : decode cX9_next1 145 = .ok (.getfield 133, 3) := by decide +kernel
theorem dX9_next1_148 : decode cX9_next1 148 = .ok (.invokevirtual 136, 3) := by decide +kernel
theorem dX9_next1_151 : decode cX9_next1 151 = .ok (.i2l, 1) := by decide +kernel
theorem dX9_next1_152 : decode cX9_next1 152 = .ok (.ladd, 1) := by decide +kernel
theorem dX9_next1_153 : decode cX9_next1 153 = .ok (.ldc2_w 155, 3) := by decide +kernel
theorem dX9_next1_156 : decode cX9_next1 156 = .ok (.lsub, 1) := by decide +kernel
theorem dX9_next1_157 : decode cX9_next1 157 = .ok (.goto 6, 3) := by decide +kernel
theorem dX9_next1_160 : decode cX9_next1 160 = .ok (.ldc2_w 95, 3) := by decide +kernel
theorem dX9_next1_163 : decode cX9_next1 163 = .ok (.putfield 149, 3) := by decide +kernel
theorem dX9_next1_166 : decode cX9_next1 166 = .ok (.iinc 2 1, 3) := by decide +kernel
theorem dX9_next1_169 : decode cX9_next1 169 = .ok (.aload_n 0, 1) := by decide +kernel
theorem dX9_next1_170 : decode cX9_next1 170 = .ok (.dup, 1) := by decide +kernel
theorem dX9_next1_171 : decode cX9_next1 171 = .ok (.getfield 133, 3) := by decide +kernel
theorem dX9_next1_174 : decode cX9_next1 174 = .ok (.iconst 1, 1) := by decide +kernel
theorem dX9_next1_175 : decode cX9_next1 175 = .ok (.iadd, 1) := by decide +kernel
theorem dX9_next1_176 : decode cX9_next1 176 = .ok (.putfield 133, 3) := by decide +kernel
theorem dX9_next1_179 : decode cX9_next1 179 = .ok (.goto (-72), 3) := by decide +kernel
theorem dX9_next1_182 : decode cX9_next1 182 = .ok (.goto 190, 3) := by decide +kernel
theorem dX9_next1_185 : decode cX9_next1 185 = .ok (.iload_n 1, 1) := by decide +kernel
theorem dX9_next1_186 : decode cX9_next1 186 = .ok (.i2l, 1) := by decide +kernel
theorem dX9_next1_187 : decode cX9_next1 187 = .ok (.ldc2_w 157, 3) := by decide +kernel
theorem dX9_next1_190 : decode cX9_next1 190 = .ok (.ldc2_w 159, 3) := by decide +kernel
theorem dX9_next1_193 : decode cX9_next1 193 = .ok (.invokestatic 85, 3) := by decide +kernel
theorem dX9_next1_196 : decode cX9_next1 196 = .ok (.ifCond .eq 107, 3) := by decide +kernel
theorem dX9_next1_199 : decode cX9_next1 199 = .ok (.aload_n 0, 1) := by decide +kernel
theorem dX9_next1_200 : decode cX9_next1 200 = .ok (.iconst 2, 1) := by decide +kernel
theorem dX9_next1_201 : decode cX9_next1 201 = .ok (.putfield 142, 3) := by decide +kernel
theorem dX9_next1_204 : decode cX9_next1 204 = .ok (.aload_n 0, 1) := by decide +kernel
theorem dX9_next1_205 : decode cX9_next1 205 = .ok (.lconst 0, 1) := by decide +kernel
theorem dX9_next1_206 : decode cX9_next1 206 = .ok (.putfield 149, 3) := by decide +kernel
theorem dX9_next1_209 : decode cX9_next1 209 = .ok (.iconst 0, 1) := by decide +kernel
theorem dX9_next1_210 : decode cX9_next1 210 = .ok (.istore_n 2, 1) := by decide +kernel
theorem dX9_next1_211 : decode cX9_next1 211 = .ok (.aload_n 0, 1) := by decide +kernel
theorem dX9_next1_212 : decode cX9_next1 212 = .ok (.aload_n 0, 1) := by decide +kernel
theorem dX9_next1_213 : decode cX9_next1 213 = .ok (.getfield 133, 3) := by decide +kernel
theorem dX9_next1_216 : decode cX9_next1 216 = .ok (.invokevirtual 136, 3) := by decide +kernel
theorem dX9_next1_219 : decode cX9_next1 219 = .ok (.i2l, 1) := by decide +kernel
theorem dX9_next1_220 : decode cX9_next1 220 = .ok (.ldc2_w 157, 3) := by decide +kernel
theorem dX9_next1_223 : decode cX9_next1 223 = .ok (.ldc2_w 159, 3) := by decide +kernel
theorem dX9_next1_226 : decode cX9_next1 226 = .ok (.invokestatic 85, 3) := by decide +kernel
theorem dX9_next1_229 : decode cX9_next1 229 = .ok (.ifCond .eq 57, 3) := by decide +kernel
theorem dX9_next1_232 : decode cX9_next1 232 = .ok (.aload_n 0, 1) := by decide +kernel
theorem dX9_next1_233 : decode cX9_next1 233 = .ok (.iload_n 2, 1) := by decide +kernel
theorem dX9_next1_234 : decode cX9_next1 234 = .ok (.iconst 4, 1) := by decide +kernel
theorem dX9_next1_235 : decode cX9_next1 235 = .ok (.if_icmp .ge 28, 3) := by decide +kernel
theorem dX9_next1_238 : decode cX9_next1 238 = .ok (.ldc2_w 161, 3) := by decide +kernel
theorem dX9_next1_241 : decode cX9_next1 241 = .ok (.aload_n 0, 1) := by decide +kernel
theorem dX9_next1_242 : decode cX9_next1 242 = .ok (.getfield 149, 3) := by decide +kernel
theorem dX9_next1_245 : decode cX9_next1 245 = .ok (.lmul, 1) := by decide +kernel
theorem dX9_next1_246 : decode cX9_next1 246 = .ok (.aload_n 0, 1) := by decide +kernel
theorem dX9_next1_247 : decode cX9_next1 247 = .ok (.aload_n 0, 1) := by decide +kernel
theorem dX9_next1_248 : decode cX9_next1 248 = .ok (.getfield 133, 3) := by decide +kernel
theorem dX9_next1_251 : decode cX9_next1 251 = .ok (.invokevirtual 136, 3) := by decide +kernel
theorem dX9_next1_254 : decode cX9_next1 254 = .ok (.i2l, 1) := by decide +kernel
theorem dX9_next1_255 : decode cX9_next1 255 = .ok (.ladd, 1) := by decide +kernel
theorem dX9_next1_256 : decode cX9_next1 256 = .ok (.ldc2_w 157, 3) := by decide +kernel
theorem dX9_next1_259 : decode cX9_next1 259 = .ok (.lsub, 1) := by decide +kernel
theorem dX9_next1_260 : decode cX9_next1 260 = .ok (.goto 7, 3) := by decide +kernel
theorem dX9_next1_263 : decode cX9_next1 263 = .ok (.aload_n 0, 1) := by decide +kernel
theorem dX9_next1_264 : decode cX9_next1 264 = .ok (.getfield 149, 3) := by decide +kernel
theorem dX9_next1_267 : decode cX9_next1 267 = .ok (.putfield 149, 3) := by decide +kernel
theorem dX9_next1_270 : decode cX9_next1 270 = .ok (.iinc 2 1, 3) := by decide +kernel
theorem dX9_next1_273 : decode cX9_next1 273 = .ok (.aload_n 0, 1) := by decide +kernel
theorem dX9_next1_274 : decode cX9_next1 274 = .ok (.dup, 1) := by decide +kernel
theorem dX9_next1_275 : decode cX9_next1 275 = .ok (.getfield 133, 3) := by decide +kernel
theorem dX9_next1_278 : decode cX9_next1 278 = .ok (.iconst 1, 1) := by decide +kernel
theorem dX9_next1_279 : decode cX9_next1 279 = .ok (.iadd, 1) := by decide +kernel
theorem dX9_next1_280 : decode cX9_next1 280 = .ok (.putfield 133, 3) := by decide +kernel
theorem dX9_next1_283 : decode cX9_next1 283 = .ok (.goto (-72), 3) := by decide +kernel
theorem dX9_next1_286 : decode cX9_next1 286 = .ok (.aload_n 0, 1) := by decide +kernel
theorem dX9_next1_287 : decode cX9_next1 287 = .ok (.iload_n 2, 1) := by decide +kernel
theorem dX9_next1_288 : decode cX9_next1 288 = .ok (.iconst 4, 1) := by decide +kernel
theorem dX9_next1_289 : decode cX9_next1 289 = .ok (.if_icmp .le 7, 3) := by decide +kernel
theorem dX9_next1_292 : decode cX9_next1 292 = .ok (.iconst 4, 1) := by decide +kernel
theorem dX9_next1_293 : decode cX9_next1 293 = .ok (.goto 4, 3) := by decide +kernel
theorem dX9_next1_296 : decode cX9_next1 296 = .ok (.iconst 2, 1) := by decide +kernel
theorem dX9_next1_297 : decode cX9_next1 297 = .ok (.putfield 142, 3) := by decide +kernel
theorem dX9_next1_300 : decode cX9_next1 300 = .ok (.goto 72, 3) := by decide +kernel
theorem dX9_next1_303 : decode cX9_next1 303 = .ok (.iload_n 1, 1) := by decide +kernel
theorem dX9_next1_304 : decode cX9_next1 304 = .ok (.bipush 40, 2) := by decide +kernel
theorem dX9_next1_306 : decode cX9_next1 306 = .ok (.if_icmp .eq 45, 3) := by decide +kernel
theorem dX9_next1_309 : decode cX9_next1 309 = .ok (.iload_n 1, 1) := by decide +kernel
theorem dX9_next1_310 : decode cX9_next1 310 = .ok (.bipush 41, 2) := by decide +kernel
theorem dX9_next1_312 : decode cX9_next1 312 = .ok (.if_icmp .eq 39, 3) := by decide +kernel
theorem dX9_next1_315 : decode cX9_next1 315 = .ok (.iload_n 1, 1) := by decide +kernel
theorem dX9_next1_316 : decode cX9_next1 316 = .ok (.bipush 59, 2) := by decide +kernel
theorem dX9_next1_318 : decode cX9_next1 318 = .ok (.if_icmp .eq 33, 3) := by decide +kernel
theorem dX9_next1_321 : decode cX9_next1 321 = .ok (.iload_n 1, 1) := by decide +kernel
theorem dX9_next1_322 : decode cX9_next1 322 = .ok (.bipush 43, 2) := by decide +kernel
theorem dX9_next1_324 : decode cX9_next1 324 = .ok (.if_icmp .eq 27, 3) := by decide +kernel
theorem dX9_next1_327 : decode cX9_next1 327 = .ok (.iload_n 1, 1) := by decide +kernel
theorem dX9_next1_328 : decode cX9_next1 328 = .ok (.bipush 45, 2) := by decide +kernel
theorem dX9_next1_330 : decode cX9_next1 330 = .ok (.if_icmp .eq 21, 3) := by decide +kernel
theorem dX9_next1_333 : decode cX9_next1 333 = .ok (.iload_n 1, 1) := by decide +kernel
theorem dX9_next1_334 : decode cX9_next1 334 = .ok (.bipush 42, 2) := by decide +kernel
theorem dX9_next1_336 : decode cX9_next1 336 = .ok (.if_icmp .eq 15, 3) := by decide +kernel
theorem dX9_next1_339 : decode cX9_next1 339 = .ok (.iload_n 1, 1) := by decide +kernel
theorem dX9_next1_340 : decode cX9_next1 340 = .ok (.bipush 60, 2) := by decide +kernel
theorem dX9_next1_342 : decode cX9_next1 342 = .ok (.if_icmp .eq 9, 3) := by decide +kernel
theorem dX9_next1_345 : decode cX9_next1 345 = .ok (.iload_n 1, 1) := by decide +kernel
theorem dX9_next1_346 : decode cX9_next1 346 = .ok (.bipush 61, 2) := by decide +kernel
theorem dX9_next1_348 : decode cX9_next1 348 = .ok (.if_icmp .ne 24, 3) := by decide +kernel
theorem dX9_next1_351 : decode cX9_next1 351 = .ok (.aload_n 0, 1) := by decide +kernel
theorem dX9_next1_352 : decode cX9_next1 352 = .ok (.iconst 3, 1) := by decide +kernel
theorem dX9_next1_353 : decode cX9_next1 353 = .ok (.putfield 142, 3) := by decide +kernel
theorem dX9_next1_356 : decode cX9_next1 356 = .ok (.aload_n 0, 1) := by decide +kernel
theorem dX9_next1_357 : decode cX9_next1 357 = .ok (.iload_n 1, 1) := by decide +kernel
theorem dX9_next1_358 : decode cX9_next1 358 = .ok (.i2l, 1) := by decide +kernel
theorem dX9_next1_359 : decode cX9_next1 359 = .ok (.putfield 149, 3) := by decide +kernel
theorem dX9_next1_362 : decode cX9_next1 362 = .ok (.aload_n 0, 1) := by decide +kernel
theorem dX9_next1_363 : decode cX9_next1 363 = .ok (.dup, 1) := by decide +kernel
theorem dX9_next1_364 : decode cX9_next1 364 = .ok (.getfield 133, 3) := by decide +kernel
theorem dX9_next1_367 : decode cX9_next1 367 = .ok (.iconst 1, 1) := by decide +kernel
theorem dX9_next1_368 : decode cX9_next1 368 = .ok (.iadd, 1) := by decide +kernel
theorem dX9_next1_369 : decode cX9_next1 369 = .ok (.putfield 133, 3) := by decide +kernel
theorem dX9_next1_372 : decode cX9_next1 372 = .ok (.return_, 1) := by decide +kernel
theorem dX9_fail_0 : decode cX9_fail 0 = .ok (.aload_n 0, 1) := by decide +kernel
theorem dX9_fail_1 : decode cX9_fail 1 = .ok (.getfield 163, 3) := by decide +kernel
theorem dX9_fail_4 : decode cX9_fail 4 = .ok (.ifCond .ne 16, 3) := by decide +kernel
theorem dX9_fail_7 : decode cX9_fail 7 = .ok (.aload_n 0, 1) := by decide +kernel
theorem dX9_fail_8 : decode cX9_fail 8 = .ok (.iconst 1, 1) := by decide +kernel
theorem dX9_fail_9 : decode cX9_fail 9 = .ok (.putfield 163, 3) := by decide +kernel
theorem dX9_fail_12 : decode cX9_fail 12 = .ok (.aload_n 0, 1) := by decide +kernel
theorem dX9_fail_13 : decode cX9_fail 13 = .ok (.aload_n 0, 1) := by decide +kernel
theorem dX9_fail_14 : decode cX9_fail 14 = .ok (.getfield 139, 3) := by decide +kernel
theorem dX9_fail_17 : decode cX9_fail 17 = .ok (.putfield 167, 3) := by decide +kernel
theorem dX9_fail_20 : decode cX9_fail 20 = .ok (.return_, 1) := by decide +kernel
theorem dX9_isWord_0 : decode cX9_isWord 0 = .ok (.aload_n 0, 1) := by decide +kernel
theorem dX9_isWord_1 : decode cX9_isWord 1 = .ok (.getfield 163, 3) := by decide +kernel
theorem dX9_isWord_4 : decode cX9_isWord 4 = .ok (.ifCond .ne 24, 3) := by decide +kernel
theorem dX9_isWord_7 : decode cX9_isWord 7 = .ok (.aload_n 0, 1) := by decide +kernel
theorem dX9_isWord_8 : decode cX9_isWord 8 = .ok (.getfield 142, 3) := by decide +kernel
theorem dX9_isWord_11 : decode cX9_isWord 11 = .ok (.iconst 1, 1) := by decide +kernel
theorem dX9_isWord_12 : decode cX9_isWord 12 = .ok (.if_icmp .ne 16, 3) := by decide +kernel
theorem dX9_isWord_15 : decode cX9_isWord 15 = .ok (.aload_n 0, 1) := by decide +kernel
theorem dX9_isWord_16 : decode cX9_isWord 16 = .ok (.getfield 149, 3) := by decide +kernel
theorem dX9_isWord_19 : decode cX9_isWord 19 = .ok (.lload_n 1, 1) := by decide +kernel
theorem dX9_isWord_20 : decode cX9_isWord 20 = .ok (.lcmp, 1) := by decide +kernel
theorem dX9_isWord_21 : decode cX9_isWord 21 = .ok (.ifCond .ne 7, 3) := by decide +kernel
theorem dX9_isWord_24 : decode cX9_isWord 24 = .ok (.iconst 1, 1) := by decide +kernel
theorem dX9_isWord_25 : decode cX9_isWord 25 = .ok (.goto 4, 3) := by decide +kernel
theorem dX9_isWord_28 : decode cX9_isWord 28 = .ok (.iconst 0, 1) := by decide +kernel
theorem dX9_isWord_29 : decode cX9_isWord 29 = .ok (.ireturn, 1) := by decide +kernel
theorem dX9_isSign_0 : decode cX9_isSign 0 = .ok (.aload_n 0, 1) := by decide +kernel
theorem dX9_isSign_1 : decode cX9_isSign 1 = .ok (.getfield 163, 3) := by decide +kernel
theorem dX9_isSign_4 : decode cX9_isSign 4 = .ok (.ifCond .ne 25, 3) := by decide +kernel
theorem dX9_isSign_7 : decode cX9_isSign 7 = .ok (.aload_n 0, 1) := by decide +kernel
theorem dX9_isSign_8 : decode cX9_isSign 8 = .ok (.getfield 142, 3) := by decide +kernel
theorem dX9_isSign_11 : decode cX9_isSign 11 = .ok (.iconst 3, 1) := by decide +kernel
theorem dX9_isSign_12 : decode cX9_isSign 12 = .ok (.if_icmp .ne 17, 3) := by decide +kernel
theorem dX9_isSign_15 : decode cX9_isSign 15 = .ok (.aload_n 0, 1) := by decide +kernel
theorem dX9_isSign_16 : decode cX9_isSign 16 = .ok (.getfield 149, 3) := by decide +kernel
theorem dX9_isSign_19 : decode cX9_isSign 19 = .ok (.iload_n 1, 1) := by decide +kernel
theorem dX9_isSign_20 : decode cX9_isSign 20 = .ok (.i2l, 1) := by decide +kernel
theorem dX9_isSign_21 : decode cX9_isSign 21 = .ok (.lcmp, 1) := by decide +kernel
theorem dX9_isSign_22 : decode cX9_isSign 22 = .ok (.ifCond .ne 7, 3) := by decide +kernel
theorem dX9_isSign_25 : decode cX9_isSign 25 = .ok (.iconst 1, 1) := by decide +kernel
theorem dX9_isSign_26 : decode cX9_isSign 26 = .ok (.goto 4, 3) := by decide +kernel
theorem dX9_isSign_29 : decode cX9_isSign 29 = .ok (.iconst 0, 1) := by decide +kernel
theorem dX9_isSign_30 : decode cX9_isSign 30 = .ok (.ireturn, 1) := by decide +kernel
set_option maxRecDepth 20000 in
theorem ggX9_opens_X9_fail : GoodIn wsX9_opens wsX9_fail := goodIn_r _ [6, 7, 8, 9, 35, 36, 37, 38, 39, 40, 41, 42, 43, 44, 45, 46, 47, 48, 49, 50, 51, 52, 53, 54, 55, 56, 57, 58, 59, 60, 61, 62, 63, 64, 65, 66, 67, 68, 69, 70, 71, 72, 73, 74, 75, 76, 77, 78, 79] (by decide +kernel) (by decide +kernel)
set_option maxRecDepth 20000 in
theorem gX9_opens_X9_fail : GoodIn wsX9_opens (wsV RX9 173 RX9 yX9_fail wsX9_fail) := goodIn_app (goodIn_of _ (by decide +kernel)) ggX9_opens_X9_fail
set_option maxRecDepth 20000 in
theorem ggX9_opens_X9_next1 : GoodIn wsX9_opens wsX9_next1 := goodIn_r _ [13, 14, 8, 15, 16, 17, 18, 19, 20, 21, 22, 23, 24, 25, 26, 27, 28, 5, 29, 30, 31, 32, 33, 34, 35, 36, 37, 38, 39, 40, 41, 42, 43, 44, 45, 46, 47, 48, 49, 50, 51, 52, 53, 54, 55, 56, 57, 58, 59, 60, 61, 62, 63, 64, 65, 66, 67, 68, 69, 70, 71, 72, 73, 74, 75, 76, 77, 78, 79] (by decide +kernel) (by decide +kernel)
set_option maxRecDepth 20000 in
theorem gX9_opens_X9_next1 : GoodIn wsX9_opens (wsV RX9 176 RX9 yX9_next1 wsX9_next1) := goodIn_app (goodIn_of _ (by decide +kernel)) ggX9_opens_X9_next1
theorem dX9_opens_0 : decode cX9_opens 0 = .ok (.aload_n 0, 1) := by decide +kernel
theorem dX9_opens_1 : decode cX9_opens 1 = .ok (.getfield 170, 3) := by decide +kernel
theorem dX9_opens_4 : decode cX9_opens 4 = .ok (.iconst 5, 1) := by decide +kernel
theorem dX9_opens_5 : decode cX9_opens 5 = .ok (.if_icmp .ne 9, 3) := by decide +kernel
theorem dX9_opens_8 : decode cX9_opens 8 = .ok (.aload_n 0, 1) := by decide +kernel
theorem dX9_opens_9 : decode cX9_opens 9 = .ok (.invokevirtual 173, 3) := by decide +kernel
theorem dX9_opens_12 : decode cX9_opens 12 = .ok (.iconst 0, 1) := by decide +kernel
theorem dX9_opens_13 : decode cX9_opens 13 = .ok (.ireturn, 1) := by decide +kernel
theorem dX9_opens_14 : decode cX9_opens 14 = .ok (.aload_n 0, 1) := by decide +kernel
theorem dX9_opens_15 : decode cX9_opens 15 = .ok (.dup, 1) := by decide +kernel
theorem dX9_opens_16 : decode cX9_opens 16 = .ok (.getfield 170, 3) := by decide +kernel
theorem dX9_opens_19 : decode cX9_opens 19 = .ok (.iconst 1, 1) := by decide +kernel
theorem dX9_opens_20 : decode cX9_opens 20 = .ok (.iadd, 1) := by decide +kernel
theorem dX9_opens_21 : decode cX9_opens 21 = .ok (.putfield 170, 3) := by decide +kernel
theorem dX9_opens_24 : decode cX9_opens 24 = .ok (.aload_n 0, 1) := by decide +kernel
theorem dX9_opens_25 : decode cX9_opens 25 = .ok (.invokevirtual 176, 3) := by decide +kernel
theorem dX9_opens_28 : decode cX9_opens 28 = .ok (.iconst 1, 1) := by decide +kernel
theorem dX9_opens_29 : decode cX9_opens 29 = .ok (.ireturn, 1) := by decide +kernel
set_option maxRecDepth 20000 in
theorem ggX9_name_X9_isWord : GoodIn wsX9_name wsX9_isWord := goodIn_r _ [17, 18, 19, 20, 27, 28, 29, 30, 31, 32, 33, 34, 35, 36, 37, 38, 39, 40, 41, 42, 43, 44, 45, 46, 47, 48, 49, 50, 51, 52, 53, 54, 55, 56, 57, 58, 59, 60, 61, 62, 63, 64, 65, 66, 67, 68, 69, 70, 71] (by decide +kernel) (by decide +kernel)
set_option maxRecDepth 20000 in
theorem gX9_name_X9_isWord : GoodIn wsX9_name (wsV RX9 181 RX9 yX9_isWord wsX9_isWord) := goodIn_app (goodIn_of _ (by decide +kernel)) ggX9_name_X9_isWord
set_option maxRecDepth 20000 in
theorem ggX9_name_X9_fail : GoodIn wsX9_name wsX9_fail := goodIn_r _ [24, 18, 25, 26, 27, 28, 29, 30, 31, 32, 33, 34, 35, 36, 37, 38, 39, 40, 41, 42, 43, 44, 45, 46, 47, 48, 49, 50, 51, 52, 53, 54, 55, 56, 57, 58, 59, 60, 61, 62, 63, 64, 65, 66, 67, 68, 69, 70, 71] (by decide +kernel) (by decide +kernel)
set_option maxRecDepth 20000 in
theorem gX9_name_X9_fail : GoodIn wsX9_name (wsV RX9 173 RX9 yX9_fail wsX9_fail) := goodIn_app (goodIn_of _ (by decide +kernel)) ggX9_name_X9_fail
theorem dX9_name_0 : decode cX9_name 0 = .ok (.aload_n 0, 1) := by decide +kernel
theorem dX9_name_1 : decode cX9_name 1 = .ok (.ldc2_w 179, 3) := by decide +kernel
theorem dX9_name_4 : decode cX9_name 4 = .ok (.invokevirtual 181, 3) := by decide +kernel
theorem dX9_name_7 : decode cX9_name 7 = .ok (.ifCond .eq 8, 3) := by decide +kernel
theorem dX9_name_10 : decode cX9_name 10 = .ok (.aload_n 0, 1) := by decide +kernel
theorem dX9_name_11 : decode cX9_name 11 = .ok (.getfield 185, 3) := by decide +kernel
theorem dX9_name_14 : decode cX9_name 14 = .ok (.ireturn, 1) := by decide +kernel
theorem dX9_name_15 : decode cX9_name 15 = .ok (.aload_n 0, 1) := by decide +kernel
theorem dX9_name_16 : decode cX9_name 16 = .ok (.ldc2_w 188, 3) := by decide +kernel
theorem dX9_name_19 : decode cX9_name 19 = .ok (.invokevirtual 181, 3) := by decide +kernel
theorem dX9_name_22 : decode cX9_name 22 = .ok (.ifCond .eq 8, 3) := by decide +kernel
theorem dX9_name_25 : decode cX9_name 25 = .ok (.aload_n 0, 1) := by decide +kernel
theorem dX9_name_26 : decode cX9_name 26 = .ok (.getfield 74, 3) := by decide +kernel
theorem dX9_name_29 : decode cX9_name 29 = .ok (.ireturn, 1) := by decide +kernel
theorem dX9_name_30 : decode cX9_name 30 = .ok (.aload_n 0, 1) := by decide +kernel
theorem dX9_name_31 : decode cX9_name 31 = .ok (.ldc2_w 190, 3) := by decide +kernel
theorem dX9_name_34 : decode cX9_name 34 = .ok (.invokevirtual 181, 3) := by decide +kernel
theorem dX9_name_37 : decode cX9_name 37 = .ok (.ifCond .eq 8, 3) := by decide +kernel
theorem dX9_name_40 : decode cX9_name 40 = .ok (.aload_n 0, 1) := by decide +kernel
theorem dX9_name_41 : decode cX9_name 41 = .ok (.getfield 192, 3) := by decide +kernel
theorem dX9_name_44 : decode cX9_name 44 = .ok (.ireturn, 1) := by decide +kernel
theorem dX9_name_45 : decode cX9_name 45 = .ok (.aload_n 0, 1) := by decide +kernel
theorem dX9_name_46 : decode cX9_name 46 = .ok (.ldc2_w 195, 3) := by decide +kernel
theorem dX9_name_49 : decode cX9_name 49 = .ok (.invokevirtual 181, 3) := by decide +kernel
theorem dX9_name_52 : decode cX9_name 52 = .ok (.ifCond .eq 8, 3) := by decide +kernel
theorem dX9_name_55 : decode cX9_name 55 = .ok (.aload_n 0, 1) := by decide +kernel
theorem dX9_name_56 : decode cX9_name 56 = .ok (.getfield 111, 3) := by decide +kernel
theorem dX9_name_59 : decode cX9_name 59 = .ok (.ireturn, 1) := by decide +kernel
theorem dX9_name_60 : decode cX9_name 60 = .ok (.aload_n 0, 1) := by decide +kernel
theorem dX9_name_61 : decode cX9_name 61 = .ok (.ldc2_w 197, 3) := by decide +kernel
theorem dX9_name_64 : decode cX9_name 64 = .ok (.invokevirtual 181, 3) := by decide +kernel
theorem dX9_name_67 : decode cX9_name 67 = .ok (.ifCond .eq 8, 3) := by decide +kernel
theorem dX9_name_70 : decode cX9_name 70 = .ok (.aload_n 0, 1) := by decide +kernel
theorem dX9_name_71 : decode cX9_name 71 = .ok (.getfield 114, 3) := by decide +kernel
theorem dX9_name_74 : decode cX9_name 74 = .ok (.ireturn, 1) := by decide +kernel
theorem dX9_name_75 : decode cX9_name 75 = .ok (.aload_n 0, 1) := by decide +kernel
theorem dX9_name_76 : decode cX9_name 76 = .ok (.ldc2_w 199, 3) := by decide +kernel
theorem dX9_name_79 : decode cX9_name 79 = .ok (.invokevirtual 181, 3) := by decide +kernel
theorem dX9_name_82 : decode cX9_name 82 = .ok (.ifCond .eq 8, 3) := by decide +kernel
theorem dX9_name_85 : decode cX9_name 85 = .ok (.aload_n 0, 1) := by decide +kernel
theorem dX9_name_86 : decode cX9_name 86 = .ok (.getfield 108, 3) := by decide +kernel
theorem dX9_name_89 : decode cX9_name 89 = .ok (.ireturn, 1) := by decide +kernel
theorem dX9_name_90 : decode cX9_name 90 = .ok (.aload_n 0, 1) := by decide +kernel
theorem dX9_name_91 : decode cX9_name 91 = .ok (.invokevirtual 173, 3) := by decide +kernel
theorem dX9_name_94 : decode cX9_name 94 = .ok (.iconst 0, 1) := by decide +kernel
theorem dX9_name_95 : decode cX9_name 95 = .ok (.ireturn, 1) := by decide +kernel
set_option maxRecDepth 20000 in
theorem ggX9_one_X9_isSign : GoodIn wsX9_one wsX9_isSign := goodIn_r _ [9, 2, 3, 4, 91, 92, 93, 94, 95, 96, 97, 98, 99, 100, 101, 102, 103, 104, 105, 106, 107, 108, 109, 110, 111, 112, 113, 114, 115, 116, 117, 118, 119, 120, 121, 122, 123, 124, 125, 126, 127, 128, 129, 130, 131, 132, 133, 134, 135] (by decide +kernel) (by decide +kernel)
set_option maxRecDepth 20000 in
theorem gX9_one_X9_isSign : GoodIn wsX9_one (wsV RX9 201 RX9 yX9_isSign wsX9_isSign) := goodIn_app (goodIn_of _ (by decide +kernel)) ggX9_one_X9_isSign
set_option maxRecDepth 20000 in
theorem ggX9_one_X9_opens : GoodIn wsX9_one wsX9_opens := goodIn_r _ [13, 1, 14, 15, 16, 8, 17, 2, 18, 19, 20, 21, 22, 23, 24, 3, 25, 26, 27, 4, 28, 29, 30, 31, 32, 33, 34, 35, 36, 37, 38, 39, 40, 41, 42, 91, 92, 93, 94, 95, 96, 97, 98, 99, 100, 101, 102, 103, 104, 105, 106, 107, 108, 109, 110, 111, 112, 113, 114, 115, 116, 117, 118, 119, 120, 121, 122, 123, 124, 125, 126, 127, 128, 129, 130, 131, 132, 133, 134, 135] (by decide +kernel) (by decide +kernel)
set_option maxRecDepth 20000 in
theorem gX9_one_X9_opens : GoodIn wsX9_one (wsV RX9 204 RX9 yX9_opens wsX9_opens) := goodIn_app (goodIn_of _ (by decide +kernel)) ggX9_one_X9_opens
set_option maxRecDepth 20000 in
theorem ggX9_one_X9_one : GoodIn wsX9_one wsX9_one := goodIn_r _ [0, 1, 2, 3, 4, 5, 6, 7, 8, 9, 10, 11, 12, 13, 14, 15, 16, 17, 18, 19, 20, 21, 22, 23, 24, 25, 26, 27, 28, 29, 30, 31, 32, 33, 34, 35, 36, 37, 38, 39, 40, 41, 42, 43, 44, 45, 46, 47, 48, 49, 50, 51, 52, 53, 54, 55, 56, 57, 58, 59, 60, 61, 62, 63, 64, 65, 66, 67, 68, 69, 70, 71, 72, 73, 74, 75, 76, 77, 78, 79, 80, 81, 82, 83, 84, 85, 86, 87, 88, 89, 90, 91, 92, 93, 94, 95, 96, 97, 98, 99, 100, 101, 102, 103, 104, 105, 106, 107, 108, 109, 110, 111, 112, 113, 114, 115, 116, 117, 118, 119, 120, 121, 122, 123, 124, 125, 126, 127, 128, 129, 130, 131, 132, 133, 134, 135] (by decide +kernel) (by decide +kernel)
set_option maxRecDepth 20000 in
theorem gX9_one_X9_one : GoodIn wsX9_one (wsV RX9 208 RX9 yX9_one wsX9_one) := goodIn_app (goodIn_of _ (by decide +kernel)) ggX9_one_X9_one
set_option maxRecDepth 20000 in
theorem ggX9_one_X9_either : GoodIn wsX9_one wsX9_either := goodIn_r _ [79, 80, 81, 82, 83, 8, 65, 66, 67, 68, 2, 3, 4, 20, 21, 22, 23, 24, 18, 25, 26, 27, 28, 29, 30, 31, 32, 33, 34, 35, 36, 37, 38, 39, 40, 41, 42, 69, 70, 71, 72, 73, 5, 6, 7, 9, 74, 75, 76, 77, 78, 84, 85, 1, 86, 10, 11, 12, 13, 14, 15, 16, 17, 19, 87, 88, 89, 0, 43, 44, 45, 46, 47, 48, 49, 50, 51, 52, 53, 54, 55, 56, 57, 58, 59, 60, 61, 62, 63, 64, 90, 91, 92, 93, 94, 95, 96, 97, 98, 99, 100, 101, 102, 103, 104, 105, 106, 107, 108, 109, 110, 111, 112, 113, 114, 115, 116, 117, 118, 119, 120, 121, 122, 123, 124, 125, 126, 127, 128, 129, 130, 131, 132, 133, 134, 135] (by decide +kernel) (by decide +kernel)
set_option maxRecDepth 20000 in
theorem gX9_one_X9_either : GoodIn wsX9_one (wsV RX9 212 RX9 yX9_either wsX9_either) := goodIn_app (goodIn_of _ (by decide +kernel)) ggX9_one_X9_either
set_option maxRecDepth 20000 in
theorem ggX9_one_X9_fail : GoodIn wsX9_one wsX9_fail := goodIn_r _ [17, 2, 18, 19, 91, 92, 93, 94, 95, 96, 97, 98, 99, 100, 101, 102, 103, 104, 105, 106, 107, 108, 109, 110, 111, 112, 113, 114, 115, 116, 117, 118, 119, 120, 121, 122, 123, 124, 125, 126, 127, 128, 129, 130, 131, 132, 133, 134, 135] (by decide +kernel) (by decide +kernel)
set_option maxRecDepth 20000 in
theorem gX9_one_X9_fail : GoodIn wsX9_one (wsV RX9 173 RX9 yX9_fail wsX9_fail) := goodIn_app (goodIn_of _ (by decide +kernel)) ggX9_one_X9_fail
set_option maxRecDepth 20000 in
theorem ggX9_one_X9_next1 : GoodIn wsX9_one wsX9_next1 := goodIn_r _ [23, 24, 18, 3, 25, 26, 27, 4, 28, 29, 30, 31, 32, 33, 34, 35, 36, 8, 37, 38, 39, 40, 41, 42, 91, 92, 93, 94, 95, 96, 97, 98, 99, 100, 101, 102, 103, 104, 105, 106, 107, 108, 109, 110, 111, 112, 113, 114, 115, 116, 117, 118, 119, 120, 121, 122, 123, 124, 125, 126, 127, 128, 129, 130, 131, 132, 133, 134, 135] (by decide +kernel) (by decide +kernel)
set_option maxRecDepth 20000 in
theorem gX9_one_X9_next1 : GoodIn wsX9_one (wsV RX9 176 RX9 yX9_next1 wsX9_next1) := goodIn_app (goodIn_of _ (by decide +kernel)) ggX9_one_X9_next1
set_option maxRecDepth 20000 in
theorem ggX9_one_X9_name : GoodIn wsX9_one wsX9_name := goodIn_r _ [52, 53, 54, 55, 56, 57, 58, 59, 60, 61, 62, 63, 64, 65, 66, 67, 8, 68, 2, 3, 4, 14, 15, 16, 17, 18, 19, 91, 92, 93, 94, 95, 96, 97, 98, 99, 100, 101, 102, 103, 104, 105, 106, 107, 108, 109, 110, 111, 112, 113, 114, 115, 116, 117, 118, 119, 120, 121, 122, 123, 124, 125, 126, 127, 128, 129, 130, 131, 132, 133, 134, 135] (by decide +kernel) (by decide +kernel)
set_option maxRecDepth 20000 in
theorem gX9_one_X9_name : GoodIn wsX9_one (wsV RX9 215 RX9 yX9_name wsX9_name) := goodIn_app (goodIn_of _ (by decide +kernel)) ggX9_one_X9_name
theorem dX9_one_0 : decode cX9_one 0 = .ok (.iconst 0, 1) := by decide +kernel
theorem dX9_one_1 : decode cX9_one 1 = .ok (.istore_n 1, 1) := by decide +kernel
theorem dX9_one_2 : decode cX9_one 2 = .ok (.aload_n 0, 1) := by decide +kernel
theorem dX9_one_3 : decode cX9_one 3 = .ok (.bipush 45, 2) := by decide +kernel
theorem dX9_one_5 : decode cX9_one 5 = .ok (.invokevirtual 201, 3) := by decide +kernel
theorem dX9_one_8 : decode cX9_one 8 = .ok (.ifCond .eq 29, 3) := by decide +kernel
theorem dX9_one_11 : decode cX9_one 11 = .ok (.aload_n 0, 1) := by decide +kernel
theorem dX9_one_12 : decode cX9_one 12 = .ok (.invokevirtual 204, 3) := by decide +kernel
theorem dX9_one_15 : decode cX9_one 15 = .ok (.ifCond .eq 146, 3) := by decide +kernel
theorem dX9_one_18 : decode cX9_one 18 = .ok (.aload_n 0, 1) := by decide +kernel
theorem dX9_one_19 : decode cX9_one 19 = .ok (.invokevirtual 208, 3) := by decide +kernel
theorem dX9_one_22 : decode cX9_one 22 = .ok (.ineg, 1) := by decide +kernel
theorem dX9_one_23 : decode cX9_one 23 = .ok (.istore_n 1, 1) := by decide +kernel
theorem dX9_one_24 : decode cX9_one 24 = .ok (.aload_n 0, 1) := by decide +kernel
theorem dX9_one_25 : decode cX9_one 25 = .ok (.dup, 1) := by decide +kernel
theorem dX9_one_26 : decode cX9_one 26 = .ok (.getfield 170, 3) := by decide +kernel
theorem dX9_one_29 : decode cX9_one 29 = .ok (.iconst 1, 1) := by decide +kernel
theorem dX9_one_30 : decode cX9_one 30 = .ok (.isub, 1) := by decide +kernel
theorem dX9_one_31 : decode cX9_one 31 = .ok (.putfield 170, 3) := by decide +kernel
theorem dX9_one_34 : decode cX9_one 34 = .ok (.goto 127, 3) := by decide +kernel
theorem dX9_one_37 : decode cX9_one 37 = .ok (.aload_n 0, 1) := by decide +kernel
theorem dX9_one_38 : decode cX9_one 38 = .ok (.bipush 40, 2) := by decide +kernel
theorem dX9_one_40 : decode cX9_one 40 = .ok (.invokevirtual 201, 3) := by decide +kernel
theorem dX9_one_43 : decode cX9_one 43 = .ok (.ifCond .eq 52, 3) := by decide +kernel
theorem dX9_one_46 : decode cX9_one 46 = .ok (.aload_n 0, 1) := by decide +kernel
theorem dX9_one_47 : decode cX9_one 47 = .ok (.invokevirtual 204, 3) := by decide +kernel
theorem dX9_one_50 : decode cX9_one 50 = .ok (.ifCond .eq 111, 3) := by decide +kernel
theorem dX9_one_53 : decode cX9_one 53 = .ok (.aload_n 0, 1) := by decide +kernel
theorem dX9_one_54 : decode cX9_one 54 = .ok (.invokevirtual 212, 3) := by decide +kernel
theorem dX9_one_57 : decode cX9_one 57 = .ok (.istore_n 1, 1) := by decide +kernel
theorem dX9_one_58 : decode cX9_one 58 = .ok (.aload_n 0, 1) := by decide +kernel
theorem dX9_one_59 : decode cX9_one 59 = .ok (.bipush 41, 2) := by decide +kernel
theorem dX9_one_61 : decode cX9_one 61 = .ok (.invokevirtual 201, 3) := by decide +kernel
theorem dX9_one_64 : decode cX9_one 64 = .ok (.ifCond .ne 7, 3) := by decide +kernel
theorem dX9_one_67 : decode cX9_one 67 = .ok (.aload_n 0, 1) := by decide +kernel
theorem dX9_one_68 : decode cX9_one 68 = .ok (.invokevirtual 173, 3) := by decide +kernel
theorem dX9_one_71 : decode cX9_one 71 = .ok (.aload_n 0, 1) := by decide +kernel
theorem dX9_one_72 : decode cX9_one 72 = .ok (.dup, 1) := by decide +kernel
theorem dX9_one_73 : decode cX9_one 73 = .ok (.getfield 170, 3) := by decide +kernel
theorem dX9_one_76 : decode cX9_one 76 = .ok (.iconst 1, 1) := by decide +kernel
theorem dX9_one_77 : decode cX9_one 77 = .ok (.isub, 1) := by decide +kernel
theorem dX9_one_78 : decode cX9_one 78 = .ok (.putfield 170, 3) := by decide +kernel
theorem dX9_one_81 : decode cX9_one 81 = .ok (.aload_n 0, 1) := by decide +kernel
theorem dX9_one_82 : decode cX9_one 82 = .ok (.getfield 163, 3) := by decide +kernel
theorem dX9_one_85 : decode cX9_one 85 = .ok (.ifCond .ne 76, 3) := by decide +kernel
theorem dX9_one_88 : decode cX9_one 88 = .ok (.aload_n 0, 1) := by decide +kernel
theorem dX9_one_89 : decode cX9_one 89 = .ok (.invokevirtual 176, 3) := by decide +kernel
theorem dX9_one_92 : decode cX9_one 92 = .ok (.goto 69, 3) := by decide +kernel
theorem dX9_one_95 : decode cX9_one 95 = .ok (.aload_n 0, 1) := by decide +kernel
theorem dX9_one_96 : decode cX9_one 96 = .ok (.getfield 163, 3) := by decide +kernel
theorem dX9_one_99 : decode cX9_one 99 = .ok (.ifCond .ne 24, 3) := by decide +kernel
theorem dX9_one_102 : decode cX9_one 102 = .ok (.aload_n 0, 1) := by decide +kernel
theorem dX9_one_103 : decode cX9_one 103 = .ok (.getfield 142, 3) := by decide +kernel
theorem dX9_one_106 : decode cX9_one 106 = .ok (.iconst 2, 1) := by decide +kernel
theorem dX9_one_107 : decode cX9_one 107 = .ok (.if_icmp .ne 16, 3) := by decide +kernel
theorem dX9_one_110 : decode cX9_one 110 = .ok (.aload_n 0, 1) := by decide +kernel
theorem dX9_one_111 : decode cX9_one 111 = .ok (.getfield 149, 3) := by decide +kernel
theorem dX9_one_114 : decode cX9_one 114 = .ok (.l2i, 1) := by decide +kernel
theorem dX9_one_115 : decode cX9_one 115 = .ok (.istore_n 1, 1) := by decide +kernel
theorem dX9_one_116 : decode cX9_one 116 = .ok (.aload_n 0, 1) := by decide +kernel
theorem dX9_one_117 : decode cX9_one 117 = .ok (.invokevirtual 176, 3) := by decide +kernel
theorem dX9_one_120 : decode cX9_one 120 = .ok (.goto 41, 3) := by decide +kernel
theorem dX9_one_123 : decode cX9_one 123 = .ok (.aload_n 0, 1) := by decide +kernel
theorem dX9_one_124 : decode cX9_one 124 = .ok (.getfield 163, 3) := by decide +kernel
theorem dX9_one_127 : decode cX9_one 127 = .ok (.ifCond .ne 30, 3) := by decide +kernel
theorem dX9_one_130 : decode cX9_one 130 = .ok (.aload_n 0, 1) := by decide +kernel
theorem dX9_one_131 : decode cX9_one 131 = .ok (.getfield 142, 3) := by decide +kernel
theorem dX9_one_134 : decode cX9_one 134 = .ok (.iconst 1, 1) := by decide +kernel
theorem dX9_one_135 : decode cX9_one 135 = .ok (.if_icmp .ne 22, 3) := by decide +kernel
theorem dX9_one_138 : decode cX9_one 138 = .ok (.aload_n 0, 1) := by decide +kernel
theorem dX9_one_139 : decode cX9_one 139 = .ok (.invokevirtual 215, 3) := by decide +kernel
theorem dX9_one_142 : decode cX9_one 142 = .ok (.istore_n 1, 1) := by decide +kernel
theorem dX9_one_143 : decode cX9_one 143 = .ok (.aload_n 0, 1) := by decide +kernel
theorem dX9_one_144 : decode cX9_one 144 = .ok (.getfield 163, 3) := by decide +kernel
theorem dX9_one_147 : decode cX9_one 147 = .ok (.ifCond .ne 14, 3) := by decide +kernel
theorem dX9_one_150 : decode cX9_one 150 = .ok (.aload_n 0, 1) := by decide +kernel
theorem dX9_one_151 : decode cX9_one 151 = .ok (.invokevirtual 176, 3) := by decide +kernel
theorem dX9_one_154 : decode cX9_one 154 = .ok (.goto 7, 3) := by decide +kernel
theorem dX9_one_157 : decode cX9_one 157 = .ok (.aload_n 0, 1) := by decide +kernel
theorem dX9_one_158 : decode cX9_one 158 = .ok (.invokevirtual 173, 3) := by decide +kernel
theorem dX9_one_161 : decode cX9_one 161 = .ok (.iload_n 1, 1) := by decide +kernel
theorem dX9_one_162 : decode cX9_one 162 = .ok (.ireturn, 1) := by decide +kernel
set_option maxRecDepth 20000 in
theorem ggX9_term_X9_one : GoodIn wsX9_term wsX9_one := goodIn_r _ [71, 57, 9, 10, 11, 5, 6, 7, 4, 8, 59, 60, 61, 62, 63, 64, 65, 66, 17, 67, 12, 13, 14, 15, 16, 18, 19, 20, 21, 22, 23, 24, 25, 26, 27, 28, 29, 30, 31, 32, 33, 34, 35, 1, 2, 3, 72, 73, 74, 75, 76, 77, 78, 79, 80, 81, 82, 83, 84, 85, 86, 87, 88, 89, 90, 46, 47, 48, 49, 36, 37, 38, 39, 40, 41, 42, 43, 44, 45, 50, 51, 52, 53, 54, 55, 56, 58, 68, 69, 70, 0, 91, 92, 93, 94, 95, 96, 97, 98, 99, 100, 101, 102, 103, 104, 105, 106, 107, 108, 109, 110, 111, 112, 113, 114, 115, 116, 117, 118, 119, 120, 121, 122, 123, 124, 125, 126, 127, 128, 129, 130, 131, 132, 133, 134, 135] (by decide +kernel) (by decide +kernel)
set_option maxRecDepth 20000 in
theorem gX9_term_X9_one : GoodIn wsX9_term (wsV RX9 208 RX9 yX9_one wsX9_one) := goodIn_app (goodIn_of _ (by decide +kernel)) ggX9_term_X9_one
set_option maxRecDepth 20000 in
theorem ggX9_term_X9_isSign : GoodIn wsX9_term wsX9_isSign := goodIn_r _ [8, 9, 10, 11, 91, 92, 93, 94, 95, 96, 97, 98, 99, 100, 101, 102, 103, 104, 105, 106, 107, 108, 109, 110, 111, 112, 113, 114, 115, 116, 117, 118, 119, 120, 121, 122, 123, 124, 125, 126, 127, 128, 129, 130, 131, 132, 133, 134, 135] (by decide +kernel) (by decide +kernel)
set_option maxRecDepth 20000 in
theorem gX9_term_X9_isSign : GoodIn wsX9_term (wsV RX9 201 RX9 yX9_isSign wsX9_isSign) := goodIn_app (goodIn_of _ (by decide +kernel)) ggX9_term_X9_isSign
set_option maxRecDepth 20000 in
theorem ggX9_term_X9_next1 : GoodIn wsX9_term wsX9_next1 := goodIn_r _ [15, 16, 17, 10, 18, 19, 20, 11, 21, 22, 23, 24, 25, 26, 27, 28, 29, 4, 30, 31, 32, 33, 34, 35, 91, 92, 93, 94, 95, 96, 97, 98, 99, 100, 101, 102, 103, 104, 105, 106, 107, 108, 109, 110, 111, 112, 113, 114, 115, 116, 117, 118, 119, 120, 121, 122, 123, 124, 125, 126, 127, 128, 129, 130, 131, 132, 133, 134, 135] (by decide +kernel) (by decide +kernel)
set_option maxRecDepth 20000 in
theorem gX9_term_X9_next1 : GoodIn wsX9_term (wsV RX9 176 RX9 yX9_next1 wsX9_next1) := goodIn_app (goodIn_of _ (by decide +kernel)) ggX9_term_X9_next1
theorem dX9_term_0 : decode cX9_term 0 = .ok (.aload_n 0, 1) := by decide +kernel
theorem dX9_term_1 : decode cX9_term 1 = .ok (.invokevirtual 208, 3) := by decide +kernel
theorem dX9_term_4 : decode cX9_term 4 = .ok (.istore_n 1, 1) := by decide +kernel
theorem dX9_term_5 : decode cX9_term 5 = .ok (.aload_n 0, 1) := by decide +kernel
theorem dX9_term_6 : decode cX9_term 6 = .ok (.bipush 42, 2) := by decide +kernel
theorem dX9_term_8 : decode cX9_term 8 = .ok (.invokevirtual 201, 3) := by decide +kernel
theorem dX9_term_11 : decode cX9_term 11 = .ok (.ifCond .eq 17, 3) := by decide +kernel
theorem dX9_term_14 : decode cX9_term 14 = .ok (.aload_n 0, 1) := by decide +kernel
theorem dX9_term_15 : decode cX9_term 15 = .ok (.invokevirtual 176, 3) := by decide +kernel
theorem dX9_term_18 : decode cX9_term 18 = .ok (.iload_n 1, 1) := by decide +kernel
theorem dX9_term_19 : decode cX9_term 19 = .ok (.aload_n 0, 1) := by decide +kernel
theorem dX9_term_20 : decode cX9_term 20 = .ok (.invokevirtual 208, 3) := by decide +kernel
theorem dX9_term_23 : decode cX9_term 23 = .ok (.imul, 1) := by decide +kernel
theorem dX9_term_24 : decode cX9_term 24 = .ok (.istore_n 1, 1) := by decide +kernel
theorem dX9_term_25 : decode cX9_term 25 = .ok (.goto (-20), 3) := by decide +kernel
theorem dX9_term_28 : decode cX9_term 28 = .ok (.iload_n 1, 1) := by decide +kernel
theorem dX9_term_29 : decode cX9_term 29 = .ok (.ireturn, 1) := by decide +kernel
set_option maxRecDepth 20000 in
theorem ggX9_added_X9_term : GoodIn wsX9_added wsX9_term := goodIn_r _ [90, 68, 69, 70, 6, 7, 8, 9, 10, 11, 12, 1, 13, 14, 15, 16, 17, 18, 19, 20, 21, 22, 23, 24, 25, 26, 27, 28, 29, 30, 31, 32, 33, 34, 35, 36, 0, 2, 3, 4, 5, 37, 38, 39, 40, 41, 42, 43, 44, 45, 46, 47, 48, 49, 50, 51, 52, 53, 54, 55, 56, 57, 58, 59, 60, 61, 62, 63, 64, 65, 66, 67, 71, 72, 73, 74, 75, 76, 77, 78, 79, 80, 81, 82, 83, 84, 85, 86, 87, 88, 89, 91, 92, 93, 94, 95, 96, 97, 98, 99, 100, 101, 102, 103, 104, 105, 106, 107, 108, 109, 110, 111, 112, 113, 114, 115, 116, 117, 118, 119, 120, 121, 122, 123, 124, 125, 126, 127, 128, 129, 130, 131, 132, 133, 134, 135] (by decide +kernel) (by decide +kernel)
set_option maxRecDepth 20000 in
theorem gX9_added_X9_term : GoodIn wsX9_added (wsV RX9 218 RX9 yX9_term wsX9_term) := goodIn_app (goodIn_of _ (by decide +kernel)) ggX9_added_X9_term
set_option maxRecDepth 20000 in
theorem ggX9_added_X9_isSign : GoodIn wsX9_added wsX9_isSign := goodIn_r _ [10, 11, 12, 1, 91, 92, 93, 94, 95, 96, 97, 98, 99, 100, 101, 102, 103, 104, 105, 106, 107, 108, 109, 110, 111, 112, 113, 114, 115, 116, 117, 118, 119, 120, 121, 122, 123, 124, 125, 126, 127, 128, 129, 130, 131, 132, 133, 134, 135] (by decide +kernel) (by decide +kernel)
set_option maxRecDepth 20000 in
theorem gX9_added_X9_isSign : GoodIn wsX9_added (wsV RX9 201 RX9 yX9_isSign wsX9_isSign) := goodIn_app (goodIn_of _ (by decide +kernel)) ggX9_added_X9_isSign
set_option maxRecDepth 20000 in
theorem ggX9_added_X9_next1 : GoodIn wsX9_added wsX9_next1 := goodIn_r _ [16, 17, 18, 12, 19, 20, 21, 1, 22, 23, 24, 25, 26, 27, 28, 29, 30, 6, 31, 32, 33, 34, 35, 36, 91, 92, 93, 94, 95, 96, 97, 98, 99, 100, 101, 102, 103, 104, 105, 106, 107, 108, 109, 110, 111, 112, 113, 114, 115, 116, 117, 118, 119, 120, 121, 122, 123, 124, 125, 126, 127, 128, 129, 130, 131, 132, 133, 134, 135] (by decide +kernel) (by decide +kernel)
set_option maxRecDepth 20000 in
theorem gX9_added_X9_next1 : GoodIn wsX9_added (wsV RX9 176 RX9 yX9_next1 wsX9_next1) := goodIn_app (goodIn_of _ (by decide +kernel)) ggX9_added_X9_next1
theorem dX9_added_0 : decode cX9_added 0 = .ok (.aload_n 0, 1) := by decide +kernel
theorem dX9_added_1 : decode cX9_added 1 = .ok (.invokevirtual 218, 3) := by decide +kernel
theorem dX9_added_4 : decode cX9_added 4 = .ok (.istore_n 1, 1) := by decide +kernel
theorem dX9_added_5 : decode cX9_added 5 = .ok (.aload_n 0, 1) := by decide +kernel
theorem dX9_added_6 : decode cX9_added 6 = .ok (.bipush 43, 2) := by decide +kernel
theorem dX9_added_8 : decode cX9_added 8 = .ok (.invokevirtual 201, 3) := by decide +kernel
theorem dX9_added_11 : decode cX9_added 11 = .ok (.ifCond .ne 12, 3) := by decide +kernel
theorem dX9_added_14 : decode cX9_added 14 = .ok (.aload_n 0, 1) := by decide +kernel
theorem dX9_added_15 : decode cX9_added 15 = .ok (.bipush 45, 2) := by decide +kernel
theorem dX9_added_17 : decode cX9_added 17 = .ok (.invokevirtual 201, 3) := by decide +kernel
theorem dX9_added_20 : decode cX9_added 20 = .ok (.ifCond .eq 46, 3) := by decide +kernel
theorem dX9_added_23 : decode cX9_added 23 = .ok (.aload_n 0, 1) := by decide +kernel
theorem dX9_added_24 : decode cX9_added 24 = .ok (.getfield 149, 3) := by decide +kernel
theorem dX9_added_27 : decode cX9_added 27 = .ok (.ldc2_w 221, 3) := by decide +kernel
theorem dX9_added_30 : decode cX9_added 30 = .ok (.lcmp, 1) := by decide +kernel
theorem dX9_added_31 : decode cX9_added 31 = .ok (.ifCond .ne 7, 3) := by decide +kernel
theorem dX9_added_34 : decode cX9_added 34 = .ok (.iconst 1, 1) := by decide +kernel
theorem dX9_added_35 : decode cX9_added 35 = .ok (.goto 4, 3) := by decide +kernel
theorem dX9_added_38 : decode cX9_added 38 = .ok (.iconst 0, 1) := by decide +kernel
theorem dX9_added_39 : decode cX9_added 39 = .ok (.istore_n 2, 1) := by decide +kernel
theorem dX9_added_40 : decode cX9_added 40 = .ok (.aload_n 0, 1) := by decide +kernel
theorem dX9_added_41 : decode cX9_added 41 = .ok (.invokevirtual 176, 3) := by decide +kernel
theorem dX9_added_44 : decode cX9_added 44 = .ok (.aload_n 0, 1) := by decide +kernel
theorem dX9_added_45 : decode cX9_added 45 = .ok (.invokevirtual 218, 3) := by decide +kernel
theorem dX9_added_48 : decode cX9_added 48 = .ok (.istore_n 3, 1) := by decide +kernel
theorem dX9_added_49 : decode cX9_added 49 = .ok (.iload_n 2, 1) := by decide +kernel
theorem dX9_added_50 : decode cX9_added 50 = .ok (.ifCond .eq 9, 3) := by decide +kernel
theorem dX9_added_53 : decode cX9_added 53 = .ok (.iload_n 1, 1) := by decide +kernel
theorem dX9_added_54 : decode cX9_added 54 = .ok (.iload_n 3, 1) := by decide +kernel
theorem dX9_added_55 : decode cX9_added 55 = .ok (.iadd, 1) := by decide +kernel
theorem dX9_added_56 : decode cX9_added 56 = .ok (.goto 6, 3) := by decide +kernel
theorem dX9_added_59 : decode cX9_added 59 = .ok (.iload_n 1, 1) := by decide +kernel
theorem dX9_added_60 : decode cX9_added 60 = .ok (.iload_n 3, 1) := by decide +kernel
theorem dX9_added_61 : decode cX9_added 61 = .ok (.isub, 1) := by decide +kernel
theorem dX9_added_62 : decode cX9_added 62 = .ok (.istore_n 1, 1) := by decide +kernel
theorem dX9_added_63 : decode cX9_added 63 = .ok (.goto (-58), 3) := by decide +kernel
theorem dX9_added_66 : decode cX9_added 66 = .ok (.iload_n 1, 1) := by decide +kernel
theorem dX9_added_67 : decode cX9_added 67 = .ok (.ireturn, 1) := by decide +kernel
set_option maxRecDepth 20000 in
theorem ggX9_not_X9_isWord : GoodIn wsX9_not wsX9_isWord := goodIn_r _ [9, 10, 11, 3, 91, 92, 93, 94, 95, 96, 97, 98, 99, 100, 101, 102, 103, 104, 105, 106, 107, 108, 109, 110, 111, 112, 113, 114, 115, 116, 117, 118, 119, 120, 121, 122, 123, 124, 125, 126, 127, 128, 129, 130, 131, 132, 133, 134, 135] (by decide +kernel) (by decide +kernel)
set_option maxRecDepth 20000 in
theorem gX9_not_X9_isWord : GoodIn wsX9_not (wsV RX9 181 RX9 yX9_isWord wsX9_isWord) := goodIn_app (goodIn_of _ (by decide +kernel)) ggX9_not_X9_isWord
set_option maxRecDepth 20000 in
theorem ggX9_not_X9_opens : GoodIn wsX9_not wsX9_opens := goodIn_r _ [15, 2, 16, 17, 18, 8, 19, 10, 20, 21, 22, 23, 24, 25, 26, 11, 27, 28, 29, 3, 30, 31, 32, 33, 34, 35, 36, 37, 38, 39, 40, 41, 42, 43, 44, 91, 92, 93, 94, 95, 96, 97, 98, 99, 100, 101, 102, 103, 104, 105, 106, 107, 108, 109, 110, 111, 112, 113, 114, 115, 116, 117, 118, 119, 120, 121, 122, 123, 124, 125, 126, 127, 128, 129, 130, 131, 132, 133, 134, 135] (by decide +kernel) (by decide +kernel)
set_option maxRecDepth 20000 in
theorem gX9_not_X9_opens : GoodIn wsX9_not (wsV RX9 204 RX9 yX9_opens wsX9_opens) := goodIn_app (goodIn_of _ (by decide +kernel)) ggX9_not_X9_opens
set_option maxRecDepth 20000 in
theorem ggX9_not_X9_not : GoodIn wsX9_not wsX9_not := goodIn_r _ [0, 1, 2, 3, 4, 5, 6, 7, 8, 9, 10, 11, 12, 13, 14, 15, 16, 17, 18, 19, 20, 21, 22, 23, 24, 25, 26, 27, 28, 29, 30, 31, 32, 33, 34, 35, 36, 37, 38, 39, 40, 41, 42, 43, 44, 45, 46, 47, 48, 49, 50, 51, 52, 53, 54, 55, 56, 57, 58, 59, 60, 61, 62, 63, 64, 65, 66, 67, 68, 69, 70, 71, 72, 73, 74, 75, 76, 77, 78, 79, 80, 81, 82, 83, 84, 85, 86, 87, 88, 89, 90, 91, 92, 93, 94, 95, 96, 97, 98, 99, 100, 101, 102, 103, 104, 105, 106, 107, 108, 109, 110, 111, 112, 113, 114, 115, 116, 117, 118, 119, 120, 121, 122, 123, 124, 125, 126, 127, 128, 129, 130, 131, 132, 133, 134, 135] (by decide +kernel) (by decide +kernel)
set_option maxRecDepth 20000 in
theorem gX9_not_X9_not : GoodIn wsX9_not (wsV RX9 225 RX9 yX9_not wsX9_not) := goodIn_app (goodIn_of _ (by decide +kernel)) ggX9_not_X9_not
set_option maxRecDepth 20000 in
theorem ggX9_not_X9_added : GoodIn wsX9_not wsX9_added := goodIn_r _ [55, 3, 56, 57, 58, 59, 8, 51, 52, 53, 54, 10, 11, 22, 23, 24, 25, 26, 20, 27, 28, 29, 30, 31, 32, 33, 34, 35, 36, 37, 38, 39, 40, 41, 42, 43, 44, 60, 61, 45, 46, 47, 5, 6, 7, 9, 62, 63, 64, 65, 66, 0, 1, 2, 4, 12, 13, 14, 15, 16, 17, 18, 19, 21, 48, 49, 50, 67, 68, 69, 70, 71, 72, 73, 74, 75, 76, 77, 78, 79, 80, 81, 82, 83, 84, 85, 86, 87, 88, 89, 90, 91, 92, 93, 94, 95, 96, 97, 98, 99, 100, 101, 102, 103, 104, 105, 106, 107, 108, 109, 110, 111, 112, 113, 114, 115, 116, 117, 118, 119, 120, 121, 122, 123, 124, 125, 126, 127, 128, 129, 130, 131, 132, 133, 134, 135] (by decide +kernel) (by decide +kernel)
set_option maxRecDepth 20000 in
theorem gX9_not_X9_added : GoodIn wsX9_not (wsV RX9 228 RX9 yX9_added wsX9_added) := goodIn_app (goodIn_of _ (by decide +kernel)) ggX9_not_X9_added
set_option maxRecDepth 20000 in
theorem ggX9_not_X9_isSign : GoodIn wsX9_not wsX9_isSign := goodIn_r _ [54, 10, 11, 3, 91, 92, 93, 94, 95, 96, 97, 98, 99, 100, 101, 102, 103, 104, 105, 106, 107, 108, 109, 110, 111, 112, 113, 114, 115, 116, 117, 118, 119, 120, 121, 122, 123, 124, 125, 126, 127, 128, 129, 130, 131, 132, 133, 134, 135] (by decide +kernel) (by decide +kernel)
set_option maxRecDepth 20000 in
theorem gX9_not_X9_isSign : GoodIn wsX9_not (wsV RX9 201 RX9 yX9_isSign wsX9_isSign) := goodIn_app (goodIn_of _ (by decide +kernel)) ggX9_not_X9_isSign
set_option maxRecDepth 20000 in
theorem ggX9_not_X9_next1 : GoodIn wsX9_not wsX9_next1 := goodIn_r _ [25, 26, 20, 11, 27, 28, 29, 3, 30, 31, 32, 33, 34, 35, 36, 37, 38, 8, 39, 40, 41, 42, 43, 44, 91, 92, 93, 94, 95, 96, 97, 98, 99, 100, 101, 102, 103, 104, 105, 106, 107, 108, 109, 110, 111, 112, 113, 114, 115, 116, 117, 118, 119, 120, 121, 122, 123, 124, 125, 126, 127, 128, 129, 130, 131, 132, 133, 134, 135] (by decide +kernel) (by decide +kernel)
set_option maxRecDepth 20000 in
theorem gX9_not_X9_next1 : GoodIn wsX9_not (wsV RX9 176 RX9 yX9_next1 wsX9_next1) := goodIn_app (goodIn_of _ (by decide +kernel)) ggX9_not_X9_next1
theorem dX9_not_0 : decode cX9_not 0 = .ok (.aload_n 0, 1) := by decide +kernel
theorem dX9_not_1 : decode cX9_not 1 = .ok (.ldc2_w 223, 3) := by decide +kernel
theorem dX9_not_4 : decode cX9_not 4 = .ok (.invokevirtual 181, 3) := by decide +kernel
theorem dX9_not_7 : decode cX9_not 7 = .ok (.ifCond .eq 37, 3) := by decide +kernel
theorem dX9_not_10 : decode cX9_not 10 = .ok (.aload_n 0, 1) := by decide +kernel
theorem dX9_not_11 : decode cX9_not 11 = .ok (.invokevirtual 204, 3) := by decide +kernel
theorem dX9_not_14 : decode cX9_not 14 = .ok (.ifCond .ne 5, 3) := by decide +kernel
theorem dX9_not_17 : decode cX9_not 17 = .ok (.iconst 0, 1) := by decide +kernel
theorem dX9_not_18 : decode cX9_not 18 = .ok (.ireturn, 1) := by decide +kernel
theorem dX9_not_19 : decode cX9_not 19 = .ok (.aload_n 0, 1) := by decide +kernel
theorem dX9_not_20 : decode cX9_not 20 = .ok (.invokevirtual 225, 3) := by decide +kernel
theorem dX9_not_23 : decode cX9_not 23 = .ok (.istore_n 1, 1) := by decide +kernel
theorem dX9_not_24 : decode cX9_not 24 = .ok (.aload_n 0, 1) := by decide +kernel
theorem dX9_not_25 : decode cX9_not 25 = .ok (.dup, 1) := by decide +kernel
theorem dX9_not_26 : decode cX9_not 26 = .ok (.getfield 170, 3) := by decide +kernel
theorem dX9_not_29 : decode cX9_not 29 = .ok (.iconst 1, 1) := by decide +kernel
theorem dX9_not_30 : decode cX9_not 30 = .ok (.isub, 1) := by decide +kernel
theorem dX9_not_31 : decode cX9_not 31 = .ok (.putfield 170, 3) := by decide +kernel
theorem dX9_not_34 : decode cX9_not 34 = .ok (.iload_n 1, 1) := by decide +kernel
theorem dX9_not_35 : decode cX9_not 35 = .ok (.ifCond .ne 7, 3) := by decide +kernel
theorem dX9_not_38 : decode cX9_not 38 = .ok (.iconst 1, 1) := by decide +kernel
theorem dX9_not_39 : decode cX9_not 39 = .ok (.goto 4, 3) := by decide +kernel
theorem dX9_not_42 : decode cX9_not 42 = .ok (.iconst 0, 1) := by decide +kernel
theorem dX9_not_43 : decode cX9_not 43 = .ok (.ireturn, 1) := by decide +kernel
theorem dX9_not_44 : decode cX9_not 44 = .ok (.aload_n 0, 1) := by decide +kernel
theorem dX9_not_45 : decode cX9_not 45 = .ok (.invokevirtual 228, 3) := by decide +kernel
theorem dX9_not_48 : decode cX9_not 48 = .ok (.istore_n 1, 1) := by decide +kernel
theorem dX9_not_49 : decode cX9_not 49 = .ok (.aload_n 0, 1) := by decide +kernel
theorem dX9_not_50 : decode cX9_not 50 = .ok (.bipush 60, 2) := by decide +kernel
theorem dX9_not_52 : decode cX9_not 52 = .ok (.invokevirtual 201, 3) := by decide +kernel
theorem dX9_not_55 : decode cX9_not 55 = .ok (.ifCond .ne 14, 3) := by decide +kernel
theorem dX9_not_58 : decode cX9_not 58 = .ok (.aload_n 0, 1) := by decide +kernel
theorem dX9_not_59 : decode cX9_not 59 = .ok (.bipush 61, 2) := by decide +kernel
theorem dX9_not_61 : decode cX9_not 61 = .ok (.invokevirtual 201, 3) := by decide +kernel
theorem dX9_not_64 : decode cX9_not 64 = .ok (.ifCond .ne 5, 3) := by decide +kernel
theorem dX9_not_67 : decode cX9_not 67 = .ok (.iload_n 1, 1) := by decide +kernel
theorem dX9_not_68 : decode cX9_not 68 = .ok (.ireturn, 1) := by decide +kernel
theorem dX9_not_69 : decode cX9_not 69 = .ok (.aload_n 0, 1) := by decide +kernel
theorem dX9_not_70 : decode cX9_not 70 = .ok (.getfield 149, 3) := by decide +kernel
theorem dX9_not_73 : decode cX9_not 73 = .ok (.ldc2_w 231, 3) := by decide +kernel
theorem dX9_not_76 : decode cX9_not 76 = .ok (.lcmp, 1) := by decide +kernel
theorem dX9_not_77 : decode cX9_not 77 = .ok (.ifCond .ne 7, 3) := by decide +kernel
theorem dX9_not_80 : decode cX9_not 80 = .ok (.iconst 1, 1) := by decide +kernel
theorem dX9_not_81 : decode cX9_not 81 = .ok (.goto 4, 3) := by decide +kernel
theorem dX9_not_84 : decode cX9_not 84 = .ok (.iconst 0, 1) := by decide +kernel
theorem dX9_not_85 : decode cX9_not 85 = .ok (.istore_n 2, 1) := by decide +kernel
theorem dX9_not_86 : decode cX9_not 86 = .ok (.aload_n 0, 1) := by decide +kernel
theorem dX9_not_87 : decode cX9_not 87 = .ok (.invokevirtual 176, 3) := by decide +kernel
theorem dX9_not_90 : decode cX9_not 90 = .ok (.aload_n 0, 1) := by decide +kernel
theorem dX9_not_91 : decode cX9_not 91 = .ok (.invokevirtual 228, 3) := by decide +kernel
theorem dX9_not_94 : decode cX9_not 94 = .ok (.istore_n 3, 1) := by decide +kernel
theorem dX9_not_95 : decode cX9_not 95 = .ok (.iload_n 2, 1) := by decide +kernel
theorem dX9_not_96 : decode cX9_not 96 = .ok (.ifCond .eq 11, 3) := by decide +kernel
theorem dX9_not_99 : decode cX9_not 99 = .ok (.iload_n 1, 1) := by decide +kernel
theorem dX9_not_100 : decode cX9_not 100 = .ok (.iload_n 3, 1) := by decide +kernel
theorem dX9_not_101 : decode cX9_not 101 = .ok (.if_icmp .ge 15, 3) := by decide +kernel
theorem dX9_not_104 : decode cX9_not 104 = .ok (.goto 8, 3) := by decide +kernel
theorem dX9_not_107 : decode cX9_not 107 = .ok (.iload_n 1, 1) := by decide +kernel
theorem dX9_not_108 : decode cX9_not 108 = .ok (.iload_n 3, 1) := by decide +kernel
theorem dX9_not_109 : decode cX9_not 109 = .ok (.if_icmp .ne 7, 3) := by decide +kernel
theorem dX9_not_112 : decode cX9_not 112 = .ok (.iconst 1, 1) := by decide +kernel
theorem dX9_not_113 : decode cX9_not 113 = .ok (.goto 4, 3) := by decide +kernel
theorem dX9_not_116 : decode cX9_not 116 = .ok (.iconst 0, 1) := by decide +kernel
theorem dX9_not_117 : decode cX9_not 117 = .ok (.ireturn, 1) := by decide +kernel
set_option maxRecDepth 20000 in
theorem ggX9_both_X9_not : GoodIn wsX9_both wsX9_not := goodIn_r _ [51, 52, 53, 12, 54, 6, 7, 8, 5, 9, 10, 11, 55, 56, 57, 58, 59, 60, 61, 62, 18, 63, 13, 14, 15, 16, 17, 19, 20, 21, 22, 23, 24, 25, 26, 27, 28, 29, 30, 31, 32, 33, 34, 35, 36, 2, 3, 4, 64, 65, 66, 42, 43, 44, 45, 37, 38, 39, 40, 41, 0, 1, 46, 47, 48, 49, 50, 67, 68, 69, 70, 71, 72, 73, 74, 75, 76, 77, 78, 79, 80, 81, 82, 83, 84, 85, 86, 87, 88, 89, 90, 91, 92, 93, 94, 95, 96, 97, 98, 99, 100, 101, 102, 103, 104, 105, 106, 107, 108, 109, 110, 111, 112, 113, 114, 115, 116, 117, 118, 119, 120, 121, 122, 123, 124, 125, 126, 127, 128, 129, 130, 131, 132, 133, 134, 135] (by decide +kernel) (by decide +kernel)
set_option maxRecDepth 20000 in
theorem gX9_both_X9_not : GoodIn wsX9_both (wsV RX9 225 RX9 yX9_not wsX9_not) := goodIn_app (goodIn_of _ (by decide +kernel)) ggX9_both_X9_not
set_option maxRecDepth 20000 in
theorem ggX9_both_X9_isWord : GoodIn wsX9_both wsX9_isWord := goodIn_r _ [9, 10, 11, 12, 91, 92, 93, 94, 95, 96, 97, 98, 99, 100, 101, 102, 103, 104, 105, 106, 107, 108, 109, 110, 111, 112, 113, 114, 115, 116, 117, 118, 119, 120, 121, 122, 123, 124, 125, 126, 127, 128, 129, 130, 131, 132, 133, 134, 135] (by decide +kernel) (by decide +kernel)
set_option maxRecDepth 20000 in
theorem gX9_both_X9_isWord : GoodIn wsX9_both (wsV RX9 181 RX9 yX9_isWord wsX9_isWord) := goodIn_app (goodIn_of _ (by decide +kernel)) ggX9_both_X9_isWord
set_option maxRecDepth 20000 in
theorem ggX9_both_X9_next1 : GoodIn wsX9_both wsX9_next1 := goodIn_r _ [16, 17, 18, 11, 19, 20, 21, 12, 22, 23, 24, 25, 26, 27, 28, 29, 30, 5, 31, 32, 33, 34, 35, 36, 91, 92, 93, 94, 95, 96, 97, 98, 99, 100, 101, 102, 103, 104, 105, 106, 107, 108, 109, 110, 111, 112, 113, 114, 115, 116, 117, 118, 119, 120, 121, 122, 123, 124, 125, 126, 127, 128, 129, 130, 131, 132, 133, 134, 135] (by decide +kernel) (by decide +kernel)
set_option maxRecDepth 20000 in
theorem gX9_both_X9_next1 : GoodIn wsX9_both (wsV RX9 176 RX9 yX9_next1 wsX9_next1) := goodIn_app (goodIn_of _ (by decide +kernel)) ggX9_both_X9_next1
theorem dX9_both_0 : decode cX9_both 0 = .ok (.aload_n 0, 1) := by decide +kernel
theorem dX9_both_1 : decode cX9_both 1 = .ok (.invokevirtual 225, 3) := by decide +kernel
theorem dX9_both_4 : decode cX9_both 4 = .ok (.istore_n 1, 1) := by decide +kernel
theorem dX9_both_5 : decode cX9_both 5 = .ok (.aload_n 0, 1) := by decide +kernel
theorem dX9_both_6 : decode cX9_both 6 = .ok (.ldc2_w 233, 3) := by decide +kernel
theorem dX9_both_9 : decode cX9_both 9 = .ok (.invokevirtual 181, 3) := by decide +kernel
theorem dX9_both_12 : decode cX9_both 12 = .ok (.ifCond .eq 29, 3) := by decide +kernel
theorem dX9_both_15 : decode cX9_both 15 = .ok (.aload_n 0, 1) := by decide +kernel
theorem dX9_both_16 : decode cX9_both 16 = .ok (.invokevirtual 176, 3) := by decide +kernel
theorem dX9_both_19 : decode cX9_both 19 = .ok (.aload_n 0, 1) := by decide +kernel
theorem dX9_both_20 : decode cX9_both 20 = .ok (.invokevirtual 225, 3) := by decide +kernel
theorem dX9_both_23 : decode cX9_both 23 = .ok (.istore_n 2, 1) := by decide +kernel
theorem dX9_both_24 : decode cX9_both 24 = .ok (.iload_n 1, 1) := by decide +kernel
theorem dX9_both_25 : decode cX9_both 25 = .ok (.ifCond .eq 11, 3) := by decide +kernel
theorem dX9_both_28 : decode cX9_both 28 = .ok (.iload_n 2, 1) := by decide +kernel
theorem dX9_both_29 : decode cX9_both 29 = .ok (.ifCond .eq 7, 3) := by decide +kernel
theorem dX9_both_32 : decode cX9_both 32 = .ok (.iconst 1, 1) := by decide +kernel
theorem dX9_both_33 : decode cX9_both 33 = .ok (.goto 4, 3) := by decide +kernel
theorem dX9_both_36 : decode cX9_both 36 = .ok (.iconst 0, 1) := by decide +kernel
theorem dX9_both_37 : decode cX9_both 37 = .ok (.istore_n 1, 1) := by decide +kernel
theorem dX9_both_38 : decode cX9_both 38 = .ok (.goto (-33), 3) := by decide +kernel
theorem dX9_both_41 : decode cX9_both 41 = .ok (.iload_n 1, 1) := by decide +kernel
theorem dX9_both_42 : decode cX9_both 42 = .ok (.ireturn, 1) := by decide +kernel
set_option maxRecDepth 20000 in
theorem ggX9_either_X9_both : GoodIn wsX9_either wsX9_both := goodIn_r _ [46, 47, 48, 49, 50, 5, 6, 7, 8, 9, 10, 11, 12, 13, 14, 15, 16, 17, 18, 19, 20, 21, 22, 23, 24, 25, 26, 27, 28, 29, 30, 31, 32, 33, 34, 35, 36, 37, 38, 39, 40, 41, 42, 43, 44, 45, 0, 1, 2, 3, 4, 51, 52, 53, 54, 55, 56, 57, 58, 59, 60, 61, 62, 63, 64, 65, 66, 67, 68, 69, 70, 71, 72, 73, 74, 75, 76, 77, 78, 79, 80, 81, 82, 83, 84, 85, 86, 87, 88, 89, 90, 91, 92, 93, 94, 95, 96, 97, 98, 99, 100, 101, 102, 103, 104, 105, 106, 107, 108, 109, 110, 111, 112, 113, 114, 115, 116, 117, 118, 119, 120, 121, 122, 123, 124, 125, 126, 127, 128, 129, 130, 131, 132, 133, 134, 135] (by decide +kernel) (by decide +kernel)
set_option maxRecDepth 20000 in
theorem gX9_either_X9_both : GoodIn wsX9_either (wsV RX9 235 RX9 yX9_both wsX9_both) := goodIn_app (goodIn_of _ (by decide +kernel)) ggX9_either_X9_both
set_option maxRecDepth 20000 in
theorem ggX9_either_X9_isWord : GoodIn wsX9_either wsX9_isWord := goodIn_r _ [9, 10, 11, 12, 91, 92, 93, 94, 95, 96, 97, 98, 99, 100, 101, 102, 103, 104, 105, 106, 107, 108, 109, 110, 111, 112, 113, 114, 115, 116, 117, 118, 119, 120, 121, 122, 123, 124, 125, 126, 127, 128, 129, 130, 131, 132, 133, 134, 135] (by decide +kernel) (by decide +kernel)
set_option maxRecDepth 20000 in
theorem gX9_either_X9_isWord : GoodIn wsX9_either (wsV RX9 181 RX9 yX9_isWord wsX9_isWord) := goodIn_app (goodIn_of _ (by decide +kernel)) ggX9_either_X9_isWord
set_option maxRecDepth 20000 in
theorem ggX9_either_X9_next1 : GoodIn wsX9_either wsX9_next1 := goodIn_r _ [16, 17, 18, 11, 19, 20, 21, 12, 22, 23, 24, 25, 26, 27, 28, 29, 30, 5, 31, 32, 33, 34, 35, 36, 91, 92, 93, 94, 95, 96, 97, 98, 99, 100, 101, 102, 103, 104, 105, 106, 107, 108, 109, 110, 111, 112, 113, 114, 115, 116, 117, 118, 119, 120, 121, 122, 123, 124, 125, 126, 127, 128, 129, 130, 131, 132, 133, 134, 135] (by decide +kernel) (by decide +kernel)
set_option maxRecDepth 20000 in
theorem gX9_either_X9_next1 : GoodIn wsX9_either (wsV RX9 176 RX9 yX9_next1 wsX9_next1) := goodIn_app (goodIn_of _ (by decide +kernel)) ggX9_either_X9_next1
theorem dX9_either_0 : decode cX9_either 0 = .ok (.aload_n 0, 1) := by decide +kernel
theorem dX9_either_1 : decode cX9_either 1 = .ok (.invokevirtual 235, 3) := by decide +kernel
theorem dX9_either_4 : decode cX9_either 4 = .ok (.istore_n 1, 1) := by decide +kernel
theorem dX9_either_5 : decode cX9_either 5 = .ok (.aload_n 0, 1) := by decide +kernel
theorem dX9_either_6 : decode cX9_either 6 = .ok (.ldc2_w 238, 3) := by decide +kernel
theorem dX9_either_9 : decode cX9_either 9 = .ok (.invokevirtual 181, 3) := by decide +kernel
theorem dX9_either_12 : decode cX9_either 12 = .ok (.ifCond .eq 29, 3) := by decide +kernel
theorem dX9_either_15 : decode cX9_either 15 = .ok (.aload_n 0, 1) := by decide +kernel
theorem dX9_either_16 : decode cX9_either 16 = .ok (.invokevirtual 176, 3) := by decide +kernel
theorem dX9_either_19 : decode cX9_either 19 = .ok (.aload_n 0, 1) := by decide +kernel
theorem dX9_either_20 : decode cX9_either 20 = .ok (.invokevirtual 235, 3) := by decide +kernel
theorem dX9_either_23 : decode cX9_either 23 = .ok (.istore_n 2, 1) := by decide +kernel
theorem dX9_either_24 : decode cX9_either 24 = .ok (.iload_n 1, 1) := by decide +kernel
theorem dX9_either_25 : decode cX9_either 25 = .ok (.ifCond .ne 7, 3) := by decide +kernel
theorem dX9_either_28 : decode cX9_either 28 = .ok (.iload_n 2, 1) := by decide +kernel
theorem dX9_either_29 : decode cX9_either 29 = .ok (.ifCond .eq 7, 3) := by decide +kernel
theorem dX9_either_32 : decode cX9_either 32 = .ok (.iconst 1, 1) := by decide +kernel
theorem dX9_either_33 : decode cX9_either 33 = .ok (.goto 4, 3) := by decide +kernel
theorem dX9_either_36 : decode cX9_either 36 = .ok (.iconst 0, 1) := by decide +kernel
theorem dX9_either_37 : decode cX9_either 37 = .ok (.istore_n 1, 1) := by decide +kernel
theorem dX9_either_38 : decode cX9_either 38 = .ok (.goto (-33), 3) := by decide +kernel
theorem dX9_either_41 : decode cX9_either 41 = .ok (.iload_n 1, 1) := by decide +kernel
theorem dX9_either_42 : decode cX9_either 42 = .ok (.ireturn, 1) := by decide +kernel
set_option maxRecDepth 20000 in
theorem ggX9_part_X9_isWord : GoodIn wsX9_part wsX9_isWord := goodIn_r _ [6, 1, 7, 8, 92, 93, 94, 95, 96, 97, 98, 99, 100, 101, 102, 103, 104, 105, 106, 107, 108, 109, 110, 111, 112, 113, 114, 115, 116, 117, 118, 119, 120, 121, 122, 123, 124, 125, 126, 127, 128, 129, 130, 131, 132, 133, 134, 135, 136] (by decide +kernel) (by decide +kernel)
set_option maxRecDepth 20000 in
theorem gX9_part_X9_isWord : GoodIn wsX9_part (wsV RX9 181 RX9 yX9_isWord wsX9_isWord) := goodIn_app (goodIn_of _ (by decide +kernel)) ggX9_part_X9_isWord
set_option maxRecDepth 20000 in
theorem ggX9_part_X9_fail : GoodIn wsX9_part wsX9_fail := goodIn_r _ [12, 1, 13, 14, 92, 93, 94, 95, 96, 97, 98, 99, 100, 101, 102, 103, 104, 105, 106, 107, 108, 109, 110, 111, 112, 113, 114, 115, 116, 117, 118, 119, 120, 121, 122, 123, 124, 125, 126, 127, 128, 129, 130, 131, 132, 133, 134, 135, 136] (by decide +kernel) (by decide +kernel)
set_option maxRecDepth 20000 in
theorem gX9_part_X9_fail : GoodIn wsX9_part (wsV RX9 173 RX9 yX9_fail wsX9_fail) := goodIn_app (goodIn_of _ (by decide +kernel)) ggX9_part_X9_fail
set_option maxRecDepth 20000 in
theorem ggX9_part_X9_next1 : GoodIn wsX9_part wsX9_next1 := goodIn_r _ [18, 19, 13, 7, 20, 21, 22, 8, 23, 24, 25, 26, 27, 28, 29, 30, 31, 5, 32, 33, 34, 35, 36, 37, 92, 93, 94, 95, 96, 97, 98, 99, 100, 101, 102, 103, 104, 105, 106, 107, 108, 109, 110, 111, 112, 113, 114, 115, 116, 117, 118, 119, 120, 121, 122, 123, 124, 125, 126, 127, 128, 129, 130, 131, 132, 133, 134, 135, 136] (by decide +kernel) (by decide +kernel)
set_option maxRecDepth 20000 in
theorem gX9_part_X9_next1 : GoodIn wsX9_part (wsV RX9 176 RX9 yX9_next1 wsX9_next1) := goodIn_app (goodIn_of _ (by decide +kernel)) ggX9_part_X9_next1
set_option maxRecDepth 20000 in
theorem ggX9_part_X9_either : GoodIn wsX9_part wsX9_either := goodIn_r _ [41, 42, 43, 44, 45, 5, 2, 3, 4, 6, 1, 7, 8, 15, 16, 17, 18, 19, 13, 20, 21, 22, 23, 24, 25, 26, 27, 28, 29, 30, 31, 32, 33, 34, 35, 36, 37, 46, 47, 48, 49, 50, 51, 52, 53, 54, 55, 56, 57, 58, 59, 60, 61, 62, 63, 64, 65, 66, 67, 9, 10, 11, 12, 14, 68, 69, 70, 71, 72, 73, 74, 38, 39, 40, 75, 76, 77, 78, 79, 80, 81, 82, 83, 84, 85, 86, 87, 88, 89, 90, 91, 92, 93, 94, 95, 96, 97, 98, 99, 100, 101, 102, 103, 104, 105, 106, 107, 108, 109, 110, 111, 112, 113, 114, 115, 116, 117, 118, 119, 120, 121, 122, 123, 124, 125, 126, 127, 128, 129, 130, 131, 132, 133, 134, 135, 136] (by decide +kernel) (by decide +kernel)
set_option maxRecDepth 20000 in
theorem gX9_part_X9_either : GoodIn wsX9_part (wsV RX9 212 RX9 yX9_either wsX9_either) := goodIn_app (goodIn_of _ (by decide +kernel)) ggX9_part_X9_either
set_option maxRecDepth 20000 in
theorem ggX9_part_X9_isSign : GoodIn wsX9_part wsX9_isSign := goodIn_r _ [54, 1, 7, 8, 92, 93, 94, 95, 96, 97, 98, 99, 100, 101, 102, 103, 104, 105, 106, 107, 108, 109, 110, 111, 112, 113, 114, 115, 116, 117, 118, 119, 120, 121, 122, 123, 124, 125, 126, 127, 128, 129, 130, 131, 132, 133, 134, 135, 136] (by decide +kernel) (by decide +kernel)
set_option maxRecDepth 20000 in
theorem gX9_part_X9_isSign : GoodIn wsX9_part (wsV RX9 201 RX9 yX9_isSign wsX9_isSign) := goodIn_app (goodIn_of _ (by decide +kernel)) ggX9_part_X9_isSign
theorem dX9_part_0 : decode cX9_part 0 = .ok (.aload_n 0, 1) := by decide +kernel
theorem dX9_part_1 : decode cX9_part 1 = .ok (.lload_n 1, 1) := by decide +kernel
theorem dX9_part_2 : decode cX9_part 2 = .ok (.invokevirtual 181, 3) := by decide +kernel
theorem dX9_part_5 : decode cX9_part 5 = .ok (.ifCond .ne 7, 3) := by decide +kernel
theorem dX9_part_8 : decode cX9_part 8 = .ok (.aload_n 0, 1) := by decide +kernel
theorem dX9_part_9 : decode cX9_part 9 = .ok (.invokevirtual 173, 3) := by decide +kernel
theorem dX9_part_12 : decode cX9_part 12 = .ok (.aload_n 0, 1) := by decide +kernel
theorem dX9_part_13 : decode cX9_part 13 = .ok (.getfield 163, 3) := by decide +kernel
theorem dX9_part_16 : decode cX9_part 16 = .ok (.ifCond .ne 7, 3) := by decide +kernel
theorem dX9_part_19 : decode cX9_part 19 = .ok (.aload_n 0, 1) := by decide +kernel
theorem dX9_part_20 : decode cX9_part 20 = .ok (.invokevirtual 176, 3) := by decide +kernel
theorem dX9_part_23 : decode cX9_part 23 = .ok (.aload_n 0, 1) := by decide +kernel
theorem dX9_part_24 : decode cX9_part 24 = .ok (.getfield 163, 3) := by decide +kernel
theorem dX9_part_27 : decode cX9_part 27 = .ok (.ifCond .eq 7, 3) := by decide +kernel
theorem dX9_part_30 : decode cX9_part 30 = .ok (.iconst 0, 1) := by decide +kernel
theorem dX9_part_31 : decode cX9_part 31 = .ok (.goto 7, 3) := by decide +kernel
theorem dX9_part_34 : decode cX9_part 34 = .ok (.aload_n 0, 1) := by decide +kernel
theorem dX9_part_35 : decode cX9_part 35 = .ok (.invokevirtual 212, 3) := by decide +kernel
theorem dX9_part_38 : decode cX9_part 38 = .ok (.istore_n 3, 1) := by decide +kernel
theorem dX9_part_39 : decode cX9_part 39 = .ok (.aload_n 0, 1) := by decide +kernel
theorem dX9_part_40 : decode cX9_part 40 = .ok (.bipush 59, 2) := by decide +kernel
theorem dX9_part_42 : decode cX9_part 42 = .ok (.invokevirtual 201, 3) := by decide +kernel
theorem dX9_part_45 : decode cX9_part 45 = .ok (.ifCond .ne 7, 3) := by decide +kernel
theorem dX9_part_48 : decode cX9_part 48 = .ok (.aload_n 0, 1) := by decide +kernel
theorem dX9_part_49 : decode cX9_part 49 = .ok (.invokevirtual 173, 3) := by decide +kernel
theorem dX9_part_52 : decode cX9_part 52 = .ok (.aload_n 0, 1) := by decide +kernel
theorem dX9_part_53 : decode cX9_part 53 = .ok (.getfield 163, 3) := by decide +kernel
theorem dX9_part_56 : decode cX9_part 56 = .ok (.ifCond .ne 7, 3) := by decide +kernel
theorem dX9_part_59 : decode cX9_part 59 = .ok (.aload_n 0, 1) := by decide +kernel
theorem dX9_part_60 : decode cX9_part 60 = .ok (.invokevirtual 176, 3) := by decide +kernel
theorem dX9_part_63 : decode cX9_part 63 = .ok (.iload_n 3, 1) := by decide +kernel
theorem dX9_part_64 : decode cX9_part 64 = .ok (.ireturn, 1) := by decide +kernel
set_option maxRecDepth 20000 in
theorem ggX9_read_X9_next1 : GoodIn wsX9_read wsX9_next1 := goodIn_r _ [17, 6, 18, 12, 5, 19, 20, 21, 22, 23, 24, 25, 26, 27, 28, 29, 30, 16, 31, 32, 3, 33, 34, 35, 100, 101, 102, 103, 104, 105, 106, 107, 108, 109, 110, 111, 112, 113, 114, 115, 116, 117, 118, 119, 120, 121, 122, 123, 124, 125, 126, 127, 128, 129, 130, 131, 132, 133, 134, 135, 136, 137, 138, 139, 140, 141, 142, 143, 144] (by decide +kernel) (by decide +kernel)
set_option maxRecDepth 20000 in
theorem gX9_read_X9_next1 : GoodIn wsX9_read (wsV RX9 176 RX9 yX9_next1 wsX9_next1) := goodIn_app (goodIn_of _ (by decide +kernel)) ggX9_read_X9_next1
set_option maxRecDepth 20000 in
theorem ggX9_read_X9_part : GoodIn wsX9_read wsX9_part := goodIn_r _ [39, 8, 40, 41, 42, 16, 43, 12, 21, 44, 45, 46, 47, 18, 48, 13, 14, 15, 17, 6, 5, 19, 20, 22, 23, 24, 25, 26, 27, 28, 29, 30, 31, 32, 3, 33, 34, 35, 49, 50, 51, 52, 53, 54, 55, 56, 57, 58, 59, 60, 61, 62, 63, 64, 65, 66, 67, 68, 69, 70, 71, 72, 7, 73, 74, 75, 76, 77, 78, 79, 80, 81, 82, 83, 84, 85, 86, 87, 88, 89, 1, 90, 91, 92, 2, 93, 94, 95, 96, 97, 98, 99, 100, 101, 102, 103, 104, 105, 106, 107, 108, 109, 110, 111, 112, 113, 114, 115, 116, 117, 118, 119, 120, 121, 122, 123, 124, 125, 126, 127, 128, 129, 130, 131, 132, 133, 134, 135, 136, 137, 138, 139, 140, 141, 142, 143, 144] (by decide +kernel) (by decide +kernel)
set_option maxRecDepth 20000 in
theorem gX9_read_X9_part : GoodIn wsX9_read (wsV RX9 242 RX9 yX9_part wsX9_part) := goodIn_app (goodIn_of _ (by decide +kernel)) ggX9_read_X9_part
set_option maxRecDepth 20000 in
theorem ggX9_read_X9_fail : GoodIn wsX9_read wsX9_fail := goodIn_r _ [47, 8, 18, 48, 100, 101, 102, 103, 104, 105, 106, 107, 108, 109, 110, 111, 112, 113, 114, 115, 116, 117, 118, 119, 120, 121, 122, 123, 124, 125, 126, 127, 128, 129, 130, 131, 132, 133, 134, 135, 136, 137, 138, 139, 140, 141, 142, 143, 144] (by decide +kernel) (by decide +kernel)
set_option maxRecDepth 20000 in
theorem gX9_read_X9_fail : GoodIn wsX9_read (wsV RX9 173 RX9 yX9_fail wsX9_fail) := goodIn_app (goodIn_of _ (by decide +kernel)) ggX9_read_X9_fail
theorem dX9_read_0 : decode cX9_read 0 = .ok (.aload_n 0, 1) := by decide +kernel
theorem dX9_read_1 : decode cX9_read 1 = .ok (.iload_n 2, 1) := by decide +kernel
theorem dX9_read_2 : decode cX9_read 2 = .ok (.putfield 185, 3) := by decide +kernel
theorem dX9_read_5 : decode cX9_read 5 = .ok (.aload_n 0, 1) := by decide +kernel
theorem dX9_read_6 : decode cX9_read 6 = .ok (.iload_n 3, 1) := by decide +kernel
theorem dX9_read_7 : decode cX9_read 7 = .ok (.putfield 192, 3) := by decide +kernel
theorem dX9_read_10 : decode cX9_read 10 = .ok (.aload_n 0, 1) := by decide +kernel
theorem dX9_read_11 : decode cX9_read 11 = .ok (.sipush 160, 3) := by decide +kernel
theorem dX9_read_14 : decode cX9_read 14 = .ok (.iload_n 1, 1) := by decide +kernel
theorem dX9_read_15 : decode cX9_read 15 = .ok (.imul, 1) := by decide +kernel
theorem dX9_read_16 : decode cX9_read 16 = .ok (.putfield 130, 3) := by decide +kernel
theorem dX9_read_19 : decode cX9_read 19 = .ok (.aload_n 0, 1) := by decide +kernel
theorem dX9_read_20 : decode cX9_read 20 = .ok (.aload_n 0, 1) := by decide +kernel
theorem dX9_read_21 : decode cX9_read 21 = .ok (.getfield 17, 3) := by decide +kernel
theorem dX9_read_24 : decode cX9_read 24 = .ok (.iload_n 1, 1) := by decide +kernel
theorem dX9_read_25 : decode cX9_read 25 = .ok (.iaload, 1) := by decide +kernel
theorem dX9_read_26 : decode cX9_read 26 = .ok (.putfield 127, 3) := by decide +kernel
theorem dX9_read_29 : decode cX9_read 29 = .ok (.aload_n 0, 1) := by decide +kernel
theorem dX9_read_30 : decode cX9_read 30 = .ok (.iconst 0, 1) := by decide +kernel
theorem dX9_read_31 : decode cX9_read 31 = .ok (.putfield 133, 3) := by decide +kernel
theorem dX9_read_34 : decode cX9_read 34 = .ok (.aload_n 0, 1) := by decide +kernel
theorem dX9_read_35 : decode cX9_read 35 = .ok (.iconst 0, 1) := by decide +kernel
theorem dX9_read_36 : decode cX9_read 36 = .ok (.putfield 170, 3) := by decide +kernel
theorem dX9_read_39 : decode cX9_read 39 = .ok (.aload_n 0, 1) := by decide +kernel
theorem dX9_read_40 : decode cX9_read 40 = .ok (.iconst 0, 1) := by decide +kernel
theorem dX9_read_41 : decode cX9_read 41 = .ok (.putfield 163, 3) := by decide +kernel
theorem dX9_read_44 : decode cX9_read 44 = .ok (.aload_n 0, 1) := by decide +kernel
theorem dX9_read_45 : decode cX9_read 45 = .ok (.invokevirtual 176, 3) := by decide +kernel
theorem dX9_read_48 : decode cX9_read 48 = .ok (.aload_n 0, 1) := by decide +kernel
theorem dX9_read_49 : decode cX9_read 49 = .ok (.ldc2_w 240, 3) := by decide +kernel
theorem dX9_read_52 : decode cX9_read 52 = .ok (.invokevirtual 242, 3) := by decide +kernel
theorem dX9_read_55 : decode cX9_read 55 = .ok (.istore 5, 2) := by decide +kernel
theorem dX9_read_57 : decode cX9_read 57 = .ok (.aload_n 0, 1) := by decide +kernel
theorem dX9_read_58 : decode cX9_read 58 = .ok (.getfield 163, 3) := by decide +kernel
theorem dX9_read_61 : decode cX9_read 61 = .ok (.ifCond .eq 7, 3) := by decide +kernel
theorem dX9_read_64 : decode cX9_read 64 = .ok (.iconst 0, 1) := by decide +kernel
theorem dX9_read_65 : decode cX9_read 65 = .ok (.goto 10, 3) := by decide +kernel
theorem dX9_read_68 : decode cX9_read 68 = .ok (.aload_n 0, 1) := by decide +kernel
theorem dX9_read_69 : decode cX9_read 69 = .ok (.ldc2_w 246, 3) := by decide +kernel
theorem dX9_read_72 : decode cX9_read 72 = .ok (.invokevirtual 242, 3) := by decide +kernel
theorem dX9_read_75 : decode cX9_read 75 = .ok (.istore 6, 2) := by decide +kernel
theorem dX9_read_77 : decode cX9_read 77 = .ok (.aload_n 0, 1) := by decide +kernel
theorem dX9_read_78 : decode cX9_read 78 = .ok (.getfield 163, 3) := by decide +kernel
theorem dX9_read_81 : decode cX9_read 81 = .ok (.ifCond .eq 7, 3) := by decide +kernel
theorem dX9_read_84 : decode cX9_read 84 = .ok (.iconst 0, 1) := by decide +kernel
theorem dX9_read_85 : decode cX9_read 85 = .ok (.goto 10, 3) := by decide +kernel
theorem dX9_read_88 : decode cX9_read 88 = .ok (.aload_n 0, 1) := by decide +kernel
theorem dX9_read_89 : decode cX9_read 89 = .ok (.ldc2_w 248, 3) := by decide +kernel
theorem dX9_read_92 : decode cX9_read 92 = .ok (.invokevirtual 242, 3) := by decide +kernel
theorem dX9_read_95 : decode cX9_read 95 = .ok (.istore 7, 2) := by decide +kernel
theorem dX9_read_97 : decode cX9_read 97 = .ok (.aload_n 0, 1) := by decide +kernel
theorem dX9_read_98 : decode cX9_read 98 = .ok (.getfield 163, 3) := by decide +kernel
theorem dX9_read_101 : decode cX9_read 101 = .ok (.ifCond .ne 14, 3) := by decide +kernel
theorem dX9_read_104 : decode cX9_read 104 = .ok (.aload_n 0, 1) := by decide +kernel
theorem dX9_read_105 : decode cX9_read 105 = .ok (.getfield 142, 3) := by decide +kernel
theorem dX9_read_108 : decode cX9_read 108 = .ok (.ifCond .eq 7, 3) := by decide +kernel
theorem dX9_read_111 : decode cX9_read 111 = .ok (.aload_n 0, 1) := by decide +kernel
theorem dX9_read_112 : decode cX9_read 112 = .ok (.invokevirtual 173, 3) := by decide +kernel
theorem dX9_read_115 : decode cX9_read 115 = .ok (.iload 4, 2) := by decide +kernel
theorem dX9_read_117 : decode cX9_read 117 = .ok (.ifCond .ne 8, 3) := by decide +kernel
theorem dX9_read_120 : decode cX9_read 120 = .ok (.iload 5, 2) := by decide +kernel
theorem dX9_read_122 : decode cX9_read 122 = .ok (.goto 16, 3) := by decide +kernel
theorem dX9_read_125 : decode cX9_read 125 = .ok (.iload 4, 2) := by decide +kernel
theorem dX9_read_127 : decode cX9_read 127 = .ok (.iconst 1, 1) := by decide +kernel
theorem dX9_read_128 : decode cX9_read 128 = .ok (.if_icmp .ne 8, 3) := by decide +kernel
theorem dX9_read_131 : decode cX9_read 131 = .ok (.iload 6, 2) := by decide +kernel
theorem dX9_read_133 : decode cX9_read 133 = .ok (.goto 5, 3) := by decide +kernel
theorem dX9_read_136 : decode cX9_read 136 = .ok (.iload 7, 2) := by decide +kernel
theorem dX9_read_138 : decode cX9_read 138 = .ok (.ireturn, 1) := by decide +kernel
set_option maxRecDepth 20000 in
theorem ggX9_text_X9_read : GoodIn wsX9_text wsX9_read := goodIn_r _ [12, 13, 14, 15, 5, 16, 17, 18, 6, 19, 20, 21, 22, 23, 24, 25, 11, 26, 27, 28, 29, 30, 31, 32, 33, 34, 35, 36, 37, 38, 39, 40, 3, 41, 42, 43, 44, 45, 46, 47, 48, 49, 50, 51, 52, 53, 54, 55, 7, 56, 57, 58, 59, 60, 61, 62, 63, 64, 65, 66, 67, 68, 69, 70, 71, 72, 73, 74, 75, 76, 77, 78, 79, 80, 81, 82, 83, 84, 85, 86, 87, 88, 89, 90, 91, 92, 93, 94, 95, 96, 97, 98, 99, 100, 101, 102, 103, 104, 105, 106, 107, 108, 109, 110, 111, 112, 113, 114, 115, 116, 117, 118, 119, 120, 121, 122, 123, 124, 125, 126, 127, 128, 129, 130, 131, 132, 133, 134, 135, 136, 137, 138, 139, 140, 141, 142, 143, 144, 145, 146, 147, 148, 149, 150, 151] (by decide +kernel) (by decide +kernel)
set_option maxRecDepth 20000 in
theorem gX9_text_X9_read : GoodIn wsX9_text (wsV RX9 250 RX9 yX9_read wsX9_read) := goodIn_app (goodIn_of _ (by decide +kernel)) ggX9_text_X9_read
theorem dX9_text_0 : decode cX9_text 0 = .ok (.aload_n 0, 1) := by decide +kernel
theorem dX9_text_1 : decode cX9_text 1 = .ok (.getfield 71, 3) := by decide +kernel
theorem dX9_text_4 : decode cX9_text 4 = .ok (.bipush 6, 2) := by decide +kernel
theorem dX9_text_6 : decode cX9_text 6 = .ok (.if_icmp .ne 6, 3) := by decide +kernel
theorem dX9_text_9 : decode cX9_text 9 = .ok (.bipush (-4), 2) := by decide +kernel
theorem dX9_text_11 : decode cX9_text 11 = .ok (.ireturn, 1) := by decide +kernel
theorem dX9_text_12 : decode cX9_text 12 = .ok (.iconst 0, 1) := by decide +kernel
theorem dX9_text_13 : decode cX9_text 13 = .ok (.istore_n 1, 1) := by decide +kernel
theorem dX9_text_14 : decode cX9_text 14 = .ok (.iload_n 1, 1) := by decide +kernel
theorem dX9_text_15 : decode cX9_text 15 = .ok (.aload_n 0, 1) := by decide +kernel
theorem dX9_text_16 : decode cX9_text 16 = .ok (.getfield 124, 3) := by decide +kernel
theorem dX9_text_19 : decode cX9_text 19 = .ok (.if_icmp .ge 30, 3) := by decide +kernel
theorem dX9_text_22 : decode cX9_text 22 = .ok (.aload_n 0, 1) := by decide +kernel
theorem dX9_text_23 : decode cX9_text 23 = .ok (.getfield 13, 3) := by decide +kernel
theorem dX9_text_26 : decode cX9_text 26 = .ok (.sipush 160, 3) := by decide +kernel
theorem dX9_text_29 : decode cX9_text 29 = .ok (.aload_n 0, 1) := by decide +kernel
theorem dX9_text_30 : decode cX9_text 30 = .ok (.getfield 71, 3) := by decide +kernel
theorem dX9_text_33 : decode cX9_text 33 = .ok (.imul, 1) := by decide +kernel
theorem dX9_text_34 : decode cX9_text 34 = .ok (.iload_n 1, 1) := by decide +kernel
theorem dX9_text_35 : decode cX9_text 35 = .ok (.iadd, 1) := by decide +kernel
theorem dX9_text_36 : decode cX9_text 36 = .ok (.aload_n 0, 1) := by decide +kernel
theorem dX9_text_37 : decode cX9_text 37 = .ok (.getfield 20, 3) := by decide +kernel
theorem dX9_text_40 : decode cX9_text 40 = .ok (.iload_n 1, 1) := by decide +kernel
theorem dX9_text_41 : decode cX9_text 41 = .ok (.iaload, 1) := by decide +kernel
theorem dX9_text_42 : decode cX9_text 42 = .ok (.iastore, 1) := by decide +kernel
theorem dX9_text_43 : decode cX9_text 43 = .ok (.iinc 1 1, 3) := by decide +kernel
theorem dX9_text_46 : decode cX9_text 46 = .ok (.goto (-32), 3) := by decide +kernel
theorem dX9_text_49 : decode cX9_text 49 = .ok (.aload_n 0, 1) := by decide +kernel
theorem dX9_text_50 : decode cX9_text 50 = .ok (.getfield 17, 3) := by decide +kernel
theorem dX9_text_53 : decode cX9_text 53 = .ok (.aload_n 0, 1) := by decide +kernel
theorem dX9_text_54 : decode cX9_text 54 = .ok (.getfield 71, 3) := by decide +kernel
theorem dX9_text_57 : decode cX9_text 57 = .ok (.aload_n 0, 1) := by decide +kernel
theorem dX9_text_58 : decode cX9_text 58 = .ok (.getfield 124, 3) := by decide +kernel
theorem dX9_text_61 : decode cX9_text 61 = .ok (.iastore, 1) := by decide +kernel
theorem dX9_text_62 : decode cX9_text 62 = .ok (.aload_n 0, 1) := by decide +kernel
theorem dX9_text_63 : decode cX9_text 63 = .ok (.iconst 0, 1) := by decide +kernel
theorem dX9_text_64 : decode cX9_text 64 = .ok (.putfield 124, 3) := by decide +kernel
theorem dX9_text_67 : decode cX9_text 67 = .ok (.aload_n 0, 1) := by decide +kernel
theorem dX9_text_68 : decode cX9_text 68 = .ok (.aload_n 0, 1) := by decide +kernel
theorem dX9_text_69 : decode cX9_text 69 = .ok (.getfield 71, 3) := by decide +kernel
theorem dX9_text_72 : decode cX9_text 72 = .ok (.iconst 0, 1) := by decide +kernel
theorem dX9_text_73 : decode cX9_text 73 = .ok (.iconst 0, 1) := by decide +kernel
theorem dX9_text_74 : decode cX9_text 74 = .ok (.iconst 0, 1) := by decide +kernel
theorem dX9_text_75 : decode cX9_text 75 = .ok (.invokevirtual 250, 3) := by decide +kernel
theorem dX9_text_78 : decode cX9_text 78 = .ok (.istore_n 1, 1) := by decide +kernel
theorem dX9_text_79 : decode cX9_text 79 = .ok (.aload_n 0, 1) := by decide +kernel
theorem dX9_text_80 : decode cX9_text 80 = .ok (.getfield 163, 3) := by decide +kernel
theorem dX9_text_83 : decode cX9_text 83 = .ok (.ifCond .eq 11, 3) := by decide +kernel
theorem dX9_text_86 : decode cX9_text 86 = .ok (.bipush (-100), 2) := by decide +kernel
theorem dX9_text_88 : decode cX9_text 88 = .ok (.aload_n 0, 1) := by decide +kernel
theorem dX9_text_89 : decode cX9_text 89 = .ok (.getfield 167, 3) := by decide +kernel
theorem dX9_text_92 : decode cX9_text 92 = .ok (.isub, 1) := by decide +kernel
theorem dX9_text_93 : decode cX9_text 93 = .ok (.ireturn, 1) := by decide +kernel
theorem dX9_text_94 : decode cX9_text 94 = .ok (.aload_n 0, 1) := by decide +kernel
theorem dX9_text_95 : decode cX9_text 95 = .ok (.dup, 1) := by decide +kernel
theorem dX9_text_96 : decode cX9_text 96 = .ok (.getfield 71, 3) := by decide +kernel
theorem dX9_text_99 : decode cX9_text 99 = .ok (.iconst 1, 1) := by decide +kernel
theorem dX9_text_100 : decode cX9_text 100 = .ok (.iadd, 1) := by decide +kernel
theorem dX9_text_101 : decode cX9_text 101 = .ok (.putfield 71, 3) := by decide +kernel
theorem dX9_text_104 : decode cX9_text 104 = .ok (.aload_n 0, 1) := by decide +kernel
theorem dX9_text_105 : decode cX9_text 105 = .ok (.getfield 71, 3) := by decide +kernel
theorem dX9_text_108 : decode cX9_text 108 = .ok (.iconst 1, 1) := by decide +kernel
theorem dX9_text_109 : decode cX9_text 109 = .ok (.isub, 1) := by decide +kernel
theorem dX9_text_110 : decode cX9_text 110 = .ok (.ireturn, 1) := by decide +kernel
set_option maxRecDepth 20000 in
theorem ggX9_force_X9_in : GoodIn wsX9_force wsX9_in := goodIn_r _ [6] (by decide +kernel) (by decide +kernel)
set_option maxRecDepth 20000 in
theorem gX9_force_X9_in : GoodIn wsX9_force (va_wsS RX9 85 yX9_in wsX9_in) := goodIn_app (goodIn_of _ (by decide +kernel)) ggX9_force_X9_in
theorem dX9_force_0 : decode cX9_force 0 = .ok (.iload_n 1, 1) := by decide +kernel
theorem dX9_force_1 : decode cX9_force 1 = .ok (.i2l, 1) := by decide +kernel
theorem dX9_force_2 : decode cX9_force 2 = .ok (.lconst 0, 1) := by decide +kernel
theorem dX9_force_3 : decode cX9_force 3 = .ok (.aload_n 0, 1) := by decide +kernel
theorem dX9_force_4 : decode cX9_force 4 = .ok (.getfield 71, 3) := by decide +kernel
theorem dX9_force_7 : decode cX9_force 7 = .ok (.iconst 1, 1) := by decide +kernel
theorem dX9_force_8 : decode cX9_force 8 = .ok (.isub, 1) := by decide +kernel
theorem dX9_force_9 : decode cX9_force 9 = .ok (.i2l, 1) := by decide +kernel
theorem dX9_force_10 : decode cX9_force 10 = .ok (.invokestatic 85, 3) := by decide +kernel
theorem dX9_force_13 : decode cX9_force 13 = .ok (.ifCond .ne 6, 3) := by decide +kernel
theorem dX9_force_16 : decode cX9_force 16 = .ok (.bipush (-2), 2) := by decide +kernel
theorem dX9_force_18 : decode cX9_force 18 = .ok (.ireturn, 1) := by decide +kernel
theorem dX9_force_19 : decode cX9_force 19 = .ok (.aload_n 0, 1) := by decide +kernel
theorem dX9_force_20 : decode cX9_force 20 = .ok (.getfield 254, 3) := by decide +kernel
theorem dX9_force_23 : decode cX9_force 23 = .ok (.istore_n 2, 1) := by decide +kernel
theorem dX9_force_24 : decode cX9_force 24 = .ok (.aload_n 0, 1) := by decide +kernel
theorem dX9_force_25 : decode cX9_force 25 = .ok (.iload_n 1, 1) := by decide +kernel
theorem dX9_force_26 : decode cX9_force 26 = .ok (.putfield 254, 3) := by decide +kernel
theorem dX9_force_29 : decode cX9_force 29 = .ok (.iload_n 2, 1) := by decide +kernel
theorem dX9_force_30 : decode cX9_force 30 = .ok (.ireturn, 1) := by decide +kernel
set_option maxRecDepth 20000 in
theorem ggX9_bet_X9_lays : GoodIn wsX9_bet wsX9_lays := goodIn_r _ [6, 7, 8, 9, 10, 11, 12, 13, 14, 5, 15, 114, 115, 116, 117, 118, 119, 120, 121, 122, 123, 124, 125, 126, 127, 128, 129, 130, 131, 132, 133, 134, 135, 136, 137, 138, 139, 140, 141, 142, 143, 144, 145, 146, 147, 148, 149, 150, 151, 152, 153, 154, 155, 156, 157, 158] (by decide +kernel) (by decide +kernel)
set_option maxRecDepth 20000 in
theorem gX9_bet_X9_lays : GoodIn wsX9_bet (wsV RX9 119 RX9 yX9_lays wsX9_lays) := goodIn_app (goodIn_of _ (by decide +kernel)) ggX9_bet_X9_lays
set_option maxRecDepth 20000 in
theorem ggX9_bet_X9_read : GoodIn wsX9_bet wsX9_read := goodIn_r _ [19, 20, 21, 22, 23, 24, 25, 26, 27, 28, 29, 30, 31, 32, 33, 34, 5, 35, 36, 37, 38, 39, 40, 41, 42, 43, 44, 45, 46, 47, 48, 49, 50, 51, 52, 53, 54, 55, 56, 57, 58, 59, 60, 61, 62, 63, 64, 65, 66, 67, 68, 69, 70, 71, 72, 73, 74, 75, 76, 77, 78, 79, 80, 81, 82, 83, 84, 85, 86, 87, 88, 89, 90, 91, 92, 93, 94, 95, 96, 97, 98, 99, 100, 101, 102, 103, 104, 105, 106, 107, 108, 10, 109, 110, 8, 111, 9, 112, 7, 113, 114, 115, 116, 117, 118, 119, 120, 121, 122, 123, 124, 125, 126, 127, 128, 129, 130, 131, 132, 133, 134, 135, 136, 137, 138, 139, 140, 141, 142, 143, 144, 145, 146, 147, 148, 149, 150, 151, 152, 153, 154, 155, 156, 157, 158] (by decide +kernel) (by decide +kernel)
set_option maxRecDepth 20000 in
theorem gX9_bet_X9_read : GoodIn wsX9_bet (wsV RX9 250 RX9 yX9_read wsX9_read) := goodIn_app (goodIn_of _ (by decide +kernel)) ggX9_bet_X9_read
theorem dX9_bet_0 : decode cX9_bet 0 = .ok (.aload_n 0, 1) := by decide +kernel
theorem dX9_bet_1 : decode cX9_bet 1 = .ok (.invokevirtual 119, 3) := by decide +kernel
theorem dX9_bet_4 : decode cX9_bet 4 = .ok (.aload_n 0, 1) := by decide +kernel
theorem dX9_bet_5 : decode cX9_bet 5 = .ok (.aload_n 0, 1) := by decide +kernel
theorem dX9_bet_6 : decode cX9_bet 6 = .ok (.getfield 254, 3) := by decide +kernel
theorem dX9_bet_9 : decode cX9_bet 9 = .ok (.iconst 0, 1) := by decide +kernel
theorem dX9_bet_10 : decode cX9_bet 10 = .ok (.iconst 0, 1) := by decide +kernel
theorem dX9_bet_11 : decode cX9_bet 11 = .ok (.iconst 2, 1) := by decide +kernel
theorem dX9_bet_12 : decode cX9_bet 12 = .ok (.invokevirtual 250, 3) := by decide +kernel
theorem dX9_bet_15 : decode cX9_bet 15 = .ok (.ireturn, 1) := by decide +kernel
set_option maxRecDepth 20000 in
theorem ggX9_isPlan_X9_in : GoodIn wsX9_isPlan wsX9_in := goodIn_r _ [5] (by decide +kernel) (by decide +kernel)
set_option maxRecDepth 20000 in
theorem gX9_isPlan_X9_in : GoodIn wsX9_isPlan (va_wsS RX9 85 yX9_in wsX9_in) := goodIn_app (goodIn_of _ (by decide +kernel)) ggX9_isPlan_X9_in
theorem dX9_isPlan_0 : decode cX9_isPlan 0 = .ok (.iload_n 1, 1) := by decide +kernel
theorem dX9_isPlan_1 : decode cX9_isPlan 1 = .ok (.i2l, 1) := by decide +kernel
theorem dX9_isPlan_2 : decode cX9_isPlan 2 = .ok (.lconst 0, 1) := by decide +kernel
theorem dX9_isPlan_3 : decode cX9_isPlan 3 = .ok (.aload_n 0, 1) := by decide +kernel
theorem dX9_isPlan_4 : decode cX9_isPlan 4 = .ok (.getfield 257, 3) := by decide +kernel
theorem dX9_isPlan_7 : decode cX9_isPlan 7 = .ok (.iconst 1, 1) := by decide +kernel
theorem dX9_isPlan_8 : decode cX9_isPlan 8 = .ok (.isub, 1) := by decide +kernel
theorem dX9_isPlan_9 : decode cX9_isPlan 9 = .ok (.i2l, 1) := by decide +kernel
theorem dX9_isPlan_10 : decode cX9_isPlan 10 = .ok (.invokestatic 85, 3) := by decide +kernel
theorem dX9_isPlan_13 : decode cX9_isPlan 13 = .ok (.ireturn, 1) := by decide +kernel
set_option maxRecDepth 20000 in
theorem ggX9_plan_X9_in : GoodIn wsX9_plan wsX9_in := goodIn_r _ [9] (by decide +kernel) (by decide +kernel)
set_option maxRecDepth 20000 in
theorem gX9_plan_X9_in : GoodIn wsX9_plan (va_wsS RX9 85 yX9_in wsX9_in) := goodIn_app (goodIn_of _ (by decide +kernel)) ggX9_plan_X9_in
theorem dX9_plan_0 : decode cX9_plan 0 = .ok (.iload_n 1, 1) := by decide +kernel
theorem dX9_plan_1 : decode cX9_plan 1 = .ok (.i2l, 1) := by decide +kernel
theorem dX9_plan_2 : decode cX9_plan 2 = .ok (.lconst 0, 1) := by decide +kernel
theorem dX9_plan_3 : decode cX9_plan 3 = .ok (.ldc2_w 260, 3) := by decide +kernel
theorem dX9_plan_6 : decode cX9_plan 6 = .ok (.invokestatic 85, 3) := by decide +kernel
theorem dX9_plan_9 : decode cX9_plan 9 = .ok (.ifCond .eq 15, 3) := by decide +kernel
theorem dX9_plan_12 : decode cX9_plan 12 = .ok (.iload_n 2, 1) := by decide +kernel
theorem dX9_plan_13 : decode cX9_plan 13 = .ok (.i2l, 1) := by decide +kernel
theorem dX9_plan_14 : decode cX9_plan 14 = .ok (.lconst 0, 1) := by decide +kernel
theorem dX9_plan_15 : decode cX9_plan 15 = .ok (.ldc2_w 262, 3) := by decide +kernel
theorem dX9_plan_18 : decode cX9_plan 18 = .ok (.invokestatic 85, 3) := by decide +kernel
theorem dX9_plan_21 : decode cX9_plan 21 = .ok (.ifCond .ne 6, 3) := by decide +kernel
theorem dX9_plan_24 : decode cX9_plan 24 = .ok (.bipush (-2), 2) := by decide +kernel
theorem dX9_plan_26 : decode cX9_plan 26 = .ok (.ireturn, 1) := by decide +kernel
theorem dX9_plan_27 : decode cX9_plan 27 = .ok (.aload_n 0, 1) := by decide +kernel
theorem dX9_plan_28 : decode cX9_plan 28 = .ok (.getfield 257, 3) := by decide +kernel
theorem dX9_plan_31 : decode cX9_plan 31 = .ok (.bipush 8, 2) := by decide +kernel
theorem dX9_plan_33 : decode cX9_plan 33 = .ok (.if_icmp .ne 6, 3) := by decide +kernel
theorem dX9_plan_36 : decode cX9_plan 36 = .ok (.bipush (-4), 2) := by decide +kernel
theorem dX9_plan_38 : decode cX9_plan 38 = .ok (.ireturn, 1) := by decide +kernel
theorem dX9_plan_39 : decode cX9_plan 39 = .ok (.aload_n 0, 1) := by decide +kernel
theorem dX9_plan_40 : decode cX9_plan 40 = .ok (.getfield 26, 3) := by decide +kernel
theorem dX9_plan_43 : decode cX9_plan 43 = .ok (.aload_n 0, 1) := by decide +kernel
theorem dX9_plan_44 : decode cX9_plan 44 = .ok (.getfield 257, 3) := by decide +kernel
theorem dX9_plan_47 : decode cX9_plan 47 = .ok (.iload_n 1, 1) := by decide +kernel
theorem dX9_plan_48 : decode cX9_plan 48 = .ok (.iastore, 1) := by decide +kernel
theorem dX9_plan_49 : decode cX9_plan 49 = .ok (.aload_n 0, 1) := by decide +kernel
theorem dX9_plan_50 : decode cX9_plan 50 = .ok (.getfield 29, 3) := by decide +kernel
theorem dX9_plan_53 : decode cX9_plan 53 = .ok (.aload_n 0, 1) := by decide +kernel
theorem dX9_plan_54 : decode cX9_plan 54 = .ok (.getfield 257, 3) := by decide +kernel
theorem dX9_plan_57 : decode cX9_plan 57 = .ok (.iload_n 2, 1) := by decide +kernel
theorem dX9_plan_58 : decode cX9_plan 58 = .ok (.iastore, 1) := by decide +kernel
theorem dX9_plan_59 : decode cX9_plan 59 = .ok (.aload_n 0, 1) := by decide +kernel
theorem dX9_plan_60 : decode cX9_plan 60 = .ok (.dup, 1) := by decide +kernel
theorem dX9_plan_61 : decode cX9_plan 61 = .ok (.getfield 257, 3) := by decide +kernel
theorem dX9_plan_64 : decode cX9_plan 64 = .ok (.iconst 1, 1) := by decide +kernel
theorem dX9_plan_65 : decode cX9_plan 65 = .ok (.iadd, 1) := by decide +kernel
theorem dX9_plan_66 : decode cX9_plan 66 = .ok (.putfield 257, 3) := by decide +kernel
theorem dX9_plan_69 : decode cX9_plan 69 = .ok (.aload_n 0, 1) := by decide +kernel
theorem dX9_plan_70 : decode cX9_plan 70 = .ok (.getfield 257, 3) := by decide +kernel
theorem dX9_plan_73 : decode cX9_plan 73 = .ok (.iconst 1, 1) := by decide +kernel
theorem dX9_plan_74 : decode cX9_plan 74 = .ok (.isub, 1) := by decide +kernel
theorem dX9_plan_75 : decode cX9_plan 75 = .ok (.ireturn, 1) := by decide +kernel
theorem dX9_firstBy_0 : decode cX9_firstBy 0 = .ok (.iload_n 1, 1) := by decide +kernel
theorem dX9_firstBy_1 : decode cX9_firstBy 1 = .ok (.ifCond .ne 7, 3) := by decide +kernel
theorem dX9_firstBy_4 : decode cX9_firstBy 4 = .ok (.iconst 0, 1) := by decide +kernel
theorem dX9_firstBy_5 : decode cX9_firstBy 5 = .ok (.goto 25, 3) := by decide +kernel
theorem dX9_firstBy_8 : decode cX9_firstBy 8 = .ok (.iload_n 1, 1) := by decide +kernel
theorem dX9_firstBy_9 : decode cX9_firstBy 9 = .ok (.iconst 2, 1) := by decide +kernel
theorem dX9_firstBy_10 : decode cX9_firstBy 10 = .ok (.if_icmp .eq 8, 3) := by decide +kernel
theorem dX9_firstBy_13 : decode cX9_firstBy 13 = .ok (.iload_n 1, 1) := by decide +kernel
theorem dX9_firstBy_14 : decode cX9_firstBy 14 = .ok (.iconst 4, 1) := by decide +kernel
theorem dX9_firstBy_15 : decode cX9_firstBy 15 = .ok (.if_icmp .ne 7, 3) := by decide +kernel
theorem dX9_firstBy_18 : decode cX9_firstBy 18 = .ok (.iload_n 3, 1) := by decide +kernel
theorem dX9_firstBy_19 : decode cX9_firstBy 19 = .ok (.goto 11, 3) := by decide +kernel
theorem dX9_firstBy_22 : decode cX9_firstBy 22 = .ok (.iload_n 3, 1) := by decide +kernel
theorem dX9_firstBy_23 : decode cX9_firstBy 23 = .ok (.iload_n 2, 1) := by decide +kernel
theorem dX9_firstBy_24 : decode cX9_firstBy 24 = .ok (.iadd, 1) := by decide +kernel
theorem dX9_firstBy_25 : decode cX9_firstBy 25 = .ok (.aload_n 0, 1) := by decide +kernel
theorem dX9_firstBy_26 : decode cX9_firstBy 26 = .ok (.getfield 74, 3) := by decide +kernel
theorem dX9_firstBy_29 : decode cX9_firstBy 29 = .ok (.irem, 1) := by decide +kernel
theorem dX9_firstBy_30 : decode cX9_firstBy 30 = .ok (.ireturn, 1) := by decide +kernel
theorem dX9_nextBy_0 : decode cX9_nextBy 0 = .ok (.iload_n 3, 1) := by decide +kernel
theorem dX9_nextBy_1 : decode cX9_nextBy 1 = .ok (.iconst 1, 1) := by decide +kernel
theorem dX9_nextBy_2 : decode cX9_nextBy 2 = .ok (.iadd, 1) := by decide +kernel
theorem dX9_nextBy_3 : decode cX9_nextBy 3 = .ok (.aload_n 0, 1) := by decide +kernel
theorem dX9_nextBy_4 : decode cX9_nextBy 4 = .ok (.getfield 74, 3) := by decide +kernel
theorem dX9_nextBy_7 : decode cX9_nextBy 7 = .ok (.irem, 1) := by decide +kernel
theorem dX9_nextBy_8 : decode cX9_nextBy 8 = .ok (.istore 5, 2) := by decide +kernel
theorem dX9_nextBy_10 : decode cX9_nextBy 10 = .ok (.aload_n 0, 1) := by decide +kernel
theorem dX9_nextBy_11 : decode cX9_nextBy 11 = .ok (.getfield 23, 3) := by decide +kernel
theorem dX9_nextBy_14 : decode cX9_nextBy 14 = .ok (.iload_n 3, 1) := by decide +kernel
theorem dX9_nextBy_15 : decode cX9_nextBy 15 = .ok (.iaload, 1) := by decide +kernel
theorem dX9_nextBy_16 : decode cX9_nextBy 16 = .ok (.istore 6, 2) := by decide +kernel
theorem dX9_nextBy_18 : decode cX9_nextBy 18 = .ok (.iload_n 1, 1) := by decide +kernel
theorem dX9_nextBy_19 : decode cX9_nextBy 19 = .ok (.tableswitch 98 2 5 #[29, 43, 64, 84], 29) := by decide +kernel
theorem dX9_nextBy_48 : decode cX9_nextBy 48 = .ok (.iload 6, 2) := by decide +kernel
theorem dX9_nextBy_50 : decode cX9_nextBy 50 = .ok (.iconst (-1), 1) := by decide +kernel
theorem dX9_nextBy_51 : decode cX9_nextBy 51 = .ok (.if_icmp .ne 8, 3) := by decide +kernel
theorem dX9_nextBy_54 : decode cX9_nextBy 54 = .ok (.iload 5, 2) := by decide +kernel
theorem dX9_nextBy_56 : decode cX9_nextBy 56 = .ok (.goto 5, 3) := by decide +kernel
theorem dX9_nextBy_59 : decode cX9_nextBy 59 = .ok (.iload 6, 2) := by decide +kernel
theorem dX9_nextBy_61 : decode cX9_nextBy 61 = .ok (.ireturn, 1) := by decide +kernel
theorem dX9_nextBy_62 : decode cX9_nextBy 62 = .ok (.iload 6, 2) := by decide +kernel
theorem dX9_nextBy_64 : decode cX9_nextBy 64 = .ok (.iconst (-1), 1) := by decide +kernel
theorem dX9_nextBy_65 : decode cX9_nextBy 65 = .ok (.if_icmp .ne 8, 3) := by decide +kernel
theorem dX9_nextBy_68 : decode cX9_nextBy 68 = .ok (.iload 5, 2) := by decide +kernel
theorem dX9_nextBy_70 : decode cX9_nextBy 70 = .ok (.goto 12, 3) := by decide +kernel
theorem dX9_nextBy_73 : decode cX9_nextBy 73 = .ok (.iload 6, 2) := by decide +kernel
theorem dX9_nextBy_75 : decode cX9_nextBy 75 = .ok (.iload_n 2, 1) := by decide +kernel
theorem dX9_nextBy_76 : decode cX9_nextBy 76 = .ok (.iadd, 1) := by decide +kernel
theorem dX9_nextBy_77 : decode cX9_nextBy 77 = .ok (.aload_n 0, 1) := by decide +kernel
theorem dX9_nextBy_78 : decode cX9_nextBy 78 = .ok (.getfield 74, 3) := by decide +kernel
theorem dX9_nextBy_81 : decode cX9_nextBy 81 = .ok (.irem, 1) := by decide +kernel
theorem dX9_nextBy_82 : decode cX9_nextBy 82 = .ok (.ireturn, 1) := by decide +kernel
theorem dX9_nextBy_83 : decode cX9_nextBy 83 = .ok (.iload 6, 2) := by decide +kernel
theorem dX9_nextBy_85 : decode cX9_nextBy 85 = .ok (.iconst (-1), 1) := by decide +kernel
theorem dX9_nextBy_86 : decode cX9_nextBy 86 = .ok (.if_icmp .eq 9, 3) := by decide +kernel
theorem dX9_nextBy_89 : decode cX9_nextBy 89 = .ok (.iload 4, 2) := by decide +kernel
theorem dX9_nextBy_91 : decode cX9_nextBy 91 = .ok (.iload_n 2, 1) := by decide +kernel
theorem dX9_nextBy_92 : decode cX9_nextBy 92 = .ok (.if_icmp .ne 8, 3) := by decide +kernel
theorem dX9_nextBy_95 : decode cX9_nextBy 95 = .ok (.iload 5, 2) := by decide +kernel
theorem dX9_nextBy_97 : decode cX9_nextBy 97 = .ok (.goto 5, 3) := by decide +kernel
theorem dX9_nextBy_100 : decode cX9_nextBy 100 = .ok (.iload 6, 2) := by decide +kernel
theorem dX9_nextBy_102 : decode cX9_nextBy 102 = .ok (.ireturn, 1) := by decide +kernel
theorem dX9_nextBy_103 : decode cX9_nextBy 103 = .ok (.iload_n 3, 1) := by decide +kernel
theorem dX9_nextBy_104 : decode cX9_nextBy 104 = .ok (.aload_n 0, 1) := by decide +kernel
theorem dX9_nextBy_105 : decode cX9_nextBy 105 = .ok (.getfield 74, 3) := by decide +kernel
theorem dX9_nextBy_108 : decode cX9_nextBy 108 = .ok (.iadd, 1) := by decide +kernel
theorem dX9_nextBy_109 : decode cX9_nextBy 109 = .ok (.iconst 1, 1) := by decide +kernel
theorem dX9_nextBy_110 : decode cX9_nextBy 110 = .ok (.isub, 1) := by decide +kernel
theorem dX9_nextBy_111 : decode cX9_nextBy 111 = .ok (.aload_n 0, 1) := by decide +kernel
theorem dX9_nextBy_112 : decode cX9_nextBy 112 = .ok (.getfield 74, 3) := by decide +kernel
theorem dX9_nextBy_115 : decode cX9_nextBy 115 = .ok (.irem, 1) := by decide +kernel
theorem dX9_nextBy_116 : decode cX9_nextBy 116 = .ok (.ireturn, 1) := by decide +kernel
theorem dX9_nextBy_117 : decode cX9_nextBy 117 = .ok (.iload 5, 2) := by decide +kernel
theorem dX9_nextBy_119 : decode cX9_nextBy 119 = .ok (.ireturn, 1) := by decide +kernel
set_option maxRecDepth 20000 in
theorem ggX9_next_X9_isPlan : GoodIn wsX9_next wsX9_isPlan := goodIn_r _ [8, 9, 10, 11, 7, 12, 27, 28, 29, 30, 31, 32, 33, 34, 35, 36, 37, 38, 39, 40, 41, 42, 43, 44, 45, 46, 47, 48, 49, 50, 51, 52, 53, 54, 55, 56, 57, 58, 59, 60, 61, 62, 63, 64, 65, 66, 67, 68, 69, 70, 71] (by decide +kernel) (by decide +kernel)
set_option maxRecDepth 20000 in
theorem gX9_next_X9_isPlan : GoodIn wsX9_next (wsV RX9 264 RX9 yX9_isPlan wsX9_isPlan) := goodIn_app (goodIn_of _ (by decide +kernel)) ggX9_next_X9_isPlan
set_option maxRecDepth 20000 in
theorem ggX9_next_X9_isBox : GoodIn wsX9_next wsX9_isBox := goodIn_r _ [16, 17, 10, 11, 7, 12, 27, 28, 29, 30, 31, 32, 33, 34, 35, 36, 37, 38, 39, 40, 41, 42, 43, 44, 45, 46, 47, 48, 49, 50, 51, 52, 53, 54, 55, 56, 57, 58, 59, 60, 61, 62, 63, 64, 65, 66, 67, 68, 69, 70, 71] (by decide +kernel) (by decide +kernel)
set_option maxRecDepth 20000 in
theorem gX9_next_X9_isBox : GoodIn wsX9_next (wsV RX9 97 RX9 yX9_isBox wsX9_isBox) := goodIn_app (goodIn_of _ (by decide +kernel)) ggX9_next_X9_isBox
set_option maxRecDepth 20000 in
theorem ggX9_next_X9_in : GoodIn wsX9_next wsX9_in := goodIn_r _ [12] (by decide +kernel) (by decide +kernel)
set_option maxRecDepth 20000 in
theorem gX9_next_X9_in : GoodIn wsX9_next (va_wsS RX9 85 yX9_in wsX9_in) := goodIn_app (goodIn_of _ (by decide +kernel)) ggX9_next_X9_in
set_option maxRecDepth 20000 in
theorem ggX9_next_X9_firstBy : GoodIn wsX9_next wsX9_firstBy := goodIn_r _ [21, 17, 27, 28, 29, 30, 31, 32, 33, 34, 35, 36, 37, 38, 39, 40, 41, 42, 43, 44, 45, 46, 47, 48, 49, 50, 51, 52, 53, 54, 55, 56, 57, 58, 59, 60, 61, 62, 63, 64, 65, 66, 67, 68, 69, 70, 71] (by decide +kernel) (by decide +kernel)
set_option maxRecDepth 20000 in
theorem gX9_next_X9_firstBy : GoodIn wsX9_next (wsV RX9 267 RX9 yX9_firstBy wsX9_firstBy) := goodIn_app (goodIn_of _ (by decide +kernel)) ggX9_next_X9_firstBy
set_option maxRecDepth 20000 in
theorem ggX9_next_X9_nextBy : GoodIn wsX9_next wsX9_nextBy := goodIn_r _ [25, 17, 26, 27, 28, 29, 30, 31, 32, 33, 34, 35, 36, 37, 38, 39, 40, 41, 42, 43, 44, 45, 46, 47, 48, 49, 50, 51, 52, 53, 54, 55, 56, 57, 58, 59, 60, 61, 62, 63, 64, 65, 66, 67, 68, 69, 70, 71] (by decide +kernel) (by decide +kernel)
set_option maxRecDepth 20000 in
theorem gX9_next_X9_nextBy : GoodIn wsX9_next (wsV RX9 271 RX9 yX9_nextBy wsX9_nextBy) := goodIn_app (goodIn_of _ (by decide +kernel)) ggX9_next_X9_nextBy
theorem dX9_next_0 : decode cX9_next 0 = .ok (.aload_n 0, 1) := by decide +kernel
theorem dX9_next_1 : decode cX9_next 1 = .ok (.iload_n 1, 1) := by decide +kernel
theorem dX9_next_2 : decode cX9_next 2 = .ok (.invokevirtual 264, 3) := by decide +kernel
theorem dX9_next_5 : decode cX9_next 5 = .ok (.ifCond .eq 37, 3) := by decide +kernel
theorem dX9_next_8 : decode cX9_next 8 = .ok (.aload_n 0, 1) := by decide +kernel
theorem dX9_next_9 : decode cX9_next 9 = .ok (.iload_n 2, 1) := by decide +kernel
theorem dX9_next_10 : decode cX9_next 10 = .ok (.invokevirtual 97, 3) := by decide +kernel
theorem dX9_next_13 : decode cX9_next 13 = .ok (.ifCond .eq 29, 3) := by decide +kernel
theorem dX9_next_16 : decode cX9_next 16 = .ok (.iload 4, 2) := by decide +kernel
theorem dX9_next_18 : decode cX9_next 18 = .ok (.i2l, 1) := by decide +kernel
theorem dX9_next_19 : decode cX9_next 19 = .ok (.lconst 0, 1) := by decide +kernel
theorem dX9_next_20 : decode cX9_next 20 = .ok (.ldc2_w 89, 3) := by decide +kernel
theorem dX9_next_23 : decode cX9_next 23 = .ok (.invokestatic 85, 3) := by decide +kernel
theorem dX9_next_26 : decode cX9_next 26 = .ok (.ifCond .eq 16, 3) := by decide +kernel
theorem dX9_next_29 : decode cX9_next 29 = .ok (.iload 4, 2) := by decide +kernel
theorem dX9_next_31 : decode cX9_next 31 = .ok (.ifCond .le 14, 3) := by decide +kernel
theorem dX9_next_34 : decode cX9_next 34 = .ok (.aload_n 0, 1) := by decide +kernel
theorem dX9_next_35 : decode cX9_next 35 = .ok (.iload_n 3, 1) := by decide +kernel
theorem dX9_next_36 : decode cX9_next 36 = .ok (.invokevirtual 97, 3) := by decide +kernel
theorem dX9_next_39 : decode cX9_next 39 = .ok (.ifCond .ne 6, 3) := by decide +kernel
theorem dX9_next_42 : decode cX9_next 42 = .ok (.bipush (-2), 2) := by decide +kernel
theorem dX9_next_44 : decode cX9_next 44 = .ok (.ireturn, 1) := by decide +kernel
theorem dX9_next_45 : decode cX9_next 45 = .ok (.iload 4, 2) := by decide +kernel
theorem dX9_next_47 : decode cX9_next 47 = .ok (.ifCond .ne 23, 3) := by decide +kernel
theorem dX9_next_50 : decode cX9_next 50 = .ok (.aload_n 0, 1) := by decide +kernel
theorem dX9_next_51 : decode cX9_next 51 = .ok (.aload_n 0, 1) := by decide +kernel
theorem dX9_next_52 : decode cX9_next 52 = .ok (.getfield 26, 3) := by decide +kernel
theorem dX9_next_55 : decode cX9_next 55 = .ok (.iload_n 1, 1) := by decide +kernel
theorem dX9_next_56 : decode cX9_next 56 = .ok (.iaload, 1) := by decide +kernel
theorem dX9_next_57 : decode cX9_next 57 = .ok (.aload_n 0, 1) := by decide +kernel
theorem dX9_next_58 : decode cX9_next 58 = .ok (.getfield 29, 3) := by decide +kernel
theorem dX9_next_61 : decode cX9_next 61 = .ok (.iload_n 1, 1) := by decide +kernel
theorem dX9_next_62 : decode cX9_next 62 = .ok (.iaload, 1) := by decide +kernel
theorem dX9_next_63 : decode cX9_next 63 = .ok (.iload_n 2, 1) := by decide +kernel
theorem dX9_next_64 : decode cX9_next 64 = .ok (.invokevirtual 267, 3) := by decide +kernel
theorem dX9_next_67 : decode cX9_next 67 = .ok (.goto 22, 3) := by decide +kernel
theorem dX9_next_70 : decode cX9_next 70 = .ok (.aload_n 0, 1) := by decide +kernel
theorem dX9_next_71 : decode cX9_next 71 = .ok (.aload_n 0, 1) := by decide +kernel
theorem dX9_next_72 : decode cX9_next 72 = .ok (.getfield 26, 3) := by decide +kernel
theorem dX9_next_75 : decode cX9_next 75 = .ok (.iload_n 1, 1) := by decide +kernel
theorem dX9_next_76 : decode cX9_next 76 = .ok (.iaload, 1) := by decide +kernel
theorem dX9_next_77 : decode cX9_next 77 = .ok (.aload_n 0, 1) := by decide +kernel
theorem dX9_next_78 : decode cX9_next 78 = .ok (.getfield 29, 3) := by decide +kernel
theorem dX9_next_81 : decode cX9_next 81 = .ok (.iload_n 1, 1) := by decide +kernel
theorem dX9_next_82 : decode cX9_next 82 = .ok (.iaload, 1) := by decide +kernel
theorem dX9_next_83 : decode cX9_next 83 = .ok (.iload_n 3, 1) := by decide +kernel
theorem dX9_next_84 : decode cX9_next 84 = .ok (.iload 4, 2) := by decide +kernel
theorem dX9_next_86 : decode cX9_next 86 = .ok (.invokevirtual 271, 3) := by decide +kernel
theorem dX9_next_89 : decode cX9_next 89 = .ok (.ireturn, 1) := by decide +kernel
set_option maxRecDepth 20000 in
theorem ggX9_finds_X9_firstBy : GoodIn wsX9_finds wsX9_firstBy := goodIn_r _ [9, 2, 14, 15, 16, 17, 18, 19, 20, 21, 22, 23, 24, 25, 26, 27, 28, 29, 30, 31, 32, 33, 34, 35, 36, 37, 38, 39, 40, 41, 42, 43, 44, 45, 46, 47, 48, 49, 50, 51, 52, 53, 54, 55, 56, 57, 58] (by decide +kernel) (by decide +kernel)
set_option maxRecDepth 20000 in
theorem gX9_finds_X9_firstBy : GoodIn wsX9_finds (wsV RX9 267 RX9 yX9_firstBy wsX9_firstBy) := goodIn_app (goodIn_of _ (by decide +kernel)) ggX9_finds_X9_firstBy
set_option maxRecDepth 20000 in
theorem ggX9_finds_X9_nextBy : GoodIn wsX9_finds wsX9_nextBy := goodIn_r _ [13, 2, 4, 14, 15, 16, 17, 18, 19, 20, 21, 22, 23, 24, 25, 26, 27, 28, 29, 30, 31, 32, 33, 34, 35, 36, 37, 38, 39, 40, 41, 42, 43, 44, 45, 46, 47, 48, 49, 50, 51, 52, 53, 54, 55, 56, 57, 58] (by decide +kernel) (by decide +kernel)
set_option maxRecDepth 20000 in
theorem gX9_finds_X9_nextBy : GoodIn wsX9_finds (wsV RX9 271 RX9 yX9_nextBy wsX9_nextBy) := goodIn_app (goodIn_of _ (by decide +kernel)) ggX9_finds_X9_nextBy
theorem dX9_finds_0 : decode cX9_finds 0 = .ok (.aload_n 0, 1) := by decide +kernel
theorem dX9_finds_1 : decode cX9_finds 1 = .ok (.getfield 77, 3) := by decide +kernel
theorem dX9_finds_4 : decode cX9_finds 4 = .ok (.aload_n 0, 1) := by decide +kernel
theorem dX9_finds_5 : decode cX9_finds 5 = .ok (.getfield 74, 3) := by decide +kernel
theorem dX9_finds_8 : decode cX9_finds 8 = .ok (.if_icmp .ge 10, 3) := by decide +kernel
theorem dX9_finds_11 : decode cX9_finds 11 = .ok (.aload_n 0, 1) := by decide +kernel
theorem dX9_finds_12 : decode cX9_finds 12 = .ok (.getfield 77, 3) := by decide +kernel
theorem dX9_finds_15 : decode cX9_finds 15 = .ok (.goto 7, 3) := by decide +kernel
theorem dX9_finds_18 : decode cX9_finds 18 = .ok (.aload_n 0, 1) := by decide +kernel
theorem dX9_finds_19 : decode cX9_finds 19 = .ok (.getfield 74, 3) := by decide +kernel
theorem dX9_finds_22 : decode cX9_finds 22 = .ok (.istore 4, 2) := by decide +kernel
theorem dX9_finds_24 : decode cX9_finds 24 = .ok (.aload_n 0, 1) := by decide +kernel
theorem dX9_finds_25 : decode cX9_finds 25 = .ok (.iload_n 1, 1) := by decide +kernel
theorem dX9_finds_26 : decode cX9_finds 26 = .ok (.iload_n 2, 1) := by decide +kernel
theorem dX9_finds_27 : decode cX9_finds 27 = .ok (.iload_n 3, 1) := by decide +kernel
theorem dX9_finds_28 : decode cX9_finds 28 = .ok (.invokevirtual 267, 3) := by decide +kernel
theorem dX9_finds_31 : decode cX9_finds 31 = .ok (.istore 5, 2) := by decide +kernel
theorem dX9_finds_33 : decode cX9_finds 33 = .ok (.aload_n 0, 1) := by decide +kernel
theorem dX9_finds_34 : decode cX9_finds 34 = .ok (.iconst 1, 1) := by decide +kernel
theorem dX9_finds_35 : decode cX9_finds 35 = .ok (.putfield 274, 3) := by decide +kernel
theorem dX9_finds_38 : decode cX9_finds 38 = .ok (.aload_n 0, 1) := by decide +kernel
theorem dX9_finds_39 : decode cX9_finds 39 = .ok (.getfield 23, 3) := by decide +kernel
theorem dX9_finds_42 : decode cX9_finds 42 = .ok (.iload 5, 2) := by decide +kernel
theorem dX9_finds_44 : decode cX9_finds 44 = .ok (.iaload, 1) := by decide +kernel
theorem dX9_finds_45 : decode cX9_finds 45 = .ok (.iload_n 3, 1) := by decide +kernel
theorem dX9_finds_46 : decode cX9_finds 46 = .ok (.if_icmp .eq 39, 3) := by decide +kernel
theorem dX9_finds_49 : decode cX9_finds 49 = .ok (.aload_n 0, 1) := by decide +kernel
theorem dX9_finds_50 : decode cX9_finds 50 = .ok (.getfield 274, 3) := by decide +kernel
theorem dX9_finds_53 : decode cX9_finds 53 = .ok (.iload 4, 2) := by decide +kernel
theorem dX9_finds_55 : decode cX9_finds 55 = .ok (.if_icmp .ge 30, 3) := by decide +kernel
theorem dX9_finds_58 : decode cX9_finds 58 = .ok (.aload_n 0, 1) := by decide +kernel
theorem dX9_finds_59 : decode cX9_finds 59 = .ok (.iload_n 1, 1) := by decide +kernel
theorem dX9_finds_60 : decode cX9_finds 60 = .ok (.iload_n 2, 1) := by decide +kernel
theorem dX9_finds_61 : decode cX9_finds 61 = .ok (.iload 5, 2) := by decide +kernel
theorem dX9_finds_63 : decode cX9_finds 63 = .ok (.aload_n 0, 1) := by decide +kernel
theorem dX9_finds_64 : decode cX9_finds 64 = .ok (.getfield 274, 3) := by decide +kernel
theorem dX9_finds_67 : decode cX9_finds 67 = .ok (.invokevirtual 271, 3) := by decide +kernel
theorem dX9_finds_70 : decode cX9_finds 70 = .ok (.istore 5, 2) := by decide +kernel
theorem dX9_finds_72 : decode cX9_finds 72 = .ok (.aload_n 0, 1) := by decide +kernel
theorem dX9_finds_73 : decode cX9_finds 73 = .ok (.dup, 1) := by decide +kernel
theorem dX9_finds_74 : decode cX9_finds 74 = .ok (.getfield 274, 3) := by decide +kernel
theorem dX9_finds_77 : decode cX9_finds 77 = .ok (.iconst 1, 1) := by decide +kernel
theorem dX9_finds_78 : decode cX9_finds 78 = .ok (.iadd, 1) := by decide +kernel
theorem dX9_finds_79 : decode cX9_finds 79 = .ok (.putfield 274, 3) := by decide +kernel
theorem dX9_finds_82 : decode cX9_finds 82 = .ok (.goto (-44), 3) := by decide +kernel
theorem dX9_finds_85 : decode cX9_finds 85 = .ok (.aload_n 0, 1) := by decide +kernel
theorem dX9_finds_86 : decode cX9_finds 86 = .ok (.getfield 23, 3) := by decide +kernel
theorem dX9_finds_89 : decode cX9_finds 89 = .ok (.iload 5, 2) := by decide +kernel
theorem dX9_finds_91 : decode cX9_finds 91 = .ok (.iaload, 1) := by decide +kernel
theorem dX9_finds_92 : decode cX9_finds 92 = .ok (.iload_n 3, 1) := by decide +kernel
theorem dX9_finds_93 : decode cX9_finds 93 = .ok (.if_icmp .ne 10, 3) := by decide +kernel
theorem dX9_finds_96 : decode cX9_finds 96 = .ok (.aload_n 0, 1) := by decide +kernel
theorem dX9_finds_97 : decode cX9_finds 97 = .ok (.getfield 274, 3) := by decide +kernel
theorem dX9_finds_100 : decode cX9_finds 100 = .ok (.goto 4, 3) := by decide +kernel
theorem dX9_finds_103 : decode cX9_finds 103 = .ok (.iconst 0, 1) := by decide +kernel
theorem dX9_finds_104 : decode cX9_finds 104 = .ok (.ireturn, 1) := by decide +kernel
set_option maxRecDepth 20000 in
theorem ggX9_goHome_X9_finds : GoodIn wsX9_goHome wsX9_finds := goodIn_r _ [10, 11, 3, 4, 12, 13, 14, 15, 9, 16, 17, 18, 19, 20, 130, 131, 132, 133, 134, 135, 136, 137, 138, 139, 140, 141, 142, 143, 144, 145, 146, 147, 148, 149, 150, 151, 152, 153, 154, 155, 156, 157, 158, 159, 160, 161, 162, 163, 164, 165, 166, 167, 168, 169, 170, 171, 172, 173, 174] (by decide +kernel) (by decide +kernel)
set_option maxRecDepth 20000 in
theorem gX9_goHome_X9_finds : GoodIn wsX9_goHome (wsV RX9 283 RX9 yX9_finds wsX9_finds) := goodIn_app (goodIn_of _ (by decide +kernel)) ggX9_goHome_X9_finds
set_option maxRecDepth 20000 in
theorem ggX9_goHome_X9_lays : GoodIn wsX9_goHome wsX9_lays := goodIn_r _ [24, 25, 26, 27, 3, 12, 28, 29, 30, 9, 31, 130, 131, 132, 133, 134, 135, 136, 137, 138, 139, 140, 141, 142, 143, 144, 145, 146, 147, 148, 149, 150, 151, 152, 153, 154, 155, 156, 157, 158, 159, 160, 161, 162, 163, 164, 165, 166, 167, 168, 169, 170, 171, 172, 173, 174] (by decide +kernel) (by decide +kernel)
set_option maxRecDepth 20000 in
theorem gX9_goHome_X9_lays : GoodIn wsX9_goHome (wsV RX9 119 RX9 yX9_lays wsX9_lays) := goodIn_app (goodIn_of _ (by decide +kernel)) ggX9_goHome_X9_lays
set_option maxRecDepth 20000 in
theorem ggX9_goHome_X9_read : GoodIn wsX9_goHome wsX9_read := goodIn_r _ [35, 36, 37, 38, 39, 40, 41, 42, 43, 44, 45, 46, 47, 48, 49, 50, 9, 51, 52, 53, 54, 55, 56, 57, 58, 59, 60, 61, 62, 63, 64, 65, 66, 67, 68, 69, 70, 71, 72, 73, 74, 75, 76, 77, 78, 79, 80, 81, 82, 83, 84, 85, 86, 87, 88, 89, 90, 91, 92, 93, 94, 95, 96, 97, 98, 99, 100, 101, 102, 103, 104, 105, 106, 107, 108, 109, 110, 111, 112, 113, 114, 115, 116, 117, 118, 119, 120, 121, 122, 123, 124, 3, 125, 126, 26, 127, 27, 128, 25, 129, 130, 131, 132, 133, 134, 135, 136, 137, 138, 139, 140, 141, 142, 143, 144, 145, 146, 147, 148, 149, 150, 151, 152, 153, 154, 155, 156, 157, 158, 159, 160, 161, 162, 163, 164, 165, 166, 167, 168, 169, 170, 171, 172, 173, 174] (by decide +kernel) (by decide +kernel)
set_option maxRecDepth 20000 in
theorem gX9_goHome_X9_read : GoodIn wsX9_goHome (wsV RX9 250 RX9 yX9_read wsX9_read) := goodIn_app (goodIn_of _ (by decide +kernel)) ggX9_goHome_X9_read
theorem dX9_goHome_0 : decode cX9_goHome 0 = .ok (.aload_n 0, 1) := by decide +kernel
theorem dX9_goHome_1 : decode cX9_goHome 1 = .ok (.iconst 0, 1) := by decide +kernel
theorem dX9_goHome_2 : decode cX9_goHome 2 = .ok (.putfield 277, 3) := by decide +kernel
theorem dX9_goHome_5 : decode cX9_goHome 5 = .ok (.aload_n 0, 1) := by decide +kernel
theorem dX9_goHome_6 : decode cX9_goHome 6 = .ok (.iconst 0, 1) := by decide +kernel
theorem dX9_goHome_7 : decode cX9_goHome 7 = .ok (.putfield 280, 3) := by decide +kernel
theorem dX9_goHome_10 : decode cX9_goHome 10 = .ok (.iconst 0, 1) := by decide +kernel
theorem dX9_goHome_11 : decode cX9_goHome 11 = .ok (.istore_n 3, 1) := by decide +kernel
theorem dX9_goHome_12 : decode cX9_goHome 12 = .ok (.iload_n 3, 1) := by decide +kernel
theorem dX9_goHome_13 : decode cX9_goHome 13 = .ok (.aload_n 0, 1) := by decide +kernel
theorem dX9_goHome_14 : decode cX9_goHome 14 = .ok (.getfield 74, 3) := by decide +kernel
theorem dX9_goHome_17 : decode cX9_goHome 17 = .ok (.if_icmp .ge 46, 3) := by decide +kernel
theorem dX9_goHome_20 : decode cX9_goHome 20 = .ok (.aload_n 0, 1) := by decide +kernel
theorem dX9_goHome_21 : decode cX9_goHome 21 = .ok (.dup, 1) := by decide +kernel
theorem dX9_goHome_22 : decode cX9_goHome 22 = .ok (.getfield 277, 3) := by decide +kernel
theorem dX9_goHome_25 : decode cX9_goHome 25 = .ok (.aload_n 0, 1) := by decide +kernel
theorem dX9_goHome_26 : decode cX9_goHome 26 = .ok (.iload_n 1, 1) := by decide +kernel
theorem dX9_goHome_27 : decode cX9_goHome 27 = .ok (.iload_n 2, 1) := by decide +kernel
theorem dX9_goHome_28 : decode cX9_goHome 28 = .ok (.iload_n 3, 1) := by decide +kernel
theorem dX9_goHome_29 : decode cX9_goHome 29 = .ok (.invokevirtual 283, 3) := by decide +kernel
theorem dX9_goHome_32 : decode cX9_goHome 32 = .ok (.ifCond .le 7, 3) := by decide +kernel
theorem dX9_goHome_35 : decode cX9_goHome 35 = .ok (.iconst 1, 1) := by decide +kernel
theorem dX9_goHome_36 : decode cX9_goHome 36 = .ok (.goto 4, 3) := by decide +kernel
theorem dX9_goHome_39 : decode cX9_goHome 39 = .ok (.iconst 0, 1) := by decide +kernel
theorem dX9_goHome_40 : decode cX9_goHome 40 = .ok (.iadd, 1) := by decide +kernel
theorem dX9_goHome_41 : decode cX9_goHome 41 = .ok (.putfield 277, 3) := by decide +kernel
theorem dX9_goHome_44 : decode cX9_goHome 44 = .ok (.aload_n 0, 1) := by decide +kernel
theorem dX9_goHome_45 : decode cX9_goHome 45 = .ok (.dup, 1) := by decide +kernel
theorem dX9_goHome_46 : decode cX9_goHome 46 = .ok (.getfield 280, 3) := by decide +kernel
theorem dX9_goHome_49 : decode cX9_goHome 49 = .ok (.aload_n 0, 1) := by decide +kernel
theorem dX9_goHome_50 : decode cX9_goHome 50 = .ok (.getfield 274, 3) := by decide +kernel
theorem dX9_goHome_53 : decode cX9_goHome 53 = .ok (.iadd, 1) := by decide +kernel
theorem dX9_goHome_54 : decode cX9_goHome 54 = .ok (.putfield 280, 3) := by decide +kernel
theorem dX9_goHome_57 : decode cX9_goHome 57 = .ok (.iinc 3 1, 3) := by decide +kernel
theorem dX9_goHome_60 : decode cX9_goHome 60 = .ok (.goto (-48), 3) := by decide +kernel
theorem dX9_goHome_63 : decode cX9_goHome 63 = .ok (.aload_n 0, 1) := by decide +kernel
theorem dX9_goHome_64 : decode cX9_goHome 64 = .ok (.invokevirtual 119, 3) := by decide +kernel
theorem dX9_goHome_67 : decode cX9_goHome 67 = .ok (.aload_n 0, 1) := by decide +kernel
theorem dX9_goHome_68 : decode cX9_goHome 68 = .ok (.aload_n 0, 1) := by decide +kernel
theorem dX9_goHome_69 : decode cX9_goHome 69 = .ok (.getfield 254, 3) := by decide +kernel
theorem dX9_goHome_72 : decode cX9_goHome 72 = .ok (.aload_n 0, 1) := by decide +kernel
theorem dX9_goHome_73 : decode cX9_goHome 73 = .ok (.getfield 277, 3) := by decide +kernel
theorem dX9_goHome_76 : decode cX9_goHome 76 = .ok (.aload_n 0, 1) := by decide +kernel
theorem dX9_goHome_77 : decode cX9_goHome 77 = .ok (.getfield 280, 3) := by decide +kernel
theorem dX9_goHome_80 : decode cX9_goHome 80 = .ok (.iconst 0, 1) := by decide +kernel
theorem dX9_goHome_81 : decode cX9_goHome 81 = .ok (.invokevirtual 250, 3) := by decide +kernel
theorem dX9_goHome_84 : decode cX9_goHome 84 = .ok (.ifCond .eq 8, 3) := by decide +kernel
theorem dX9_goHome_87 : decode cX9_goHome 87 = .ok (.aload_n 0, 1) := by decide +kernel
theorem dX9_goHome_88 : decode cX9_goHome 88 = .ok (.getfield 74, 3) := by decide +kernel
theorem dX9_goHome_91 : decode cX9_goHome 91 = .ok (.ireturn, 1) := by decide +kernel
theorem dX9_goHome_92 : decode cX9_goHome 92 = .ok (.aload_n 0, 1) := by decide +kernel
theorem dX9_goHome_93 : decode cX9_goHome 93 = .ok (.aload_n 0, 1) := by decide +kernel
theorem dX9_goHome_94 : decode cX9_goHome 94 = .ok (.getfield 254, 3) := by decide +kernel
theorem dX9_goHome_97 : decode cX9_goHome 97 = .ok (.aload_n 0, 1) := by decide +kernel
theorem dX9_goHome_98 : decode cX9_goHome 98 = .ok (.getfield 277, 3) := by decide +kernel
theorem dX9_goHome_101 : decode cX9_goHome 101 = .ok (.aload_n 0, 1) := by decide +kernel
theorem dX9_goHome_102 : decode cX9_goHome 102 = .ok (.getfield 280, 3) := by decide +kernel
theorem dX9_goHome_105 : decode cX9_goHome 105 = .ok (.iconst 1, 1) := by decide +kernel
theorem dX9_goHome_106 : decode cX9_goHome 106 = .ok (.invokevirtual 250, 3) := by decide +kernel
theorem dX9_goHome_109 : decode cX9_goHome 109 = .ok (.istore_n 3, 1) := by decide +kernel
theorem dX9_goHome_110 : decode cX9_goHome 110 = .ok (.iload_n 3, 1) := by decide +kernel
theorem dX9_goHome_111 : decode cX9_goHome 111 = .ok (.ifCond .ge 7, 3) := by decide +kernel
theorem dX9_goHome_114 : decode cX9_goHome 114 = .ok (.iconst 0, 1) := by decide +kernel
theorem dX9_goHome_115 : decode cX9_goHome 115 = .ok (.goto 19, 3) := by decide +kernel
theorem dX9_goHome_118 : decode cX9_goHome 118 = .ok (.iload_n 3, 1) := by decide +kernel
theorem dX9_goHome_119 : decode cX9_goHome 119 = .ok (.aload_n 0, 1) := by decide +kernel
theorem dX9_goHome_120 : decode cX9_goHome 120 = .ok (.getfield 74, 3) := by decide +kernel
theorem dX9_goHome_123 : decode cX9_goHome 123 = .ok (.if_icmp .le 10, 3) := by decide +kernel
theorem dX9_goHome_126 : decode cX9_goHome 126 = .ok (.aload_n 0, 1) := by decide +kernel
theorem dX9_goHome_127 : decode cX9_goHome 127 = .ok (.getfield 74, 3) := by decide +kernel
theorem dX9_goHome_130 : decode cX9_goHome 130 = .ok (.goto 4, 3) := by decide +kernel
theorem dX9_goHome_133 : decode cX9_goHome 133 = .ok (.iload_n 3, 1) := by decide +kernel
theorem dX9_goHome_134 : decode cX9_goHome 134 = .ok (.ireturn, 1) := by decide +kernel
set_option maxRecDepth 20000 in
theorem ggX9_found_X9_isPlan : GoodIn wsX9_found wsX9_isPlan := goodIn_r _ [7, 8, 9, 10, 6, 11, 32, 33, 34, 35, 36, 37, 38, 39, 40, 41, 42, 43, 44, 45, 46, 47, 48, 49, 50, 51, 52, 53, 54, 55, 56, 57, 58, 59, 60, 61, 62, 63, 64, 65, 66, 67, 68, 69, 70, 71, 72, 73, 74, 75, 76] (by decide +kernel) (by decide +kernel)
set_option maxRecDepth 20000 in
theorem gX9_found_X9_isPlan : GoodIn wsX9_found (wsV RX9 264 RX9 yX9_isPlan wsX9_isPlan) := goodIn_app (goodIn_of _ (by decide +kernel)) ggX9_found_X9_isPlan
set_option maxRecDepth 20000 in
theorem ggX9_found_X9_isBox : GoodIn wsX9_found wsX9_isBox := goodIn_r _ [15, 16, 9, 10, 6, 11, 32, 33, 34, 35, 36, 37, 38, 39, 40, 41, 42, 43, 44, 45, 46, 47, 48, 49, 50, 51, 52, 53, 54, 55, 56, 57, 58, 59, 60, 61, 62, 63, 64, 65, 66, 67, 68, 69, 70, 71, 72, 73, 74, 75, 76] (by decide +kernel) (by decide +kernel)
set_option maxRecDepth 20000 in
theorem gX9_found_X9_isBox : GoodIn wsX9_found (wsV RX9 97 RX9 yX9_isBox wsX9_isBox) := goodIn_app (goodIn_of _ (by decide +kernel)) ggX9_found_X9_isBox
set_option maxRecDepth 20000 in
theorem ggX9_found_X9_finds : GoodIn wsX9_found wsX9_finds := goodIn_r _ [20, 21, 16, 22, 23, 24, 25, 26, 6, 27, 28, 29, 30, 31, 32, 33, 34, 35, 36, 37, 38, 39, 40, 41, 42, 43, 44, 45, 46, 47, 48, 49, 50, 51, 52, 53, 54, 55, 56, 57, 58, 59, 60, 61, 62, 63, 64, 65, 66, 67, 68, 69, 70, 71, 72, 73, 74, 75, 76] (by decide +kernel) (by decide +kernel)
set_option maxRecDepth 20000 in
theorem gX9_found_X9_finds : GoodIn wsX9_found (wsV RX9 283 RX9 yX9_finds wsX9_finds) := goodIn_app (goodIn_of _ (by decide +kernel)) ggX9_found_X9_finds
theorem dX9_found_0 : decode cX9_found 0 = .ok (.aload_n 0, 1) := by decide +kernel
theorem dX9_found_1 : decode cX9_found 1 = .ok (.iload_n 1, 1) := by decide +kernel
theorem dX9_found_2 : decode cX9_found 2 = .ok (.invokevirtual 264, 3) := by decide +kernel
theorem dX9_found_5 : decode cX9_found 5 = .ok (.ifCond .eq 31, 3) := by decide +kernel
theorem dX9_found_8 : decode cX9_found 8 = .ok (.aload_n 0, 1) := by decide +kernel
theorem dX9_found_9 : decode cX9_found 9 = .ok (.iload_n 2, 1) := by decide +kernel
theorem dX9_found_10 : decode cX9_found 10 = .ok (.invokevirtual 97, 3) := by decide +kernel
theorem dX9_found_13 : decode cX9_found 13 = .ok (.ifCond .eq 23, 3) := by decide +kernel
theorem dX9_found_16 : decode cX9_found 16 = .ok (.aload_n 0, 1) := by decide +kernel
theorem dX9_found_17 : decode cX9_found 17 = .ok (.aload_n 0, 1) := by decide +kernel
theorem dX9_found_18 : decode cX9_found 18 = .ok (.getfield 26, 3) := by decide +kernel
theorem dX9_found_21 : decode cX9_found 21 = .ok (.iload_n 1, 1) := by decide +kernel
theorem dX9_found_22 : decode cX9_found 22 = .ok (.iaload, 1) := by decide +kernel
theorem dX9_found_23 : decode cX9_found 23 = .ok (.aload_n 0, 1) := by decide +kernel
theorem dX9_found_24 : decode cX9_found 24 = .ok (.getfield 29, 3) := by decide +kernel
theorem dX9_found_27 : decode cX9_found 27 = .ok (.iload_n 1, 1) := by decide +kernel
theorem dX9_found_28 : decode cX9_found 28 = .ok (.iaload, 1) := by decide +kernel
theorem dX9_found_29 : decode cX9_found 29 = .ok (.iload_n 2, 1) := by decide +kernel
theorem dX9_found_30 : decode cX9_found 30 = .ok (.invokevirtual 283, 3) := by decide +kernel
theorem dX9_found_33 : decode cX9_found 33 = .ok (.goto 5, 3) := by decide +kernel
theorem dX9_found_36 : decode cX9_found 36 = .ok (.bipush (-2), 2) := by decide +kernel
theorem dX9_found_38 : decode cX9_found 38 = .ok (.ireturn, 1) := by decide +kernel
set_option maxRecDepth 20000 in
theorem ggX9_run_X9_isPlan : GoodIn wsX9_run wsX9_isPlan := goodIn_r _ [10, 11, 12, 13, 9, 14, 142, 143, 144, 145, 146, 147, 148, 149, 150, 151, 152, 153, 154, 155, 156, 157, 158, 159, 160, 161, 162, 163, 164, 165, 166, 167, 168, 169, 170, 171, 172, 173, 174, 175, 176, 177, 178, 179, 180, 181, 182, 183, 184, 185, 186] (by decide +kernel) (by decide +kernel)
set_option maxRecDepth 20000 in
theorem gX9_run_X9_isPlan : GoodIn wsX9_run (wsV RX9 264 RX9 yX9_isPlan wsX9_isPlan) := goodIn_app (goodIn_of _ (by decide +kernel)) ggX9_run_X9_isPlan
set_option maxRecDepth 20000 in
theorem ggX9_run_X9_in : GoodIn wsX9_run wsX9_in := goodIn_r _ [14] (by decide +kernel) (by decide +kernel)
set_option maxRecDepth 20000 in
theorem gX9_run_X9_in : GoodIn wsX9_run (va_wsS RX9 85 yX9_in wsX9_in) := goodIn_app (goodIn_of _ (by decide +kernel)) ggX9_run_X9_in
set_option maxRecDepth 20000 in
theorem ggX9_run_X9_goHome : GoodIn wsX9_run wsX9_goHome := goodIn_r _ [18, 4, 5, 19, 20, 21, 22, 23, 24, 9, 25, 26, 27, 28, 29, 30, 31, 32, 33, 34, 35, 36, 37, 38, 39, 40, 41, 42, 43, 44, 45, 46, 47, 48, 49, 50, 51, 52, 53, 54, 55, 56, 57, 58, 59, 60, 61, 62, 63, 64, 65, 66, 67, 68, 69, 70, 71, 72, 73, 74, 75, 76, 77, 78, 79, 80, 81, 12, 13, 14, 82, 83, 84, 85, 86, 87, 88, 89, 90, 91, 92, 93, 94, 95, 96, 97, 98, 99, 100, 101, 102, 103, 104, 105, 106, 107, 108, 109, 110, 111, 112, 113, 114, 115, 116, 117, 118, 119, 120, 121, 122, 123, 124, 125, 126, 127, 128, 129, 130, 131, 132, 133, 134, 135, 136, 137, 138, 139, 140, 141, 142, 143, 144, 145, 146, 147, 148, 149, 150, 151, 152, 153, 154, 155, 156, 157, 158, 159, 160, 161, 162, 163, 164, 165, 166, 167, 168, 169, 170, 171, 172, 173, 174, 175, 176, 177, 178, 179, 180, 181, 182, 183, 184, 185, 186] (by decide +kernel) (by decide +kernel)
set_option maxRecDepth 20000 in
theorem gX9_run_X9_goHome : GoodIn wsX9_run (wsV RX9 286 RX9 yX9_goHome wsX9_goHome) := goodIn_app (goodIn_of _ (by decide +kernel)) ggX9_run_X9_goHome
theorem dX9_run_0 : decode cX9_run 0 = .ok (.aload_n 0, 1) := by decide +kernel
theorem dX9_run_1 : decode cX9_run 1 = .ok (.iload_n 1, 1) := by decide +kernel
theorem dX9_run_2 : decode cX9_run 2 = .ok (.invokevirtual 264, 3) := by decide +kernel
theorem dX9_run_5 : decode cX9_run 5 = .ok (.ifCond .eq 15, 3) := by decide +kernel
theorem dX9_run_8 : decode cX9_run 8 = .ok (.iload_n 2, 1) := by decide +kernel
theorem dX9_run_9 : decode cX9_run 9 = .ok (.i2l, 1) := by decide +kernel
theorem dX9_run_10 : decode cX9_run 10 = .ok (.lconst 0, 1) := by decide +kernel
theorem dX9_run_11 : decode cX9_run 11 = .ok (.ldc2_w 117, 3) := by decide +kernel
theorem dX9_run_14 : decode cX9_run 14 = .ok (.invokestatic 85, 3) := by decide +kernel
theorem dX9_run_17 : decode cX9_run 17 = .ok (.ifCond .ne 6, 3) := by decide +kernel
theorem dX9_run_20 : decode cX9_run 20 = .ok (.bipush (-2), 2) := by decide +kernel
theorem dX9_run_22 : decode cX9_run 22 = .ok (.ireturn, 1) := by decide +kernel
theorem dX9_run_23 : decode cX9_run 23 = .ok (.aload_n 0, 1) := by decide +kernel
theorem dX9_run_24 : decode cX9_run 24 = .ok (.aload_n 0, 1) := by decide +kernel
theorem dX9_run_25 : decode cX9_run 25 = .ok (.getfield 26, 3) := by decide +kernel
theorem dX9_run_28 : decode cX9_run 28 = .ok (.iload_n 1, 1) := by decide +kernel
theorem dX9_run_29 : decode cX9_run 29 = .ok (.iaload, 1) := by decide +kernel
theorem dX9_run_30 : decode cX9_run 30 = .ok (.aload_n 0, 1) := by decide +kernel
theorem dX9_run_31 : decode cX9_run 31 = .ok (.getfield 29, 3) := by decide +kernel
theorem dX9_run_34 : decode cX9_run 34 = .ok (.iload_n 1, 1) := by decide +kernel
theorem dX9_run_35 : decode cX9_run 35 = .ok (.iaload, 1) := by decide +kernel
theorem dX9_run_36 : decode cX9_run 36 = .ok (.invokevirtual 286, 3) := by decide +kernel
theorem dX9_run_39 : decode cX9_run 39 = .ok (.istore_n 3, 1) := by decide +kernel
theorem dX9_run_40 : decode cX9_run 40 = .ok (.iload_n 2, 1) := by decide +kernel
theorem dX9_run_41 : decode cX9_run 41 = .ok (.ifCond .ne 10, 3) := by decide +kernel
theorem dX9_run_44 : decode cX9_run 44 = .ok (.aload_n 0, 1) := by decide +kernel
theorem dX9_run_45 : decode cX9_run 45 = .ok (.getfield 277, 3) := by decide +kernel
theorem dX9_run_48 : decode cX9_run 48 = .ok (.goto 16, 3) := by decide +kernel
theorem dX9_run_51 : decode cX9_run 51 = .ok (.iload_n 2, 1) := by decide +kernel
theorem dX9_run_52 : decode cX9_run 52 = .ok (.iconst 1, 1) := by decide +kernel
theorem dX9_run_53 : decode cX9_run 53 = .ok (.if_icmp .ne 10, 3) := by decide +kernel
theorem dX9_run_56 : decode cX9_run 56 = .ok (.aload_n 0, 1) := by decide +kernel
theorem dX9_run_57 : decode cX9_run 57 = .ok (.getfield 280, 3) := by decide +kernel
theorem dX9_run_60 : decode cX9_run 60 = .ok (.goto 4, 3) := by decide +kernel
theorem dX9_run_63 : decode cX9_run 63 = .ok (.iload_n 3, 1) := by decide +kernel
theorem dX9_run_64 : decode cX9_run 64 = .ok (.ireturn, 1) := by decide +kernel
theorem dX9_all_0 : decode cX9_all 0 = .ok (.lconst 1, 1) := by decide +kernel
theorem dX9_all_1 : decode cX9_all 1 = .ok (.lstore_n 1, 1) := by decide +kernel
theorem dX9_all_2 : decode cX9_all 2 = .ok (.iconst 2, 1) := by decide +kernel
theorem dX9_all_3 : decode cX9_all 3 = .ok (.istore_n 3, 1) := by decide +kernel
theorem dX9_all_4 : decode cX9_all 4 = .ok (.iload_n 3, 1) := by decide +kernel
theorem dX9_all_5 : decode cX9_all 5 = .ok (.iload_n 0, 1) := by decide +kernel
theorem dX9_all_6 : decode cX9_all 6 = .ok (.if_icmp .gt 14, 3) := by decide +kernel
theorem dX9_all_9 : decode cX9_all 9 = .ok (.lload_n 1, 1) := by decide +kernel
theorem dX9_all_10 : decode cX9_all 10 = .ok (.iload_n 3, 1) := by decide +kernel
theorem dX9_all_11 : decode cX9_all 11 = .ok (.i2l, 1) := by decide +kernel
theorem dX9_all_12 : decode cX9_all 12 = .ok (.lmul, 1) := by decide +kernel
theorem dX9_all_13 : decode cX9_all 13 = .ok (.lstore_n 1, 1) := by decide +kernel
theorem dX9_all_14 : decode cX9_all 14 = .ok (.iinc 3 1, 3) := by decide +kernel
theorem dX9_all_17 : decode cX9_all 17 = .ok (.goto (-13), 3) := by decide +kernel
theorem dX9_all_20 : decode cX9_all 20 = .ok (.lload_n 1, 1) := by decide +kernel
theorem dX9_all_21 : decode cX9_all 21 = .ok (.lreturn, 1) := by decide +kernel
theorem dX9_closedBy_0 : decode cX9_closedBy 0 = .ok (.aload_n 0, 1) := by decide +kernel
theorem dX9_closedBy_1 : decode cX9_closedBy 1 = .ok (.getfield 32, 3) := by decide +kernel
theorem dX9_closedBy_4 : decode cX9_closedBy 4 = .ok (.iconst 0, 1) := by decide +kernel
theorem dX9_closedBy_5 : decode cX9_closedBy 5 = .ok (.lconst 1, 1) := by decide +kernel
theorem dX9_closedBy_6 : decode cX9_closedBy 6 = .ok (.lastore, 1) := by decide +kernel
theorem dX9_closedBy_7 : decode cX9_closedBy 7 = .ok (.iconst 1, 1) := by decide +kernel
theorem dX9_closedBy_8 : decode cX9_closedBy 8 = .ok (.istore_n 3, 1) := by decide +kernel
theorem dX9_closedBy_9 : decode cX9_closedBy 9 = .ok (.iload_n 3, 1) := by decide +kernel
theorem dX9_closedBy_10 : decode cX9_closedBy 10 = .ok (.iload_n 1, 1) := by decide +kernel
theorem dX9_closedBy_11 : decode cX9_closedBy 11 = .ok (.if_icmp .gt 71, 3) := by decide +kernel
theorem dX9_closedBy_14 : decode cX9_closedBy 14 = .ok (.lconst 1, 1) := by decide +kernel
theorem dX9_closedBy_15 : decode cX9_closedBy 15 = .ok (.lstore 4, 2) := by decide +kernel
theorem dX9_closedBy_17 : decode cX9_closedBy 17 = .ok (.aload_n 0, 1) := by decide +kernel
theorem dX9_closedBy_18 : decode cX9_closedBy 18 = .ok (.getfield 32, 3) := by decide +kernel
theorem dX9_closedBy_21 : decode cX9_closedBy 21 = .ok (.iload_n 3, 1) := by decide +kernel
theorem dX9_closedBy_22 : decode cX9_closedBy 22 = .ok (.lconst 0, 1) := by decide +kernel
theorem dX9_closedBy_23 : decode cX9_closedBy 23 = .ok (.lastore, 1) := by decide +kernel
theorem dX9_closedBy_24 : decode cX9_closedBy 24 = .ok (.iconst 1, 1) := by decide +kernel
theorem dX9_closedBy_25 : decode cX9_closedBy 25 = .ok (.istore 6, 2) := by decide +kernel
theorem dX9_closedBy_27 : decode cX9_closedBy 27 = .ok (.iload 6, 2) := by decide +kernel
theorem dX9_closedBy_29 : decode cX9_closedBy 29 = .ok (.iload_n 2, 1) := by decide +kernel
theorem dX9_closedBy_30 : decode cX9_closedBy 30 = .ok (.if_icmp .gt 46, 3) := by decide +kernel
theorem dX9_closedBy_33 : decode cX9_closedBy 33 = .ok (.iload 6, 2) := by decide +kernel
theorem dX9_closedBy_35 : decode cX9_closedBy 35 = .ok (.iload_n 3, 1) := by decide +kernel
theorem dX9_closedBy_36 : decode cX9_closedBy 36 = .ok (.if_icmp .gt 40, 3) := by decide +kernel
theorem dX9_closedBy_39 : decode cX9_closedBy 39 = .ok (.aload_n 0, 1) := by decide +kernel
theorem dX9_closedBy_40 : decode cX9_closedBy 40 = .ok (.getfield 32, 3) := by decide +kernel
theorem dX9_closedBy_43 : decode cX9_closedBy 43 = .ok (.iload_n 3, 1) := by decide +kernel
theorem dX9_closedBy_44 : decode cX9_closedBy 44 = .ok (.dup2, 1) := by decide +kernel
theorem dX9_closedBy_45 : decode cX9_closedBy 45 = .ok (.laload, 1) := by decide +kernel
theorem dX9_closedBy_46 : decode cX9_closedBy 46 = .ok (.lload 4, 2) := by decide +kernel
theorem dX9_closedBy_48 : decode cX9_closedBy 48 = .ok (.aload_n 0, 1) := by decide +kernel
theorem dX9_closedBy_49 : decode cX9_closedBy 49 = .ok (.getfield 32, 3) := by decide +kernel
theorem dX9_closedBy_52 : decode cX9_closedBy 52 = .ok (.iload_n 3, 1) := by decide +kernel
theorem dX9_closedBy_53 : decode cX9_closedBy 53 = .ok (.iload 6, 2) := by decide +kernel
theorem dX9_closedBy_55 : decode cX9_closedBy 55 = .ok (.isub, 1) := by decide +kernel
theorem dX9_closedBy_56 : decode cX9_closedBy 56 = .ok (.laload, 1) := by decide +kernel
theorem dX9_closedBy_57 : decode cX9_closedBy 57 = .ok (.lmul, 1) := by decide +kernel
theorem dX9_closedBy_58 : decode cX9_closedBy 58 = .ok (.ladd, 1) := by decide +kernel
theorem dX9_closedBy_59 : decode cX9_closedBy 59 = .ok (.lastore, 1) := by decide +kernel
theorem dX9_closedBy_60 : decode cX9_closedBy 60 = .ok (.lload 4, 2) := by decide +kernel
theorem dX9_closedBy_62 : decode cX9_closedBy 62 = .ok (.iload_n 3, 1) := by decide +kernel
theorem dX9_closedBy_63 : decode cX9_closedBy 63 = .ok (.iload 6, 2) := by decide +kernel
theorem dX9_closedBy_65 : decode cX9_closedBy 65 = .ok (.isub, 1) := by decide +kernel
theorem dX9_closedBy_66 : decode cX9_closedBy 66 = .ok (.i2l, 1) := by decide +kernel
theorem dX9_closedBy_67 : decode cX9_closedBy 67 = .ok (.lmul, 1) := by decide +kernel
theorem dX9_closedBy_68 : decode cX9_closedBy 68 = .ok (.lstore 4, 2) := by decide +kernel
theorem dX9_closedBy_70 : decode cX9_closedBy 70 = .ok (.iinc 6 1, 3) := by decide +kernel
theorem dX9_closedBy_73 : decode cX9_closedBy 73 = .ok (.goto (-46), 3) := by decide +kernel
theorem dX9_closedBy_76 : decode cX9_closedBy 76 = .ok (.iinc 3 1, 3) := by decide +kernel
theorem dX9_closedBy_79 : decode cX9_closedBy 79 = .ok (.goto (-70), 3) := by decide +kernel
theorem dX9_closedBy_82 : decode cX9_closedBy 82 = .ok (.aload_n 0, 1) := by decide +kernel
theorem dX9_closedBy_83 : decode cX9_closedBy 83 = .ok (.getfield 32, 3) := by decide +kernel
theorem dX9_closedBy_86 : decode cX9_closedBy 86 = .ok (.iload_n 1, 1) := by decide +kernel
theorem dX9_closedBy_87 : decode cX9_closedBy 87 = .ok (.laload, 1) := by decide +kernel
theorem dX9_closedBy_88 : decode cX9_closedBy 88 = .ok (.lreturn, 1) := by decide +kernel
set_option maxRecDepth 20000 in
theorem ggX9_closed_X9_in : GoodIn wsX9_closed wsX9_in := goodIn_r _ [6] (by decide +kernel) (by decide +kernel)
set_option maxRecDepth 20000 in
theorem gX9_closed_X9_in : GoodIn wsX9_closed (va_wsS RX9 85 yX9_in wsX9_in) := goodIn_app (goodIn_of _ (by decide +kernel)) ggX9_closed_X9_in
set_option maxRecDepth 20000 in
theorem ggX9_closed_X9_closedBy : GoodIn wsX9_closed wsX9_closedBy := goodIn_r _ [10, 11, 12, 13, 14, 15, 16, 17, 18, 19, 20, 21, 22, 23, 24, 25, 26, 27, 28, 29, 30, 31, 32, 33, 34, 35, 36, 37, 38, 39, 40, 41, 42, 43, 44, 45, 46, 47, 48, 49, 50, 51, 52, 53, 54, 55, 56] (by decide +kernel) (by decide +kernel)
set_option maxRecDepth 20000 in
theorem gX9_closed_X9_closedBy : GoodIn wsX9_closed (wsV RX9 290 RX9 yX9_closedBy wsX9_closedBy) := goodIn_app (goodIn_of _ (by decide +kernel)) ggX9_closed_X9_closedBy
theorem dX9_closed_0 : decode cX9_closed 0 = .ok (.iload_n 1, 1) := by decide +kernel
theorem dX9_closed_1 : decode cX9_closed 1 = .ok (.i2l, 1) := by decide +kernel
theorem dX9_closed_2 : decode cX9_closed 2 = .ok (.lconst 1, 1) := by decide +kernel
theorem dX9_closed_3 : decode cX9_closed 3 = .ok (.ldc2_w 89, 3) := by decide +kernel
theorem dX9_closed_6 : decode cX9_closed 6 = .ok (.invokestatic 85, 3) := by decide +kernel
theorem dX9_closed_9 : decode cX9_closed 9 = .ok (.ifCond .eq 24, 3) := by decide +kernel
theorem dX9_closed_12 : decode cX9_closed 12 = .ok (.iload_n 2, 1) := by decide +kernel
theorem dX9_closed_13 : decode cX9_closed 13 = .ok (.i2l, 1) := by decide +kernel
theorem dX9_closed_14 : decode cX9_closed 14 = .ok (.lconst 0, 1) := by decide +kernel
theorem dX9_closed_15 : decode cX9_closed 15 = .ok (.ldc2_w 89, 3) := by decide +kernel
theorem dX9_closed_18 : decode cX9_closed 18 = .ok (.invokestatic 85, 3) := by decide +kernel
theorem dX9_closed_21 : decode cX9_closed 21 = .ok (.ifCond .eq 12, 3) := by decide +kernel
theorem dX9_closed_24 : decode cX9_closed 24 = .ok (.aload_n 0, 1) := by decide +kernel
theorem dX9_closed_25 : decode cX9_closed 25 = .ok (.iload_n 1, 1) := by decide +kernel
theorem dX9_closed_26 : decode cX9_closed 26 = .ok (.iload_n 2, 1) := by decide +kernel
theorem dX9_closed_27 : decode cX9_closed 27 = .ok (.invokevirtual 290, 3) := by decide +kernel
theorem dX9_closed_30 : decode cX9_closed 30 = .ok (.goto 6, 3) := by decide +kernel
theorem dX9_closed_33 : decode cX9_closed 33 = .ok (.ldc2_w 294, 3) := by decide +kernel
theorem dX9_closed_36 : decode cX9_closed 36 = .ok (.lreturn, 1) := by decide +kernel
theorem dX9_putsAside_0 : decode cX9_putsAside 0 = .ok (.iconst 0, 1) := by decide +kernel
theorem dX9_putsAside_1 : decode cX9_putsAside 1 = .ok (.istore_n 1, 1) := by decide +kernel
theorem dX9_putsAside_2 : decode cX9_putsAside 2 = .ok (.iload_n 1, 1) := by decide +kernel
theorem dX9_putsAside_3 : decode cX9_putsAside 3 = .ok (.bipush 12, 2) := by decide +kernel
theorem dX9_putsAside_5 : decode cX9_putsAside 5 = .ok (.if_icmp .ge 28, 3) := by decide +kernel
theorem dX9_putsAside_8 : decode cX9_putsAside 8 = .ok (.aload_n 0, 1) := by decide +kernel
theorem dX9_putsAside_9 : decode cX9_putsAside 9 = .ok (.getfield 36, 3) := by decide +kernel
theorem dX9_putsAside_12 : decode cX9_putsAside 12 = .ok (.iload_n 1, 1) := by decide +kernel
theorem dX9_putsAside_13 : decode cX9_putsAside 13 = .ok (.aload_n 0, 1) := by decide +kernel
theorem dX9_putsAside_14 : decode cX9_putsAside 14 = .ok (.getfield 23, 3) := by decide +kernel
theorem dX9_putsAside_17 : decode cX9_putsAside 17 = .ok (.iload_n 1, 1) := by decide +kernel
theorem dX9_putsAside_18 : decode cX9_putsAside 18 = .ok (.iaload, 1) := by decide +kernel
theorem dX9_putsAside_19 : decode cX9_putsAside 19 = .ok (.iastore, 1) := by decide +kernel
theorem dX9_putsAside_20 : decode cX9_putsAside 20 = .ok (.aload_n 0, 1) := by decide +kernel
theorem dX9_putsAside_21 : decode cX9_putsAside 21 = .ok (.getfield 23, 3) := by decide +kernel
theorem dX9_putsAside_24 : decode cX9_putsAside 24 = .ok (.iload_n 1, 1) := by decide +kernel
theorem dX9_putsAside_25 : decode cX9_putsAside 25 = .ok (.iload_n 1, 1) := by decide +kernel
theorem dX9_putsAside_26 : decode cX9_putsAside 26 = .ok (.iastore, 1) := by decide +kernel
theorem dX9_putsAside_27 : decode cX9_putsAside 27 = .ok (.iinc 1 1, 3) := by decide +kernel
theorem dX9_putsAside_30 : decode cX9_putsAside 30 = .ok (.goto (-28), 3) := by decide +kernel
theorem dX9_putsAside_33 : decode cX9_putsAside 33 = .ok (.return_, 1) := by decide +kernel
theorem dX9_laysBack_0 : decode cX9_laysBack 0 = .ok (.iconst 0, 1) := by decide +kernel
theorem dX9_laysBack_1 : decode cX9_laysBack 1 = .ok (.istore_n 1, 1) := by decide +kernel
theorem dX9_laysBack_2 : decode cX9_laysBack 2 = .ok (.iload_n 1, 1) := by decide +kernel
theorem dX9_laysBack_3 : decode cX9_laysBack 3 = .ok (.bipush 12, 2) := by decide +kernel
theorem dX9_laysBack_5 : decode cX9_laysBack 5 = .ok (.if_icmp .ge 21, 3) := by decide +kernel
theorem dX9_laysBack_8 : decode cX9_laysBack 8 = .ok (.aload_n 0, 1) := by decide +kernel
theorem dX9_laysBack_9 : decode cX9_laysBack 9 = .ok (.getfield 23, 3) := by decide +kernel
theorem dX9_laysBack_12 : decode cX9_laysBack 12 = .ok (.iload_n 1, 1) := by decide +kernel
theorem dX9_laysBack_13 : decode cX9_laysBack 13 = .ok (.aload_n 0, 1) := by decide +kernel
theorem dX9_laysBack_14 : decode cX9_laysBack 14 = .ok (.getfield 36, 3) := by decide +kernel
theorem dX9_laysBack_17 : decode cX9_laysBack 17 = .ok (.iload_n 1, 1) := by decide +kernel
theorem dX9_laysBack_18 : decode cX9_laysBack 18 = .ok (.iaload, 1) := by decide +kernel
theorem dX9_laysBack_19 : decode cX9_laysBack 19 = .ok (.iastore, 1) := by decide +kernel
theorem dX9_laysBack_20 : decode cX9_laysBack 20 = .ok (.iinc 1 1, 3) := by decide +kernel
theorem dX9_laysBack_23 : decode cX9_laysBack 23 = .ok (.goto (-21), 3) := by decide +kernel
theorem dX9_laysBack_26 : decode cX9_laysBack 26 = .ok (.return_, 1) := by decide +kernel
set_option maxRecDepth 20000 in
theorem ggX9_goesOn_X9_changes : GoodIn wsX9_goesOn wsX9_changes := goodIn_r _ [7, 2, 8, 9, 10, 11, 12, 13, 14, 15, 16, 17, 18, 19, 20, 21, 22, 23, 24, 25, 26, 27, 28, 29, 30, 31, 32, 33, 34, 35, 36, 37, 38, 39, 40, 41, 42, 43, 44, 45, 46, 47, 48, 49, 50, 51, 52] (by decide +kernel) (by decide +kernel)
set_option maxRecDepth 20000 in
theorem gX9_goesOn_X9_changes : GoodIn wsX9_goesOn (wsV RX9 100 RX9 yX9_changes wsX9_changes) := goodIn_app (goodIn_of _ (by decide +kernel)) ggX9_goesOn_X9_changes
theorem dX9_goesOn_0 : decode cX9_goesOn 0 = .ok (.aload_n 0, 1) := by decide +kernel
theorem dX9_goesOn_1 : decode cX9_goesOn 1 = .ok (.getfield 74, 3) := by decide +kernel
theorem dX9_goesOn_4 : decode cX9_goesOn 4 = .ok (.iconst 2, 1) := by decide +kernel
theorem dX9_goesOn_5 : decode cX9_goesOn 5 = .ok (.isub, 1) := by decide +kernel
theorem dX9_goesOn_6 : decode cX9_goesOn 6 = .ok (.istore_n 1, 1) := by decide +kernel
theorem dX9_goesOn_7 : decode cX9_goesOn 7 = .ok (.iload_n 1, 1) := by decide +kernel
theorem dX9_goesOn_8 : decode cX9_goesOn 8 = .ok (.ifCond .lt 26, 3) := by decide +kernel
theorem dX9_goesOn_11 : decode cX9_goesOn 11 = .ok (.aload_n 0, 1) := by decide +kernel
theorem dX9_goesOn_12 : decode cX9_goesOn 12 = .ok (.getfield 23, 3) := by decide +kernel
theorem dX9_goesOn_15 : decode cX9_goesOn 15 = .ok (.iload_n 1, 1) := by decide +kernel
theorem dX9_goesOn_16 : decode cX9_goesOn 16 = .ok (.iaload, 1) := by decide +kernel
theorem dX9_goesOn_17 : decode cX9_goesOn 17 = .ok (.aload_n 0, 1) := by decide +kernel
theorem dX9_goesOn_18 : decode cX9_goesOn 18 = .ok (.getfield 23, 3) := by decide +kernel
theorem dX9_goesOn_21 : decode cX9_goesOn 21 = .ok (.iload_n 1, 1) := by decide +kernel
theorem dX9_goesOn_22 : decode cX9_goesOn 22 = .ok (.iconst 1, 1) := by decide +kernel
theorem dX9_goesOn_23 : decode cX9_goesOn 23 = .ok (.iadd, 1) := by decide +kernel
theorem dX9_goesOn_24 : decode cX9_goesOn 24 = .ok (.iaload, 1) := by decide +kernel
theorem dX9_goesOn_25 : decode cX9_goesOn 25 = .ok (.if_icmp .le 9, 3) := by decide +kernel
theorem dX9_goesOn_28 : decode cX9_goesOn 28 = .ok (.iinc 1 (-1), 3) := by decide +kernel
theorem dX9_goesOn_31 : decode cX9_goesOn 31 = .ok (.goto (-24), 3) := by decide +kernel
theorem dX9_goesOn_34 : decode cX9_goesOn 34 = .ok (.iload_n 1, 1) := by decide +kernel
theorem dX9_goesOn_35 : decode cX9_goesOn 35 = .ok (.ifCond .ge 5, 3) := by decide +kernel
theorem dX9_goesOn_38 : decode cX9_goesOn 38 = .ok (.iconst 0, 1) := by decide +kernel
theorem dX9_goesOn_39 : decode cX9_goesOn 39 = .ok (.ireturn, 1) := by decide +kernel
theorem dX9_goesOn_40 : decode cX9_goesOn 40 = .ok (.aload_n 0, 1) := by decide +kernel
theorem dX9_goesOn_41 : decode cX9_goesOn 41 = .ok (.getfield 74, 3) := by decide +kernel
theorem dX9_goesOn_44 : decode cX9_goesOn 44 = .ok (.iconst 1, 1) := by decide +kernel
theorem dX9_goesOn_45 : decode cX9_goesOn 45 = .ok (.isub, 1) := by decide +kernel
theorem dX9_goesOn_46 : decode cX9_goesOn 46 = .ok (.istore_n 2, 1) := by decide +kernel
theorem dX9_goesOn_47 : decode cX9_goesOn 47 = .ok (.aload_n 0, 1) := by decide +kernel
theorem dX9_goesOn_48 : decode cX9_goesOn 48 = .ok (.getfield 23, 3) := by decide +kernel
theorem dX9_goesOn_51 : decode cX9_goesOn 51 = .ok (.iload_n 2, 1) := by decide +kernel
theorem dX9_goesOn_52 : decode cX9_goesOn 52 = .ok (.iaload, 1) := by decide +kernel
theorem dX9_goesOn_53 : decode cX9_goesOn 53 = .ok (.aload_n 0, 1) := by decide +kernel
theorem dX9_goesOn_54 : decode cX9_goesOn 54 = .ok (.getfield 23, 3) := by decide +kernel
theorem dX9_goesOn_57 : decode cX9_goesOn 57 = .ok (.iload_n 1, 1) := by decide +kernel
theorem dX9_goesOn_58 : decode cX9_goesOn 58 = .ok (.iaload, 1) := by decide +kernel
theorem dX9_goesOn_59 : decode cX9_goesOn 59 = .ok (.if_icmp .ge 9, 3) := by decide +kernel
theorem dX9_goesOn_62 : decode cX9_goesOn 62 = .ok (.iinc 2 (-1), 3) := by decide +kernel
theorem dX9_goesOn_65 : decode cX9_goesOn 65 = .ok (.goto (-18), 3) := by decide +kernel
theorem dX9_goesOn_68 : decode cX9_goesOn 68 = .ok (.aload_n 0, 1) := by decide +kernel
theorem dX9_goesOn_69 : decode cX9_goesOn 69 = .ok (.iload_n 1, 1) := by decide +kernel
theorem dX9_goesOn_70 : decode cX9_goesOn 70 = .ok (.iload_n 2, 1) := by decide +kernel
theorem dX9_goesOn_71 : decode cX9_goesOn 71 = .ok (.invokevirtual 100, 3) := by decide +kernel
theorem dX9_goesOn_74 : decode cX9_goesOn 74 = .ok (.iload_n 1, 1) := by decide +kernel
theorem dX9_goesOn_75 : decode cX9_goesOn 75 = .ok (.iconst 1, 1) := by decide +kernel
theorem dX9_goesOn_76 : decode cX9_goesOn 76 = .ok (.iadd, 1) := by decide +kernel
theorem dX9_goesOn_77 : decode cX9_goesOn 77 = .ok (.istore_n 3, 1) := by decide +kernel
theorem dX9_goesOn_78 : decode cX9_goesOn 78 = .ok (.aload_n 0, 1) := by decide +kernel
theorem dX9_goesOn_79 : decode cX9_goesOn 79 = .ok (.getfield 74, 3) := by decide +kernel
theorem dX9_goesOn_82 : decode cX9_goesOn 82 = .ok (.iconst 1, 1) := by decide +kernel
theorem dX9_goesOn_83 : decode cX9_goesOn 83 = .ok (.isub, 1) := by decide +kernel
theorem dX9_goesOn_84 : decode cX9_goesOn 84 = .ok (.istore 4, 2) := by decide +kernel
theorem dX9_goesOn_86 : decode cX9_goesOn 86 = .ok (.iload_n 3, 1) := by decide +kernel
theorem dX9_goesOn_87 : decode cX9_goesOn 87 = .ok (.iload 4, 2) := by decide +kernel
theorem dX9_goesOn_89 : decode cX9_goesOn 89 = .ok (.if_icmp .ge 19, 3) := by decide +kernel
theorem dX9_goesOn_92 : decode cX9_goesOn 92 = .ok (.aload_n 0, 1) := by decide +kernel
theorem dX9_goesOn_93 : decode cX9_goesOn 93 = .ok (.iload_n 3, 1) := by decide +kernel
theorem dX9_goesOn_94 : decode cX9_goesOn 94 = .ok (.iload 4, 2) := by decide +kernel
theorem dX9_goesOn_96 : decode cX9_goesOn 96 = .ok (.invokevirtual 100, 3) := by decide +kernel
theorem dX9_goesOn_99 : decode cX9_goesOn 99 = .ok (.iinc 3 1, 3) := by decide +kernel
theorem dX9_goesOn_102 : decode cX9_goesOn 102 = .ok (.iinc 4 (-1), 3) := by decide +kernel
theorem dX9_goesOn_105 : decode cX9_goesOn 105 = .ok (.goto (-19), 3) := by decide +kernel
theorem dX9_goesOn_108 : decode cX9_goesOn 108 = .ok (.iconst 1, 1) := by decide +kernel
theorem dX9_goesOn_109 : decode cX9_goesOn 109 = .ok (.ireturn, 1) := by decide +kernel
theorem dX9_digits_0 : decode cX9_digits 0 = .ok (.iconst 0, 1) := by decide +kernel
theorem dX9_digits_1 : decode cX9_digits 1 = .ok (.istore_n 1, 1) := by decide +kernel
theorem dX9_digits_2 : decode cX9_digits 2 = .ok (.iconst 0, 1) := by decide +kernel
theorem dX9_digits_3 : decode cX9_digits 3 = .ok (.istore_n 2, 1) := by decide +kernel
theorem dX9_digits_4 : decode cX9_digits 4 = .ok (.iload_n 2, 1) := by decide +kernel
theorem dX9_digits_5 : decode cX9_digits 5 = .ok (.aload_n 0, 1) := by decide +kernel
theorem dX9_digits_6 : decode cX9_digits 6 = .ok (.getfield 74, 3) := by decide +kernel
theorem dX9_digits_9 : decode cX9_digits 9 = .ok (.if_icmp .ge 23, 3) := by decide +kernel
theorem dX9_digits_12 : decode cX9_digits 12 = .ok (.bipush 10, 2) := by decide +kernel
theorem dX9_digits_14 : decode cX9_digits 14 = .ok (.iload_n 1, 1) := by decide +kernel
theorem dX9_digits_15 : decode cX9_digits 15 = .ok (.imul, 1) := by decide +kernel
theorem dX9_digits_16 : decode cX9_digits 16 = .ok (.aload_n 0, 1) := by decide +kernel
theorem dX9_digits_17 : decode cX9_digits 17 = .ok (.getfield 23, 3) := by decide +kernel
theorem dX9_digits_20 : decode cX9_digits 20 = .ok (.iload_n 2, 1) := by decide +kernel
theorem dX9_digits_21 : decode cX9_digits 21 = .ok (.iaload, 1) := by decide +kernel
theorem dX9_digits_22 : decode cX9_digits 22 = .ok (.iadd, 1) := by decide +kernel
theorem dX9_digits_23 : decode cX9_digits 23 = .ok (.iconst 1, 1) := by decide +kernel
theorem dX9_digits_24 : decode cX9_digits 24 = .ok (.iadd, 1) := by decide +kernel
theorem dX9_digits_25 : decode cX9_digits 25 = .ok (.istore_n 1, 1) := by decide +kernel
theorem dX9_digits_26 : decode cX9_digits 26 = .ok (.iinc 2 1, 3) := by decide +kernel
theorem dX9_digits_29 : decode cX9_digits 29 = .ok (.goto (-25), 3) := by decide +kernel
theorem dX9_digits_32 : decode cX9_digits 32 = .ok (.iload_n 1, 1) := by decide +kernel
theorem dX9_digits_33 : decode cX9_digits 33 = .ok (.ireturn, 1) := by decide +kernel
set_option maxRecDepth 20000 in
theorem ggX9_goesAll_X9_putsAside : GoodIn wsX9_goesAll wsX9_putsAside := goodIn_r _ [10, 11, 12, 159, 160, 161, 162, 163, 164, 165, 166, 167, 168, 169, 170, 171, 172, 173, 174, 175, 176, 177, 178, 179, 180, 181, 182, 183, 184, 185, 186, 187, 188, 189, 190, 191, 192, 193, 194, 195, 196, 197, 198, 199, 200, 201, 202, 203] (by decide +kernel) (by decide +kernel)
set_option maxRecDepth 20000 in
theorem gX9_goesAll_X9_putsAside : GoodIn wsX9_goesAll (wsV RX9 296 RX9 yX9_putsAside wsX9_putsAside) := goodIn_app (goodIn_of _ (by decide +kernel)) ggX9_goesAll_X9_putsAside
set_option maxRecDepth 20000 in
theorem ggX9_goesAll_X9_goHome : GoodIn wsX9_goesAll wsX9_goHome := goodIn_r _ [16, 17, 18, 4, 19, 20, 21, 22, 23, 9, 24, 25, 12, 26, 27, 28, 29, 30, 31, 32, 33, 34, 35, 36, 37, 38, 39, 40, 41, 42, 43, 44, 45, 46, 47, 48, 49, 50, 51, 52, 53, 54, 55, 56, 57, 58, 59, 60, 61, 62, 63, 64, 65, 66, 67, 68, 69, 70, 71, 72, 73, 74, 75, 76, 77, 78, 79, 80, 81, 82, 83, 84, 85, 86, 87, 88, 89, 90, 91, 92, 93, 94, 95, 96, 97, 98, 99, 100, 101, 102, 103, 104, 105, 106, 107, 108, 109, 110, 111, 112, 113, 114, 115, 116, 117, 118, 119, 120, 121, 122, 123, 124, 125, 126, 127, 128, 129, 130, 131, 132, 133, 134, 135, 136, 137, 138, 139, 140, 141, 142, 159, 160, 161, 162, 163, 164, 165, 166, 167, 168, 169, 170, 171, 172, 173, 174, 175, 176, 177, 178, 179, 180, 181, 182, 183, 184, 185, 186, 187, 188, 189, 190, 191, 192, 193, 194, 195, 196, 197, 198, 199, 200, 201, 202, 203] (by decide +kernel) (by decide +kernel)
set_option maxRecDepth 20000 in
theorem gX9_goesAll_X9_goHome : GoodIn wsX9_goesAll (wsV RX9 286 RX9 yX9_goHome wsX9_goHome) := goodIn_app (goodIn_of _ (by decide +kernel)) ggX9_goesAll_X9_goHome
set_option maxRecDepth 20000 in
theorem ggX9_goesAll_X9_digits : GoodIn wsX9_goesAll wsX9_digits := goodIn_r _ [146, 4, 12, 159, 160, 161, 162, 163, 164, 165, 166, 167, 168, 169, 170, 171, 172, 173, 174, 175, 176, 177, 178, 179, 180, 181, 182, 183, 184, 185, 186, 187, 188, 189, 190, 191, 192, 193, 194, 195, 196, 197, 198, 199, 200, 201, 202, 203] (by decide +kernel) (by decide +kernel)
set_option maxRecDepth 20000 in
theorem gX9_goesAll_X9_digits : GoodIn wsX9_goesAll (wsV RX9 308 RX9 yX9_digits wsX9_digits) := goodIn_app (goodIn_of _ (by decide +kernel)) ggX9_goesAll_X9_digits
set_option maxRecDepth 20000 in
theorem ggX9_goesAll_X9_goesOn : GoodIn wsX9_goesAll wsX9_goesOn := goodIn_r _ [150, 4, 12, 151, 152, 153, 9, 154, 159, 160, 161, 162, 163, 164, 165, 166, 167, 168, 169, 170, 171, 172, 173, 174, 175, 176, 177, 178, 179, 180, 181, 182, 183, 184, 185, 186, 187, 188, 189, 190, 191, 192, 193, 194, 195, 196, 197, 198, 199, 200, 201, 202, 203] (by decide +kernel) (by decide +kernel)
set_option maxRecDepth 20000 in
theorem gX9_goesAll_X9_goesOn : GoodIn wsX9_goesAll (wsV RX9 314 RX9 yX9_goesOn wsX9_goesOn) := goodIn_app (goodIn_of _ (by decide +kernel)) ggX9_goesAll_X9_goesOn
set_option maxRecDepth 20000 in
theorem ggX9_goesAll_X9_laysBack : GoodIn wsX9_goesAll wsX9_laysBack := goodIn_r _ [158, 12, 11, 159, 160, 161, 162, 163, 164, 165, 166, 167, 168, 169, 170, 171, 172, 173, 174, 175, 176, 177, 178, 179, 180, 181, 182, 183, 184, 185, 186, 187, 188, 189, 190, 191, 192, 193, 194, 195, 196, 197, 198, 199, 200, 201, 202, 203] (by decide +kernel) (by decide +kernel)
set_option maxRecDepth 20000 in
theorem gX9_goesAll_X9_laysBack : GoodIn wsX9_goesAll (wsV RX9 317 RX9 yX9_laysBack wsX9_laysBack) := goodIn_app (goodIn_of _ (by decide +kernel)) ggX9_goesAll_X9_laysBack
theorem dX9_goesAll_0 : decode cX9_goesAll 0 = .ok (.aload_n 0, 1) := by decide +kernel
theorem dX9_goesAll_1 : decode cX9_goesAll 1 = .ok (.invokevirtual 296, 3) := by decide +kernel
theorem dX9_goesAll_4 : decode cX9_goesAll 4 = .ok (.aload_n 0, 1) := by decide +kernel
theorem dX9_goesAll_5 : decode cX9_goesAll 5 = .ok (.lconst 0, 1) := by decide +kernel
theorem dX9_goesAll_6 : decode cX9_goesAll 6 = .ok (.putfield 299, 3) := by decide +kernel
theorem dX9_goesAll_9 : decode cX9_goesAll 9 = .ok (.aload_n 0, 1) := by decide +kernel
theorem dX9_goesAll_10 : decode cX9_goesAll 10 = .ok (.lconst 0, 1) := by decide +kernel
theorem dX9_goesAll_11 : decode cX9_goesAll 11 = .ok (.putfield 302, 3) := by decide +kernel
theorem dX9_goesAll_14 : decode cX9_goesAll 14 = .ok (.aload_n 0, 1) := by decide +kernel
theorem dX9_goesAll_15 : decode cX9_goesAll 15 = .ok (.iconst (-1), 1) := by decide +kernel
theorem dX9_goesAll_16 : decode cX9_goesAll 16 = .ok (.putfield 305, 3) := by decide +kernel
theorem dX9_goesAll_19 : decode cX9_goesAll 19 = .ok (.iconst 1, 1) := by decide +kernel
theorem dX9_goesAll_20 : decode cX9_goesAll 20 = .ok (.istore_n 3, 1) := by decide +kernel
theorem dX9_goesAll_21 : decode cX9_goesAll 21 = .ok (.iload_n 3, 1) := by decide +kernel
theorem dX9_goesAll_22 : decode cX9_goesAll 22 = .ok (.ifCond .eq 85, 3) := by decide +kernel
theorem dX9_goesAll_25 : decode cX9_goesAll 25 = .ok (.aload_n 0, 1) := by decide +kernel
theorem dX9_goesAll_26 : decode cX9_goesAll 26 = .ok (.iload_n 1, 1) := by decide +kernel
theorem dX9_goesAll_27 : decode cX9_goesAll 27 = .ok (.iload_n 2, 1) := by decide +kernel
theorem dX9_goesAll_28 : decode cX9_goesAll 28 = .ok (.invokevirtual 286, 3) := by decide +kernel
theorem dX9_goesAll_31 : decode cX9_goesAll 31 = .ok (.istore 4, 2) := by decide +kernel
theorem dX9_goesAll_33 : decode cX9_goesAll 33 = .ok (.aload_n 0, 1) := by decide +kernel
theorem dX9_goesAll_34 : decode cX9_goesAll 34 = .ok (.dup, 1) := by decide +kernel
theorem dX9_goesAll_35 : decode cX9_goesAll 35 = .ok (.getfield 299, 3) := by decide +kernel
theorem dX9_goesAll_38 : decode cX9_goesAll 38 = .ok (.iload 4, 2) := by decide +kernel
theorem dX9_goesAll_40 : decode cX9_goesAll 40 = .ok (.aload_n 0, 1) := by decide +kernel
theorem dX9_goesAll_41 : decode cX9_goesAll 41 = .ok (.getfield 74, 3) := by decide +kernel
theorem dX9_goesAll_44 : decode cX9_goesAll 44 = .ok (.if_icmp .ne 7, 3) := by decide +kernel
theorem dX9_goesAll_47 : decode cX9_goesAll 47 = .ok (.lconst 1, 1) := by decide +kernel
theorem dX9_goesAll_48 : decode cX9_goesAll 48 = .ok (.goto 4, 3) := by decide +kernel
theorem dX9_goesAll_51 : decode cX9_goesAll 51 = .ok (.lconst 0, 1) := by decide +kernel
theorem dX9_goesAll_52 : decode cX9_goesAll 52 = .ok (.ladd, 1) := by decide +kernel
theorem dX9_goesAll_53 : decode cX9_goesAll 53 = .ok (.putfield 299, 3) := by decide +kernel
theorem dX9_goesAll_56 : decode cX9_goesAll 56 = .ok (.aload_n 0, 1) := by decide +kernel
theorem dX9_goesAll_57 : decode cX9_goesAll 57 = .ok (.dup, 1) := by decide +kernel
theorem dX9_goesAll_58 : decode cX9_goesAll 58 = .ok (.getfield 302, 3) := by decide +kernel
theorem dX9_goesAll_61 : decode cX9_goesAll 61 = .ok (.iload 4, 2) := by decide +kernel
theorem dX9_goesAll_63 : decode cX9_goesAll 63 = .ok (.i2l, 1) := by decide +kernel
theorem dX9_goesAll_64 : decode cX9_goesAll 64 = .ok (.ladd, 1) := by decide +kernel
theorem dX9_goesAll_65 : decode cX9_goesAll 65 = .ok (.putfield 302, 3) := by decide +kernel
theorem dX9_goesAll_68 : decode cX9_goesAll 68 = .ok (.aload_n 0, 1) := by decide +kernel
theorem dX9_goesAll_69 : decode cX9_goesAll 69 = .ok (.getfield 305, 3) := by decide +kernel
theorem dX9_goesAll_72 : decode cX9_goesAll 72 = .ok (.iconst (-1), 1) := by decide +kernel
theorem dX9_goesAll_73 : decode cX9_goesAll 73 = .ok (.if_icmp .eq 12, 3) := by decide +kernel
theorem dX9_goesAll_76 : decode cX9_goesAll 76 = .ok (.iload 4, 2) := by decide +kernel
theorem dX9_goesAll_78 : decode cX9_goesAll 78 = .ok (.aload_n 0, 1) := by decide +kernel
theorem dX9_goesAll_79 : decode cX9_goesAll 79 = .ok (.getfield 305, 3) := by decide +kernel
theorem dX9_goesAll_82 : decode cX9_goesAll 82 = .ok (.if_icmp .ge 17, 3) := by decide +kernel
theorem dX9_goesAll_85 : decode cX9_goesAll 85 = .ok (.aload_n 0, 1) := by decide +kernel
theorem dX9_goesAll_86 : decode cX9_goesAll 86 = .ok (.iload 4, 2) := by decide +kernel
theorem dX9_goesAll_88 : decode cX9_goesAll 88 = .ok (.putfield 305, 3) := by decide +kernel
theorem dX9_goesAll_91 : decode cX9_goesAll 91 = .ok (.aload_n 0, 1) := by decide +kernel
theorem dX9_goesAll_92 : decode cX9_goesAll 92 = .ok (.aload_n 0, 1) := by decide +kernel
theorem dX9_goesAll_93 : decode cX9_goesAll 93 = .ok (.invokevirtual 308, 3) := by decide +kernel
theorem dX9_goesAll_96 : decode cX9_goesAll 96 = .ok (.putfield 311, 3) := by decide +kernel
theorem dX9_goesAll_99 : decode cX9_goesAll 99 = .ok (.aload_n 0, 1) := by decide +kernel
theorem dX9_goesAll_100 : decode cX9_goesAll 100 = .ok (.invokevirtual 314, 3) := by decide +kernel
theorem dX9_goesAll_103 : decode cX9_goesAll 103 = .ok (.istore_n 3, 1) := by decide +kernel
theorem dX9_goesAll_104 : decode cX9_goesAll 104 = .ok (.goto (-83), 3) := by decide +kernel
theorem dX9_goesAll_107 : decode cX9_goesAll 107 = .ok (.aload_n 0, 1) := by decide +kernel
theorem dX9_goesAll_108 : decode cX9_goesAll 108 = .ok (.invokevirtual 317, 3) := by decide +kernel
theorem dX9_goesAll_111 : decode cX9_goesAll 111 = .ok (.return_, 1) := by decide +kernel
theorem dX9_isFew_0 : decode cX9_isFew 0 = .ok (.aload_n 0, 1) := by decide +kernel
theorem dX9_isFew_1 : decode cX9_isFew 1 = .ok (.getfield 74, 3) := by decide +kernel
theorem dX9_isFew_4 : decode cX9_isFew 4 = .ok (.bipush 7, 2) := by decide +kernel
theorem dX9_isFew_6 : decode cX9_isFew 6 = .ok (.if_icmp .gt 7, 3) := by decide +kernel
theorem dX9_isFew_9 : decode cX9_isFew 9 = .ok (.iconst 1, 1) := by decide +kernel
theorem dX9_isFew_10 : decode cX9_isFew 10 = .ok (.goto 4, 3) := by decide +kernel
theorem dX9_isFew_13 : decode cX9_isFew 13 = .ok (.iconst 0, 1) := by decide +kernel
theorem dX9_isFew_14 : decode cX9_isFew 14 = .ok (.ireturn, 1) := by decide +kernel
set_option maxRecDepth 20000 in
theorem ggX9_wins_X9_isPlan : GoodIn wsX9_wins wsX9_isPlan := goodIn_r _ [10, 11, 12, 13, 9, 14, 178, 179, 180, 181, 182, 183, 184, 185, 186, 187, 188, 189, 190, 191, 192, 193, 194, 195, 196, 197, 198, 199, 200, 201, 202, 203, 204, 205, 206, 207, 208, 209, 210, 211, 212, 213, 214, 215, 216, 217, 218, 219, 220, 221, 222] (by decide +kernel) (by decide +kernel)
set_option maxRecDepth 20000 in
theorem gX9_wins_X9_isPlan : GoodIn wsX9_wins (wsV RX9 264 RX9 yX9_isPlan wsX9_isPlan) := goodIn_app (goodIn_of _ (by decide +kernel)) ggX9_wins_X9_isPlan
set_option maxRecDepth 20000 in
theorem ggX9_wins_X9_in : GoodIn wsX9_wins wsX9_in := goodIn_r _ [14] (by decide +kernel) (by decide +kernel)
set_option maxRecDepth 20000 in
theorem gX9_wins_X9_in : GoodIn wsX9_wins (va_wsS RX9 85 yX9_in wsX9_in) := goodIn_app (goodIn_of _ (by decide +kernel)) ggX9_wins_X9_in
set_option maxRecDepth 20000 in
theorem ggX9_wins_X9_isFew : GoodIn wsX9_wins wsX9_isFew := goodIn_r _ [18, 2, 178, 179, 180, 181, 182, 183, 184, 185, 186, 187, 188, 189, 190, 191, 192, 193, 194, 195, 196, 197, 198, 199, 200, 201, 202, 203, 204, 205, 206, 207, 208, 209, 210, 211, 212, 213, 214, 215, 216, 217, 218, 219, 220, 221, 222] (by decide +kernel) (by decide +kernel)
set_option maxRecDepth 20000 in
theorem gX9_wins_X9_isFew : GoodIn wsX9_wins (wsV RX9 320 RX9 yX9_isFew wsX9_isFew) := goodIn_app (goodIn_of _ (by decide +kernel)) ggX9_wins_X9_isFew
set_option maxRecDepth 20000 in
theorem ggX9_wins_X9_all : GoodIn wsX9_wins wsX9_all := goodIn_r _ [21] (by decide +kernel) (by decide +kernel)
set_option maxRecDepth 20000 in
theorem gX9_wins_X9_all : GoodIn wsX9_wins (va_wsS RX9 323 yX9_all wsX9_all) := goodIn_app (goodIn_of _ (by decide +kernel)) ggX9_wins_X9_all
set_option maxRecDepth 20000 in
theorem ggX9_wins_X9_goesAll : GoodIn wsX9_wins wsX9_goesAll := goodIn_r _ [25, 5, 26, 27, 2, 28, 29, 30, 31, 9, 32, 33, 34, 35, 36, 37, 38, 39, 40, 41, 42, 43, 44, 45, 46, 47, 48, 49, 50, 51, 52, 53, 54, 55, 56, 57, 58, 59, 60, 61, 62, 63, 64, 65, 66, 67, 68, 69, 70, 71, 72, 73, 74, 75, 76, 77, 78, 79, 80, 81, 82, 83, 84, 85, 86, 87, 88, 89, 90, 91, 92, 93, 94, 95, 96, 97, 98, 99, 100, 101, 12, 13, 14, 102, 103, 104, 105, 106, 107, 108, 109, 110, 111, 112, 113, 114, 115, 116, 117, 118, 119, 120, 121, 122, 123, 124, 125, 126, 127, 128, 129, 130, 131, 132, 133, 134, 135, 136, 137, 138, 139, 140, 141, 142, 143, 144, 145, 146, 147, 148, 149, 150, 151, 152, 153, 154, 155, 156, 157, 158, 159, 160, 161, 162, 163, 164, 165, 166, 167, 168, 169, 170, 171, 172, 173, 174, 175, 176, 177, 178, 179, 180, 181, 182, 183, 184, 185, 186, 187, 188, 189, 190, 191, 192, 193, 194, 195, 196, 197, 198, 199, 200, 201, 202, 203, 204, 205, 206, 207, 208, 209, 210, 211, 212, 213, 214, 215, 216, 217, 218, 219, 220, 221, 222] (by decide +kernel) (by decide +kernel)
set_option maxRecDepth 20000 in
theorem gX9_wins_X9_goesAll : GoodIn wsX9_wins (wsV RX9 327 RX9 yX9_goesAll wsX9_goesAll) := goodIn_app (goodIn_of _ (by decide +kernel)) ggX9_wins_X9_goesAll
theorem dX9_wins_0 : decode cX9_wins 0 = .ok (.aload_n 0, 1) := by decide +kernel
theorem dX9_wins_1 : decode cX9_wins 1 = .ok (.iload_n 1, 1) := by decide +kernel
theorem dX9_wins_2 : decode cX9_wins 2 = .ok (.invokevirtual 264, 3) := by decide +kernel
theorem dX9_wins_5 : decode cX9_wins 5 = .ok (.ifCond .eq 20, 3) := by decide +kernel
theorem dX9_wins_8 : decode cX9_wins 8 = .ok (.iload_n 2, 1) := by decide +kernel
theorem dX9_wins_9 : decode cX9_wins 9 = .ok (.i2l, 1) := by decide +kernel
theorem dX9_wins_10 : decode cX9_wins 10 = .ok (.lconst 0, 1) := by decide +kernel
theorem dX9_wins_11 : decode cX9_wins 11 = .ok (.lconst 1, 1) := by decide +kernel
theorem dX9_wins_12 : decode cX9_wins 12 = .ok (.invokestatic 85, 3) := by decide +kernel
theorem dX9_wins_15 : decode cX9_wins 15 = .ok (.ifCond .eq 10, 3) := by decide +kernel
theorem dX9_wins_18 : decode cX9_wins 18 = .ok (.aload_n 0, 1) := by decide +kernel
theorem dX9_wins_19 : decode cX9_wins 19 = .ok (.invokevirtual 320, 3) := by decide +kernel
theorem dX9_wins_22 : decode cX9_wins 22 = .ok (.ifCond .ne 7, 3) := by decide +kernel
theorem dX9_wins_25 : decode cX9_wins 25 = .ok (.ldc2_w 294, 3) := by decide +kernel
theorem dX9_wins_28 : decode cX9_wins 28 = .ok (.lreturn, 1) := by decide +kernel
theorem dX9_wins_29 : decode cX9_wins 29 = .ok (.iload_n 2, 1) := by decide +kernel
theorem dX9_wins_30 : decode cX9_wins 30 = .ok (.iconst 1, 1) := by decide +kernel
theorem dX9_wins_31 : decode cX9_wins 31 = .ok (.if_icmp .ne 11, 3) := by decide +kernel
theorem dX9_wins_34 : decode cX9_wins 34 = .ok (.aload_n 0, 1) := by decide +kernel
theorem dX9_wins_35 : decode cX9_wins 35 = .ok (.getfield 74, 3) := by decide +kernel
theorem dX9_wins_38 : decode cX9_wins 38 = .ok (.invokestatic 323, 3) := by decide +kernel
theorem dX9_wins_41 : decode cX9_wins 41 = .ok (.lreturn, 1) := by decide +kernel
theorem dX9_wins_42 : decode cX9_wins 42 = .ok (.aload_n 0, 1) := by decide +kernel
theorem dX9_wins_43 : decode cX9_wins 43 = .ok (.aload_n 0, 1) := by decide +kernel
theorem dX9_wins_44 : decode cX9_wins 44 = .ok (.getfield 26, 3) := by decide +kernel
theorem dX9_wins_47 : decode cX9_wins 47 = .ok (.iload_n 1, 1) := by decide +kernel
theorem dX9_wins_48 : decode cX9_wins 48 = .ok (.iaload, 1) := by decide +kernel
theorem dX9_wins_49 : decode cX9_wins 49 = .ok (.aload_n 0, 1) := by decide +kernel
theorem dX9_wins_50 : decode cX9_wins 50 = .ok (.getfield 29, 3) := by decide +kernel
theorem dX9_wins_53 : decode cX9_wins 53 = .ok (.iload_n 1, 1) := by decide +kernel
theorem dX9_wins_54 : decode cX9_wins 54 = .ok (.iaload, 1) := by decide +kernel
theorem dX9_wins_55 : decode cX9_wins 55 = .ok (.invokevirtual 327, 3) := by decide +kernel
theorem dX9_wins_58 : decode cX9_wins 58 = .ok (.aload_n 0, 1) := by decide +kernel
theorem dX9_wins_59 : decode cX9_wins 59 = .ok (.getfield 299, 3) := by decide +kernel
theorem dX9_wins_62 : decode cX9_wins 62 = .ok (.lreturn, 1) := by decide +kernel
theorem dX9_common_0 : decode cX9_common 0 = .ok (.lload_n 0, 1) := by decide +kernel
theorem dX9_common_1 : decode cX9_common 1 = .ok (.lstore 4, 2) := by decide +kernel
theorem dX9_common_3 : decode cX9_common 3 = .ok (.lload_n 2, 1) := by decide +kernel
theorem dX9_common_4 : decode cX9_common 4 = .ok (.lstore 6, 2) := by decide +kernel
theorem dX9_common_6 : decode cX9_common 6 = .ok (.lload 6, 2) := by decide +kernel
theorem dX9_common_8 : decode cX9_common 8 = .ok (.lconst 0, 1) := by decide +kernel
theorem dX9_common_9 : decode cX9_common 9 = .ok (.lcmp, 1) := by decide +kernel
theorem dX9_common_10 : decode cX9_common 10 = .ok (.ifCond .eq 21, 3) := by decide +kernel
theorem dX9_common_13 : decode cX9_common 13 = .ok (.lload 4, 2) := by decide +kernel
theorem dX9_common_15 : decode cX9_common 15 = .ok (.lload 6, 2) := by decide +kernel
theorem dX9_common_17 : decode cX9_common 17 = .ok (.lrem, 1) := by decide +kernel
theorem dX9_common_18 : decode cX9_common 18 = .ok (.lstore 8, 2) := by decide +kernel
theorem dX9_common_20 : decode cX9_common 20 = .ok (.lload 6, 2) := by decide +kernel
theorem dX9_common_22 : decode cX9_common 22 = .ok (.lstore 4, 2) := by decide +kernel
theorem dX9_common_24 : decode cX9_common 24 = .ok (.lload 8, 2) := by decide +kernel
theorem dX9_common_26 : decode cX9_common 26 = .ok (.lstore 6, 2) := by decide +kernel
theorem dX9_common_28 : decode cX9_common 28 = .ok (.goto (-22), 3) := by decide +kernel
theorem dX9_common_31 : decode cX9_common 31 = .ok (.lload 4, 2) := by decide +kernel
theorem dX9_common_33 : decode cX9_common 33 = .ok (.lreturn, 1) := by decide +kernel
set_option maxRecDepth 20000 in
theorem ggX9_mean_X9_isPlan : GoodIn wsX9_mean wsX9_isPlan := goodIn_r _ [10, 11, 12, 13, 9, 14, 181, 182, 183, 184, 185, 186, 187, 188, 189, 190, 191, 192, 193, 194, 195, 196, 197, 198, 199, 200, 201, 202, 203, 204, 205, 206, 207, 208, 209, 210, 211, 212, 213, 214, 215, 216, 217, 218, 219, 220, 221, 222, 223, 224, 225] (by decide +kernel) (by decide +kernel)
set_option maxRecDepth 20000 in
theorem gX9_mean_X9_isPlan : GoodIn wsX9_mean (wsV RX9 264 RX9 yX9_isPlan wsX9_isPlan) := goodIn_app (goodIn_of _ (by decide +kernel)) ggX9_mean_X9_isPlan
set_option maxRecDepth 20000 in
theorem ggX9_mean_X9_in : GoodIn wsX9_mean wsX9_in := goodIn_r _ [14] (by decide +kernel) (by decide +kernel)
set_option maxRecDepth 20000 in
theorem gX9_mean_X9_in : GoodIn wsX9_mean (va_wsS RX9 85 yX9_in wsX9_in) := goodIn_app (goodIn_of _ (by decide +kernel)) ggX9_mean_X9_in
set_option maxRecDepth 20000 in
theorem ggX9_mean_X9_isFew : GoodIn wsX9_mean wsX9_isFew := goodIn_r _ [18, 5, 181, 182, 183, 184, 185, 186, 187, 188, 189, 190, 191, 192, 193, 194, 195, 196, 197, 198, 199, 200, 201, 202, 203, 204, 205, 206, 207, 208, 209, 210, 211, 212, 213, 214, 215, 216, 217, 218, 219, 220, 221, 222, 223, 224, 225] (by decide +kernel) (by decide +kernel)
set_option maxRecDepth 20000 in
theorem gX9_mean_X9_isFew : GoodIn wsX9_mean (wsV RX9 320 RX9 yX9_isFew wsX9_isFew) := goodIn_app (goodIn_of _ (by decide +kernel)) ggX9_mean_X9_isFew
set_option maxRecDepth 20000 in
theorem ggX9_mean_X9_goesAll : GoodIn wsX9_mean wsX9_goesAll := goodIn_r _ [22, 23, 4, 24, 5, 25, 26, 27, 28, 9, 29, 30, 31, 32, 33, 34, 35, 36, 37, 38, 39, 40, 41, 42, 43, 44, 45, 46, 47, 48, 49, 50, 51, 52, 53, 54, 55, 56, 57, 58, 59, 60, 61, 62, 63, 64, 65, 66, 67, 68, 69, 70, 71, 72, 73, 74, 75, 76, 77, 78, 79, 80, 81, 82, 83, 84, 85, 86, 87, 88, 89, 90, 91, 92, 93, 94, 95, 96, 97, 98, 12, 13, 14, 99, 100, 101, 102, 103, 104, 105, 106, 107, 108, 109, 110, 111, 112, 113, 114, 115, 116, 117, 118, 119, 120, 121, 122, 123, 124, 125, 126, 127, 128, 129, 130, 131, 132, 133, 134, 135, 136, 137, 138, 139, 140, 141, 142, 143, 144, 145, 146, 147, 148, 149, 150, 151, 152, 153, 154, 155, 156, 157, 158, 159, 160, 161, 162, 163, 164, 165, 166, 167, 168, 169, 170, 171, 172, 173, 174, 181, 182, 183, 184, 185, 186, 187, 188, 189, 190, 191, 192, 193, 194, 195, 196, 197, 198, 199, 200, 201, 202, 203, 204, 205, 206, 207, 208, 209, 210, 211, 212, 213, 214, 215, 216, 217, 218, 219, 220, 221, 222, 223, 224, 225] (by decide +kernel) (by decide +kernel)
set_option maxRecDepth 20000 in
theorem gX9_mean_X9_goesAll : GoodIn wsX9_mean (wsV RX9 327 RX9 yX9_goesAll wsX9_goesAll) := goodIn_app (goodIn_of _ (by decide +kernel)) ggX9_mean_X9_goesAll
set_option maxRecDepth 20000 in
theorem ggX9_mean_X9_all : GoodIn wsX9_mean wsX9_all := goodIn_r _ [177] (by decide +kernel) (by decide +kernel)
set_option maxRecDepth 20000 in
theorem gX9_mean_X9_all : GoodIn wsX9_mean (va_wsS RX9 323 yX9_all wsX9_all) := goodIn_app (goodIn_of _ (by decide +kernel)) ggX9_mean_X9_all
set_option maxRecDepth 20000 in
theorem ggX9_mean_X9_common : GoodIn wsX9_mean wsX9_common := goodIn_r _ [180] (by decide +kernel) (by decide +kernel)
set_option maxRecDepth 20000 in
theorem gX9_mean_X9_common : GoodIn wsX9_mean (va_wsS RX9 330 yX9_common wsX9_common) := goodIn_app (goodIn_of _ (by decide +kernel)) ggX9_mean_X9_common
theorem dX9_mean_0 : decode cX9_mean 0 = .ok (.aload_n 0, 1) := by decide +kernel
theorem dX9_mean_1 : decode cX9_mean 1 = .ok (.iload_n 1, 1) := by decide +kernel
theorem dX9_mean_2 : decode cX9_mean 2 = .ok (.invokevirtual 264, 3) := by decide +kernel
theorem dX9_mean_5 : decode cX9_mean 5 = .ok (.ifCond .eq 20, 3) := by decide +kernel
theorem dX9_mean_8 : decode cX9_mean 8 = .ok (.iload_n 2, 1) := by decide +kernel
theorem dX9_mean_9 : decode cX9_mean 9 = .ok (.i2l, 1) := by decide +kernel
theorem dX9_mean_10 : decode cX9_mean 10 = .ok (.lconst 0, 1) := by decide +kernel
theorem dX9_mean_11 : decode cX9_mean 11 = .ok (.lconst 1, 1) := by decide +kernel
theorem dX9_mean_12 : decode cX9_mean 12 = .ok (.invokestatic 85, 3) := by decide +kernel
theorem dX9_mean_15 : decode cX9_mean 15 = .ok (.ifCond .eq 10, 3) := by decide +kernel
theorem dX9_mean_18 : decode cX9_mean 18 = .ok (.aload_n 0, 1) := by decide +kernel
theorem dX9_mean_19 : decode cX9_mean 19 = .ok (.invokevirtual 320, 3) := by decide +kernel
theorem dX9_mean_22 : decode cX9_mean 22 = .ok (.ifCond .ne 7, 3) := by decide +kernel
theorem dX9_mean_25 : decode cX9_mean 25 = .ok (.ldc2_w 294, 3) := by decide +kernel
theorem dX9_mean_28 : decode cX9_mean 28 = .ok (.lreturn, 1) := by decide +kernel
theorem dX9_mean_29 : decode cX9_mean 29 = .ok (.aload_n 0, 1) := by decide +kernel
theorem dX9_mean_30 : decode cX9_mean 30 = .ok (.aload_n 0, 1) := by decide +kernel
theorem dX9_mean_31 : decode cX9_mean 31 = .ok (.getfield 26, 3) := by decide +kernel
theorem dX9_mean_34 : decode cX9_mean 34 = .ok (.iload_n 1, 1) := by decide +kernel
theorem dX9_mean_35 : decode cX9_mean 35 = .ok (.iaload, 1) := by decide +kernel
theorem dX9_mean_36 : decode cX9_mean 36 = .ok (.aload_n 0, 1) := by decide +kernel
theorem dX9_mean_37 : decode cX9_mean 37 = .ok (.getfield 29, 3) := by decide +kernel
theorem dX9_mean_40 : decode cX9_mean 40 = .ok (.iload_n 1, 1) := by decide +kernel
theorem dX9_mean_41 : decode cX9_mean 41 = .ok (.iaload, 1) := by decide +kernel
theorem dX9_mean_42 : decode cX9_mean 42 = .ok (.invokevirtual 327, 3) := by decide +kernel
theorem dX9_mean_45 : decode cX9_mean 45 = .ok (.iload_n 2, 1) := by decide +kernel
theorem dX9_mean_46 : decode cX9_mean 46 = .ok (.ifCond .ne 10, 3) := by decide +kernel
theorem dX9_mean_49 : decode cX9_mean 49 = .ok (.aload_n 0, 1) := by decide +kernel
theorem dX9_mean_50 : decode cX9_mean 50 = .ok (.getfield 302, 3) := by decide +kernel
theorem dX9_mean_53 : decode cX9_mean 53 = .ok (.goto 10, 3) := by decide +kernel
theorem dX9_mean_56 : decode cX9_mean 56 = .ok (.aload_n 0, 1) := by decide +kernel
theorem dX9_mean_57 : decode cX9_mean 57 = .ok (.getfield 74, 3) := by decide +kernel
theorem dX9_mean_60 : decode cX9_mean 60 = .ok (.invokestatic 323, 3) := by decide +kernel
theorem dX9_mean_63 : decode cX9_mean 63 = .ok (.aload_n 0, 1) := by decide +kernel
theorem dX9_mean_64 : decode cX9_mean 64 = .ok (.getfield 302, 3) := by decide +kernel
theorem dX9_mean_67 : decode cX9_mean 67 = .ok (.aload_n 0, 1) := by decide +kernel
theorem dX9_mean_68 : decode cX9_mean 68 = .ok (.getfield 74, 3) := by decide +kernel
theorem dX9_mean_71 : decode cX9_mean 71 = .ok (.invokestatic 323, 3) := by decide +kernel
theorem dX9_mean_74 : decode cX9_mean 74 = .ok (.invokestatic 330, 3) := by decide +kernel
theorem dX9_mean_77 : decode cX9_mean 77 = .ok (.ldiv, 1) := by decide +kernel
theorem dX9_mean_78 : decode cX9_mean 78 = .ok (.lreturn, 1) := by decide +kernel
set_option maxRecDepth 20000 in
theorem ggX9_worst_X9_isPlan : GoodIn wsX9_worst wsX9_isPlan := goodIn_r _ [9, 10, 11, 12, 8, 13, 174, 175, 176, 177, 178, 179, 180, 181, 182, 183, 184, 185, 186, 187, 188, 189, 190, 191, 192, 193, 194, 195, 196, 197, 198, 199, 200, 201, 202, 203, 204, 205, 206, 207, 208, 209, 210, 211, 212, 213, 214, 215, 216, 217, 218] (by decide +kernel) (by decide +kernel)
set_option maxRecDepth 20000 in
theorem gX9_worst_X9_isPlan : GoodIn wsX9_worst (wsV RX9 264 RX9 yX9_isPlan wsX9_isPlan) := goodIn_app (goodIn_of _ (by decide +kernel)) ggX9_worst_X9_isPlan
set_option maxRecDepth 20000 in
theorem ggX9_worst_X9_in : GoodIn wsX9_worst wsX9_in := goodIn_r _ [13] (by decide +kernel) (by decide +kernel)
set_option maxRecDepth 20000 in
theorem gX9_worst_X9_in : GoodIn wsX9_worst (va_wsS RX9 85 yX9_in wsX9_in) := goodIn_app (goodIn_of _ (by decide +kernel)) ggX9_worst_X9_in
set_option maxRecDepth 20000 in
theorem ggX9_worst_X9_isFew : GoodIn wsX9_worst wsX9_isFew := goodIn_r _ [17, 18, 174, 175, 176, 177, 178, 179, 180, 181, 182, 183, 184, 185, 186, 187, 188, 189, 190, 191, 192, 193, 194, 195, 196, 197, 198, 199, 200, 201, 202, 203, 204, 205, 206, 207, 208, 209, 210, 211, 212, 213, 214, 215, 216, 217, 218] (by decide +kernel) (by decide +kernel)
set_option maxRecDepth 20000 in
theorem gX9_worst_X9_isFew : GoodIn wsX9_worst (wsV RX9 320 RX9 yX9_isFew wsX9_isFew) := goodIn_app (goodIn_of _ (by decide +kernel)) ggX9_worst_X9_isFew
set_option maxRecDepth 20000 in
theorem ggX9_worst_X9_goesAll : GoodIn wsX9_worst wsX9_goesAll := goodIn_r _ [22, 23, 24, 3, 18, 4, 25, 26, 27, 8, 28, 29, 30, 31, 32, 33, 34, 35, 36, 37, 38, 39, 40, 41, 42, 43, 44, 45, 46, 47, 48, 49, 50, 51, 52, 53, 54, 55, 56, 57, 58, 59, 60, 61, 62, 63, 64, 65, 66, 67, 68, 69, 70, 71, 72, 73, 74, 75, 76, 77, 78, 79, 80, 81, 82, 83, 84, 85, 86, 87, 88, 89, 90, 91, 92, 93, 94, 95, 96, 97, 11, 12, 13, 98, 99, 100, 101, 102, 103, 104, 105, 106, 107, 108, 109, 110, 111, 112, 113, 114, 115, 116, 117, 118, 119, 120, 121, 122, 123, 124, 125, 126, 127, 128, 129, 130, 131, 132, 133, 134, 135, 136, 137, 138, 139, 140, 141, 142, 143, 144, 145, 146, 147, 148, 149, 150, 151, 152, 153, 154, 155, 156, 157, 158, 159, 160, 161, 162, 163, 164, 165, 166, 167, 168, 169, 170, 171, 172, 173, 174, 175, 176, 177, 178, 179, 180, 181, 182, 183, 184, 185, 186, 187, 188, 189, 190, 191, 192, 193, 194, 195, 196, 197, 198, 199, 200, 201, 202, 203, 204, 205, 206, 207, 208, 209, 210, 211, 212, 213, 214, 215, 216, 217, 218] (by decide +kernel) (by decide +kernel)
set_option maxRecDepth 20000 in
theorem gX9_worst_X9_goesAll : GoodIn wsX9_worst (wsV RX9 327 RX9 yX9_goesAll wsX9_goesAll) := goodIn_app (goodIn_of _ (by decide +kernel)) ggX9_worst_X9_goesAll
theorem dX9_worst_0 : decode cX9_worst 0 = .ok (.aload_n 0, 1) := by decide +kernel
theorem dX9_worst_1 : decode cX9_worst 1 = .ok (.iload_n 1, 1) := by decide +kernel
theorem dX9_worst_2 : decode cX9_worst 2 = .ok (.invokevirtual 264, 3) := by decide +kernel
theorem dX9_worst_5 : decode cX9_worst 5 = .ok (.ifCond .eq 13, 3) := by decide +kernel
theorem dX9_worst_8 : decode cX9_worst 8 = .ok (.iload_n 2, 1) := by decide +kernel
theorem dX9_worst_9 : decode cX9_worst 9 = .ok (.i2l, 1) := by decide +kernel
theorem dX9_worst_10 : decode cX9_worst 10 = .ok (.lconst 0, 1) := by decide +kernel
theorem dX9_worst_11 : decode cX9_worst 11 = .ok (.lconst 1, 1) := by decide +kernel
theorem dX9_worst_12 : decode cX9_worst 12 = .ok (.invokestatic 85, 3) := by decide +kernel
theorem dX9_worst_15 : decode cX9_worst 15 = .ok (.ifCond .ne 6, 3) := by decide +kernel
theorem dX9_worst_18 : decode cX9_worst 18 = .ok (.bipush (-2), 2) := by decide +kernel
theorem dX9_worst_20 : decode cX9_worst 20 = .ok (.ireturn, 1) := by decide +kernel
theorem dX9_worst_21 : decode cX9_worst 21 = .ok (.aload_n 0, 1) := by decide +kernel
theorem dX9_worst_22 : decode cX9_worst 22 = .ok (.invokevirtual 320, 3) := by decide +kernel
theorem dX9_worst_25 : decode cX9_worst 25 = .ok (.ifCond .ne 6, 3) := by decide +kernel
theorem dX9_worst_28 : decode cX9_worst 28 = .ok (.bipush (-3), 2) := by decide +kernel
theorem dX9_worst_30 : decode cX9_worst 30 = .ok (.ireturn, 1) := by decide +kernel
theorem dX9_worst_31 : decode cX9_worst 31 = .ok (.aload_n 0, 1) := by decide +kernel
theorem dX9_worst_32 : decode cX9_worst 32 = .ok (.aload_n 0, 1) := by decide +kernel
theorem dX9_worst_33 : decode cX9_worst 33 = .ok (.getfield 26, 3) := by decide +kernel
theorem dX9_worst_36 : decode cX9_worst 36 = .ok (.iload_n 1, 1) := by decide +kernel
theorem dX9_worst_37 : decode cX9_worst 37 = .ok (.iaload, 1) := by decide +kernel
theorem dX9_worst_38 : decode cX9_worst 38 = .ok (.aload_n 0, 1) := by decide +kernel
theorem dX9_worst_39 : decode cX9_worst 39 = .ok (.getfield 29, 3) := by decide +kernel
theorem dX9_worst_42 : decode cX9_worst 42 = .ok (.iload_n 1, 1) := by decide +kernel
theorem dX9_worst_43 : decode cX9_worst 43 = .ok (.iaload, 1) := by decide +kernel
theorem dX9_worst_44 : decode cX9_worst 44 = .ok (.invokevirtual 327, 3) := by decide +kernel
theorem dX9_worst_47 : decode cX9_worst 47 = .ok (.iload_n 2, 1) := by decide +kernel
theorem dX9_worst_48 : decode cX9_worst 48 = .ok (.ifCond .ne 10, 3) := by decide +kernel
theorem dX9_worst_51 : decode cX9_worst 51 = .ok (.aload_n 0, 1) := by decide +kernel
theorem dX9_worst_52 : decode cX9_worst 52 = .ok (.getfield 305, 3) := by decide +kernel
theorem dX9_worst_55 : decode cX9_worst 55 = .ok (.goto 7, 3) := by decide +kernel
theorem dX9_worst_58 : decode cX9_worst 58 = .ok (.aload_n 0, 1) := by decide +kernel
theorem dX9_worst_59 : decode cX9_worst 59 = .ok (.getfield 311, 3) := by decide +kernel
theorem dX9_worst_62 : decode cX9_worst 62 = .ok (.ireturn, 1) := by decide +kernel
set_option maxRecDepth 20000 in
theorem ggX9_drawsNow_X9_goHome : GoodIn wsX9_drawsNow wsX9_goHome := goodIn_r _ [6, 7, 8, 1, 9, 10, 11, 12, 13, 5, 14, 15, 16, 17, 18, 19, 20, 21, 22, 23, 24, 25, 26, 27, 28, 29, 30, 31, 32, 33, 34, 35, 36, 37, 38, 39, 40, 41, 42, 43, 44, 45, 46, 47, 48, 49, 50, 51, 52, 53, 54, 55, 56, 57, 58, 59, 60, 61, 62, 63, 64, 65, 66, 67, 68, 69, 70, 71, 72, 73, 74, 75, 76, 77, 78, 79, 80, 81, 82, 83, 84, 85, 86, 87, 88, 89, 90, 91, 92, 93, 94, 95, 96, 97, 98, 99, 100, 101, 102, 103, 104, 105, 106, 107, 108, 109, 110, 111, 112, 113, 114, 115, 116, 117, 118, 119, 120, 121, 122, 123, 124, 125, 126, 127, 128, 129, 130, 131, 132, 133, 134, 135, 136, 137, 138, 139, 140, 141, 142, 143, 144, 145, 146, 147, 148, 149, 150, 151, 152, 153, 154, 155, 156, 157, 158, 159, 160, 161, 162, 163, 164, 165, 166, 167, 168, 169, 170, 171, 172, 173, 174, 175, 176, 177, 178] (by decide +kernel) (by decide +kernel)
set_option maxRecDepth 20000 in
theorem gX9_drawsNow_X9_goHome : GoodIn wsX9_drawsNow (wsV RX9 286 RX9 yX9_goHome wsX9_goHome) := goodIn_app (goodIn_of _ (by decide +kernel)) ggX9_drawsNow_X9_goHome
theorem dX9_drawsNow_0 : decode cX9_drawsNow 0 = .ok (.iconst 0, 1) := by decide +kernel
theorem dX9_drawsNow_1 : decode cX9_drawsNow 1 = .ok (.istore_n 1, 1) := by decide +kernel
theorem dX9_drawsNow_2 : decode cX9_drawsNow 2 = .ok (.iconst 0, 1) := by decide +kernel
theorem dX9_drawsNow_3 : decode cX9_drawsNow 3 = .ok (.istore_n 2, 1) := by decide +kernel
theorem dX9_drawsNow_4 : decode cX9_drawsNow 4 = .ok (.iload_n 2, 1) := by decide +kernel
theorem dX9_drawsNow_5 : decode cX9_drawsNow 5 = .ok (.aload_n 0, 1) := by decide +kernel
theorem dX9_drawsNow_6 : decode cX9_drawsNow 6 = .ok (.getfield 74, 3) := by decide +kernel
theorem dX9_drawsNow_9 : decode cX9_drawsNow 9 = .ok (.if_icmp .ge 30, 3) := by decide +kernel
theorem dX9_drawsNow_12 : decode cX9_drawsNow 12 = .ok (.iload_n 1, 1) := by decide +kernel
theorem dX9_drawsNow_13 : decode cX9_drawsNow 13 = .ok (.aload_n 0, 1) := by decide +kernel
theorem dX9_drawsNow_14 : decode cX9_drawsNow 14 = .ok (.iconst 3, 1) := by decide +kernel
theorem dX9_drawsNow_15 : decode cX9_drawsNow 15 = .ok (.iload_n 2, 1) := by decide +kernel
theorem dX9_drawsNow_16 : decode cX9_drawsNow 16 = .ok (.invokevirtual 286, 3) := by decide +kernel
theorem dX9_drawsNow_19 : decode cX9_drawsNow 19 = .ok (.aload_n 0, 1) := by decide +kernel
theorem dX9_drawsNow_20 : decode cX9_drawsNow 20 = .ok (.getfield 74, 3) := by decide +kernel
theorem dX9_drawsNow_23 : decode cX9_drawsNow 23 = .ok (.if_icmp .ne 7, 3) := by decide +kernel
theorem dX9_drawsNow_26 : decode cX9_drawsNow 26 = .ok (.iconst 1, 1) := by decide +kernel
theorem dX9_drawsNow_27 : decode cX9_drawsNow 27 = .ok (.goto 4, 3) := by decide +kernel
theorem dX9_drawsNow_30 : decode cX9_drawsNow 30 = .ok (.iconst 0, 1) := by decide +kernel
theorem dX9_drawsNow_31 : decode cX9_drawsNow 31 = .ok (.iadd, 1) := by decide +kernel
theorem dX9_drawsNow_32 : decode cX9_drawsNow 32 = .ok (.istore_n 1, 1) := by decide +kernel
theorem dX9_drawsNow_33 : decode cX9_drawsNow 33 = .ok (.iinc 2 1, 3) := by decide +kernel
theorem dX9_drawsNow_36 : decode cX9_drawsNow 36 = .ok (.goto (-32), 3) := by decide +kernel
theorem dX9_drawsNow_39 : decode cX9_drawsNow 39 = .ok (.iload_n 1, 1) := by decide +kernel
theorem dX9_drawsNow_40 : decode cX9_drawsNow 40 = .ok (.ireturn, 1) := by decide +kernel
set_option maxRecDepth 20000 in
theorem ggX9_draws_X9_in : GoodIn wsX9_draws wsX9_in := goodIn_r _ [4] (by decide +kernel) (by decide +kernel)
set_option maxRecDepth 20000 in
theorem gX9_draws_X9_in : GoodIn wsX9_draws (va_wsS RX9 85 yX9_in wsX9_in) := goodIn_app (goodIn_of _ (by decide +kernel)) ggX9_draws_X9_in
set_option maxRecDepth 20000 in
theorem ggX9_draws_X9_drawsNow : GoodIn wsX9_draws wsX9_drawsNow := goodIn_r _ [8, 9, 10, 11, 12, 3, 13, 14, 15, 16, 17, 18, 19, 20, 21, 22, 23, 24, 25, 26, 27, 28, 29, 30, 31, 32, 33, 34, 35, 36, 37, 38, 39, 40, 41, 42, 43, 44, 45, 46, 47, 48, 49, 50, 51, 52, 53, 54, 55, 56, 57, 58, 59, 60, 61, 62, 63, 64, 65, 66, 67, 68, 69, 70, 71, 72, 73, 74, 75, 76, 77, 1, 2, 4, 78, 79, 80, 81, 82, 83, 84, 85, 86, 87, 88, 89, 90, 91, 92, 93, 94, 95, 96, 97, 98, 99, 100, 101, 102, 103, 104, 105, 106, 107, 108, 109, 110, 111, 112, 113, 114, 115, 116, 117, 118, 119, 120, 121, 122, 123, 124, 125, 126, 127, 128, 129, 130, 131, 132, 133, 134, 135, 136, 137, 159, 160, 161, 162, 163, 164, 165, 166, 167, 168, 169, 170, 171, 172, 173, 174, 175, 176, 177, 178, 179, 180, 181, 182, 183, 184, 185, 186, 187, 188, 189, 190, 191, 192, 193, 194, 195, 196, 197, 198, 199, 200, 201, 202, 203] (by decide +kernel) (by decide +kernel)
set_option maxRecDepth 20000 in
theorem gX9_draws_X9_drawsNow : GoodIn wsX9_draws (wsV RX9 334 RX9 yX9_drawsNow wsX9_drawsNow) := goodIn_app (goodIn_of _ (by decide +kernel)) ggX9_draws_X9_drawsNow
set_option maxRecDepth 20000 in
theorem ggX9_draws_X9_isFew : GoodIn wsX9_draws wsX9_isFew := goodIn_r _ [141, 9, 159, 160, 161, 162, 163, 164, 165, 166, 167, 168, 169, 170, 171, 172, 173, 174, 175, 176, 177, 178, 179, 180, 181, 182, 183, 184, 185, 186, 187, 188, 189, 190, 191, 192, 193, 194, 195, 196, 197, 198, 199, 200, 201, 202, 203] (by decide +kernel) (by decide +kernel)
set_option maxRecDepth 20000 in
theorem gX9_draws_X9_isFew : GoodIn wsX9_draws (wsV RX9 320 RX9 yX9_isFew wsX9_isFew) := goodIn_app (goodIn_of _ (by decide +kernel)) ggX9_draws_X9_isFew
set_option maxRecDepth 20000 in
theorem ggX9_draws_X9_putsAside : GoodIn wsX9_draws wsX9_putsAside := goodIn_r _ [145, 146, 23, 159, 160, 161, 162, 163, 164, 165, 166, 167, 168, 169, 170, 171, 172, 173, 174, 175, 176, 177, 178, 179, 180, 181, 182, 183, 184, 185, 186, 187, 188, 189, 190, 191, 192, 193, 194, 195, 196, 197, 198, 199, 200, 201, 202, 203] (by decide +kernel) (by decide +kernel)
set_option maxRecDepth 20000 in
theorem gX9_draws_X9_putsAside : GoodIn wsX9_draws (wsV RX9 296 RX9 yX9_putsAside wsX9_putsAside) := goodIn_app (goodIn_of _ (by decide +kernel)) ggX9_draws_X9_putsAside
set_option maxRecDepth 20000 in
theorem ggX9_draws_X9_goesOn : GoodIn wsX9_draws wsX9_goesOn := goodIn_r _ [150, 9, 23, 151, 152, 153, 3, 154, 159, 160, 161, 162, 163, 164, 165, 166, 167, 168, 169, 170, 171, 172, 173, 174, 175, 176, 177, 178, 179, 180, 181, 182, 183, 184, 185, 186, 187, 188, 189, 190, 191, 192, 193, 194, 195, 196, 197, 198, 199, 200, 201, 202, 203] (by decide +kernel) (by decide +kernel)
set_option maxRecDepth 20000 in
theorem gX9_draws_X9_goesOn : GoodIn wsX9_draws (wsV RX9 314 RX9 yX9_goesOn wsX9_goesOn) := goodIn_app (goodIn_of _ (by decide +kernel)) ggX9_draws_X9_goesOn
set_option maxRecDepth 20000 in
theorem ggX9_draws_X9_laysBack : GoodIn wsX9_draws wsX9_laysBack := goodIn_r _ [158, 23, 146, 159, 160, 161, 162, 163, 164, 165, 166, 167, 168, 169, 170, 171, 172, 173, 174, 175, 176, 177, 178, 179, 180, 181, 182, 183, 184, 185, 186, 187, 188, 189, 190, 191, 192, 193, 194, 195, 196, 197, 198, 199, 200, 201, 202, 203] (by decide +kernel) (by decide +kernel)
set_option maxRecDepth 20000 in
theorem gX9_draws_X9_laysBack : GoodIn wsX9_draws (wsV RX9 317 RX9 yX9_laysBack wsX9_laysBack) := goodIn_app (goodIn_of _ (by decide +kernel)) ggX9_draws_X9_laysBack
theorem dX9_draws_0 : decode cX9_draws 0 = .ok (.iload_n 1, 1) := by decide +kernel
theorem dX9_draws_1 : decode cX9_draws 1 = .ok (.i2l, 1) := by decide +kernel
theorem dX9_draws_2 : decode cX9_draws 2 = .ok (.lconst 0, 1) := by decide +kernel
theorem dX9_draws_3 : decode cX9_draws 3 = .ok (.lconst 1, 1) := by decide +kernel
theorem dX9_draws_4 : decode cX9_draws 4 = .ok (.invokestatic 85, 3) := by decide +kernel
theorem dX9_draws_7 : decode cX9_draws 7 = .ok (.ifCond .ne 6, 3) := by decide +kernel
theorem dX9_draws_10 : decode cX9_draws 10 = .ok (.bipush (-2), 2) := by decide +kernel
theorem dX9_draws_12 : decode cX9_draws 12 = .ok (.ireturn, 1) := by decide +kernel
theorem dX9_draws_13 : decode cX9_draws 13 = .ok (.iload_n 1, 1) := by decide +kernel
theorem dX9_draws_14 : decode cX9_draws 14 = .ok (.ifCond .ne 8, 3) := by decide +kernel
theorem dX9_draws_17 : decode cX9_draws 17 = .ok (.aload_n 0, 1) := by decide +kernel
theorem dX9_draws_18 : decode cX9_draws 18 = .ok (.invokevirtual 334, 3) := by decide +kernel
theorem dX9_draws_21 : decode cX9_draws 21 = .ok (.ireturn, 1) := by decide +kernel
theorem dX9_draws_22 : decode cX9_draws 22 = .ok (.aload_n 0, 1) := by decide +kernel
theorem dX9_draws_23 : decode cX9_draws 23 = .ok (.invokevirtual 320, 3) := by decide +kernel
theorem dX9_draws_26 : decode cX9_draws 26 = .ok (.ifCond .ne 6, 3) := by decide +kernel
theorem dX9_draws_29 : decode cX9_draws 29 = .ok (.bipush (-3), 2) := by decide +kernel
theorem dX9_draws_31 : decode cX9_draws 31 = .ok (.ireturn, 1) := by decide +kernel
theorem dX9_draws_32 : decode cX9_draws 32 = .ok (.aload_n 0, 1) := by decide +kernel
theorem dX9_draws_33 : decode cX9_draws 33 = .ok (.invokevirtual 296, 3) := by decide +kernel
theorem dX9_draws_36 : decode cX9_draws 36 = .ok (.bipush 12, 2) := by decide +kernel
theorem dX9_draws_38 : decode cX9_draws 38 = .ok (.istore_n 2, 1) := by decide +kernel
theorem dX9_draws_39 : decode cX9_draws 39 = .ok (.iconst 1, 1) := by decide +kernel
theorem dX9_draws_40 : decode cX9_draws 40 = .ok (.istore_n 3, 1) := by decide +kernel
theorem dX9_draws_41 : decode cX9_draws 41 = .ok (.iload_n 3, 1) := by decide +kernel
theorem dX9_draws_42 : decode cX9_draws 42 = .ok (.ifCond .eq 30, 3) := by decide +kernel
theorem dX9_draws_45 : decode cX9_draws 45 = .ok (.aload_n 0, 1) := by decide +kernel
theorem dX9_draws_46 : decode cX9_draws 46 = .ok (.invokevirtual 334, 3) := by decide +kernel
theorem dX9_draws_49 : decode cX9_draws 49 = .ok (.istore 4, 2) := by decide +kernel
theorem dX9_draws_51 : decode cX9_draws 51 = .ok (.iload 4, 2) := by decide +kernel
theorem dX9_draws_53 : decode cX9_draws 53 = .ok (.iload_n 2, 1) := by decide +kernel
theorem dX9_draws_54 : decode cX9_draws 54 = .ok (.if_icmp .ge 8, 3) := by decide +kernel
theorem dX9_draws_57 : decode cX9_draws 57 = .ok (.iload 4, 2) := by decide +kernel
theorem dX9_draws_59 : decode cX9_draws 59 = .ok (.goto 4, 3) := by decide +kernel
theorem dX9_draws_62 : decode cX9_draws 62 = .ok (.iload_n 2, 1) := by decide +kernel
theorem dX9_draws_63 : decode cX9_draws 63 = .ok (.istore_n 2, 1) := by decide +kernel
theorem dX9_draws_64 : decode cX9_draws 64 = .ok (.aload_n 0, 1) := by decide +kernel
theorem dX9_draws_65 : decode cX9_draws 65 = .ok (.invokevirtual 314, 3) := by decide +kernel
theorem dX9_draws_68 : decode cX9_draws 68 = .ok (.istore_n 3, 1) := by decide +kernel
theorem dX9_draws_69 : decode cX9_draws 69 = .ok (.goto (-28), 3) := by decide +kernel
theorem dX9_draws_72 : decode cX9_draws 72 = .ok (.aload_n 0, 1) := by decide +kernel
theorem dX9_draws_73 : decode cX9_draws 73 = .ok (.invokevirtual 317, 3) := by decide +kernel
theorem dX9_draws_76 : decode cX9_draws 76 = .ok (.iload_n 2, 1) := by decide +kernel
theorem dX9_draws_77 : decode cX9_draws 77 = .ok (.ireturn, 1) := by decide +kernel
set_option maxRecDepth 20000 in
theorem ggX9_costs_X9_isPlan : GoodIn wsX9_costs wsX9_isPlan := goodIn_r _ [9, 10, 11, 12, 8, 13, 175, 176, 177, 178, 179, 180, 181, 182, 183, 184, 185, 186, 187, 188, 189, 190, 191, 192, 193, 194, 195, 196, 197, 198, 199, 200, 201, 202, 203, 204, 205, 206, 207, 208, 209, 210, 211, 212, 213, 214, 215, 216, 217, 218, 219] (by decide +kernel) (by decide +kernel)
set_option maxRecDepth 20000 in
theorem gX9_costs_X9_isPlan : GoodIn wsX9_costs (wsV RX9 264 RX9 yX9_isPlan wsX9_isPlan) := goodIn_app (goodIn_of _ (by decide +kernel)) ggX9_costs_X9_isPlan
set_option maxRecDepth 20000 in
theorem ggX9_costs_X9_isFew : GoodIn wsX9_costs wsX9_isFew := goodIn_r _ [17, 18, 175, 176, 177, 178, 179, 180, 181, 182, 183, 184, 185, 186, 187, 188, 189, 190, 191, 192, 193, 194, 195, 196, 197, 198, 199, 200, 201, 202, 203, 204, 205, 206, 207, 208, 209, 210, 211, 212, 213, 214, 215, 216, 217, 218, 219] (by decide +kernel) (by decide +kernel)
set_option maxRecDepth 20000 in
theorem gX9_costs_X9_isFew : GoodIn wsX9_costs (wsV RX9 320 RX9 yX9_isFew wsX9_isFew) := goodIn_app (goodIn_of _ (by decide +kernel)) ggX9_costs_X9_isFew
set_option maxRecDepth 20000 in
theorem ggX9_costs_X9_goesAll : GoodIn wsX9_costs wsX9_goesAll := goodIn_r _ [22, 23, 2, 24, 18, 25, 26, 27, 28, 8, 29, 30, 31, 32, 33, 34, 35, 36, 37, 38, 39, 40, 41, 42, 43, 44, 45, 46, 47, 48, 49, 50, 51, 52, 53, 54, 55, 56, 57, 58, 59, 60, 61, 62, 63, 64, 65, 66, 67, 68, 69, 70, 71, 72, 73, 74, 75, 76, 77, 78, 79, 80, 81, 82, 83, 84, 85, 86, 87, 88, 89, 90, 91, 92, 93, 94, 95, 96, 97, 98, 11, 12, 13, 99, 100, 101, 102, 103, 104, 105, 106, 107, 108, 109, 110, 111, 112, 113, 114, 115, 116, 117, 118, 119, 120, 121, 122, 123, 124, 125, 126, 127, 128, 129, 130, 131, 132, 133, 134, 135, 136, 137, 138, 139, 140, 141, 142, 143, 144, 145, 146, 147, 148, 149, 150, 151, 152, 153, 154, 155, 156, 157, 158, 159, 160, 161, 162, 163, 164, 165, 166, 167, 168, 169, 170, 171, 172, 173, 174, 175, 176, 177, 178, 179, 180, 181, 182, 183, 184, 185, 186, 187, 188, 189, 190, 191, 192, 193, 194, 195, 196, 197, 198, 199, 200, 201, 202, 203, 204, 205, 206, 207, 208, 209, 210, 211, 212, 213, 214, 215, 216, 217, 218, 219] (by decide +kernel) (by decide +kernel)
set_option maxRecDepth 20000 in
theorem gX9_costs_X9_goesAll : GoodIn wsX9_costs (wsV RX9 327 RX9 yX9_goesAll wsX9_goesAll) := goodIn_app (goodIn_of _ (by decide +kernel)) ggX9_costs_X9_goesAll
theorem dX9_costs_0 : decode cX9_costs 0 = .ok (.aload_n 0, 1) := by decide +kernel
theorem dX9_costs_1 : decode cX9_costs 1 = .ok (.iload_n 1, 1) := by decide +kernel
theorem dX9_costs_2 : decode cX9_costs 2 = .ok (.invokevirtual 264, 3) := by decide +kernel
theorem dX9_costs_5 : decode cX9_costs 5 = .ok (.ifCond .eq 10, 3) := by decide +kernel
theorem dX9_costs_8 : decode cX9_costs 8 = .ok (.aload_n 0, 1) := by decide +kernel
theorem dX9_costs_9 : decode cX9_costs 9 = .ok (.invokevirtual 320, 3) := by decide +kernel
theorem dX9_costs_12 : decode cX9_costs 12 = .ok (.ifCond .ne 7, 3) := by decide +kernel
theorem dX9_costs_15 : decode cX9_costs 15 = .ok (.ldc2_w 294, 3) := by decide +kernel
theorem dX9_costs_18 : decode cX9_costs 18 = .ok (.lreturn, 1) := by decide +kernel
theorem dX9_costs_19 : decode cX9_costs 19 = .ok (.aload_n 0, 1) := by decide +kernel
theorem dX9_costs_20 : decode cX9_costs 20 = .ok (.iconst 2, 1) := by decide +kernel
theorem dX9_costs_21 : decode cX9_costs 21 = .ok (.iconst 0, 1) := by decide +kernel
