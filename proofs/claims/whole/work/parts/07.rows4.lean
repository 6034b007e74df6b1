theorem dX6_leaves_81 : decode cX6_leaves 81 = .ok (.iconst 1, 1) := by decide +kernel
theorem dX6_leaves_82 : decode cX6_leaves 82 = .ok (.goto 4, 3) := by decide +kernel
theorem dX6_leaves_85 : decode cX6_leaves 85 = .ok (.iconst 0, 1) := by decide +kernel
theorem dX6_leaves_86 : decode cX6_leaves 86 = .ok (.istore 5, 2) := by decide +kernel
theorem dX6_leaves_88 : decode cX6_leaves 88 = .ok (.iinc 6 1, 3) := by decide +kernel
theorem dX6_leaves_91 : decode cX6_leaves 91 = .ok (.goto (-42), 3) := by decide +kernel
theorem dX6_leaves_94 : decode cX6_leaves 94 = .ok (.iload 5, 2) := by decide +kernel
theorem dX6_leaves_96 : decode cX6_leaves 96 = .ok (.ireturn, 1) := by decide +kernel
set_option maxRecDepth 20000 in
theorem ggX6_chipsOf_X6_leaves : GoodIn wsX6_chipsOf wsX6_leaves := goodIn_r _ [7, 8, 9, 10, 1, 11, 12, 13, 14, 6, 15, 16, 17, 18, 19, 20, 2, 21, 22, 23, 24, 25, 26, 27, 28, 29, 30, 31, 32, 33, 34, 35, 36, 37, 38, 39, 40, 41, 42, 43, 44, 45, 46, 47, 48, 49, 50, 51, 52, 53, 54] (by decide +kernel) (by decide +kernel)
set_option maxRecDepth 20000 in
theorem gX6_chipsOf_X6_leaves : GoodIn wsX6_chipsOf (wsV RX6 186 RX6 yX6_leaves wsX6_leaves) := goodIn_app (goodIn_of _ (by decide +kernel)) ggX6_chipsOf_X6_leaves
theorem dX6_chipsOf_0 : decode cX6_chipsOf 0 = .ok (.aload_n 0, 1) := by decide +kernel
theorem dX6_chipsOf_1 : decode cX6_chipsOf 1 = .ok (.iload_n 1, 1) := by decide +kernel
theorem dX6_chipsOf_2 : decode cX6_chipsOf 2 = .ok (.iconst (-1), 1) := by decide +kernel
theorem dX6_chipsOf_3 : decode cX6_chipsOf 3 = .ok (.invokevirtual 186, 3) := by decide +kernel
theorem dX6_chipsOf_6 : decode cX6_chipsOf 6 = .ok (.ifCond .eq 9, 3) := by decide +kernel
theorem dX6_chipsOf_9 : decode cX6_chipsOf 9 = .ok (.sipush 512, 3) := by decide +kernel
theorem dX6_chipsOf_12 : decode cX6_chipsOf 12 = .ok (.goto 4, 3) := by decide +kernel
theorem dX6_chipsOf_15 : decode cX6_chipsOf 15 = .ok (.iconst 0, 1) := by decide +kernel
theorem dX6_chipsOf_16 : decode cX6_chipsOf 16 = .ok (.istore_n 2, 1) := by decide +kernel
theorem dX6_chipsOf_17 : decode cX6_chipsOf 17 = .ok (.iconst 0, 1) := by decide +kernel
theorem dX6_chipsOf_18 : decode cX6_chipsOf 18 = .ok (.istore_n 3, 1) := by decide +kernel
theorem dX6_chipsOf_19 : decode cX6_chipsOf 19 = .ok (.iload_n 3, 1) := by decide +kernel
theorem dX6_chipsOf_20 : decode cX6_chipsOf 20 = .ok (.aload_n 0, 1) := by decide +kernel
theorem dX6_chipsOf_21 : decode cX6_chipsOf 21 = .ok (.getfield 97, 3) := by decide +kernel
theorem dX6_chipsOf_24 : decode cX6_chipsOf 24 = .ok (.if_icmp .ge 40, 3) := by decide +kernel
theorem dX6_chipsOf_27 : decode cX6_chipsOf 27 = .ok (.iload_n 2, 1) := by decide +kernel
theorem dX6_chipsOf_28 : decode cX6_chipsOf 28 = .ok (.aload_n 0, 1) := by decide +kernel
theorem dX6_chipsOf_29 : decode cX6_chipsOf 29 = .ok (.getfield 16, 3) := by decide +kernel
theorem dX6_chipsOf_32 : decode cX6_chipsOf 32 = .ok (.bipush 6, 2) := by decide +kernel
theorem dX6_chipsOf_34 : decode cX6_chipsOf 34 = .ok (.iload_n 3, 1) := by decide +kernel
theorem dX6_chipsOf_35 : decode cX6_chipsOf 35 = .ok (.imul, 1) := by decide +kernel
theorem dX6_chipsOf_36 : decode cX6_chipsOf 36 = .ok (.iaload, 1) := by decide +kernel
theorem dX6_chipsOf_37 : decode cX6_chipsOf 37 = .ok (.ifCond .ne 18, 3) := by decide +kernel
theorem dX6_chipsOf_40 : decode cX6_chipsOf 40 = .ok (.aload_n 0, 1) := by decide +kernel
theorem dX6_chipsOf_41 : decode cX6_chipsOf 41 = .ok (.iload_n 1, 1) := by decide +kernel
theorem dX6_chipsOf_42 : decode cX6_chipsOf 42 = .ok (.iload_n 3, 1) := by decide +kernel
theorem dX6_chipsOf_43 : decode cX6_chipsOf 43 = .ok (.invokevirtual 186, 3) := by decide +kernel
theorem dX6_chipsOf_46 : decode cX6_chipsOf 46 = .ok (.ifCond .eq 9, 3) := by decide +kernel
theorem dX6_chipsOf_49 : decode cX6_chipsOf 49 = .ok (.iconst 1, 1) := by decide +kernel
theorem dX6_chipsOf_50 : decode cX6_chipsOf 50 = .ok (.iload_n 3, 1) := by decide +kernel
theorem dX6_chipsOf_51 : decode cX6_chipsOf 51 = .ok (.ishl, 1) := by decide +kernel
theorem dX6_chipsOf_52 : decode cX6_chipsOf 52 = .ok (.goto 4, 3) := by decide +kernel
theorem dX6_chipsOf_55 : decode cX6_chipsOf 55 = .ok (.iconst 0, 1) := by decide +kernel
theorem dX6_chipsOf_56 : decode cX6_chipsOf 56 = .ok (.ior, 1) := by decide +kernel
theorem dX6_chipsOf_57 : decode cX6_chipsOf 57 = .ok (.istore_n 2, 1) := by decide +kernel
theorem dX6_chipsOf_58 : decode cX6_chipsOf 58 = .ok (.iinc 3 1, 3) := by decide +kernel
theorem dX6_chipsOf_61 : decode cX6_chipsOf 61 = .ok (.goto (-42), 3) := by decide +kernel
theorem dX6_chipsOf_64 : decode cX6_chipsOf 64 = .ok (.iload_n 2, 1) := by decide +kernel
theorem dX6_chipsOf_65 : decode cX6_chipsOf 65 = .ok (.ireturn, 1) := by decide +kernel
set_option maxRecDepth 20000 in
theorem ggX6_chips_X6_lacks : GoodIn wsX6_chips wsX6_lacks := goodIn_r _ [6, 7, 41, 42, 43, 44, 45, 46, 47, 48, 49, 50, 51, 52, 53, 54, 55, 56, 57, 58, 59, 60, 61, 62, 63, 64, 65, 66] (by decide +kernel) (by decide +kernel)
set_option maxRecDepth 20000 in
theorem gX6_chips_X6_lacks : GoodIn wsX6_chips (wsV RX6 168 RX6 yX6_lacks wsX6_lacks) := goodIn_app (goodIn_of _ (by decide +kernel)) ggX6_chips_X6_lacks
set_option maxRecDepth 20000 in
theorem ggX6_chips_X6_isIn : GoodIn wsX6_chips wsX6_isIn := goodIn_r _ [10] (by decide +kernel) (by decide +kernel)
set_option maxRecDepth 20000 in
theorem gX6_chips_X6_isIn : GoodIn wsX6_chips (va_wsS RX6 66 yX6_isIn wsX6_isIn) := goodIn_app (goodIn_of _ (by decide +kernel)) ggX6_chips_X6_isIn
set_option maxRecDepth 20000 in
theorem ggX6_chips_X6_chipsOf : GoodIn wsX6_chips wsX6_chipsOf := goodIn_r _ [14, 7, 15, 16, 17, 18, 5, 19, 20, 21, 22, 23, 24, 25, 26, 27, 28, 29, 30, 31, 32, 33, 34, 35, 36, 37, 38, 39, 40, 41, 42, 43, 44, 45, 46, 47, 48, 49, 50, 51, 52, 53, 54, 55, 56, 57, 58, 59, 60, 61, 62, 63, 64, 65, 66] (by decide +kernel) (by decide +kernel)
set_option maxRecDepth 20000 in
theorem gX6_chips_X6_chipsOf : GoodIn wsX6_chips (wsV RX6 192 RX6 yX6_chipsOf wsX6_chipsOf) := goodIn_app (goodIn_of _ (by decide +kernel)) ggX6_chips_X6_chipsOf
theorem dX6_chips_0 : decode cX6_chips 0 = .ok (.aload_n 0, 1) := by decide +kernel
theorem dX6_chips_1 : decode cX6_chips 1 = .ok (.invokevirtual 168, 3) := by decide +kernel
theorem dX6_chips_4 : decode cX6_chips 4 = .ok (.ifCond .eq 6, 3) := by decide +kernel
theorem dX6_chips_7 : decode cX6_chips 7 = .ok (.bipush (-103), 2) := by decide +kernel
theorem dX6_chips_9 : decode cX6_chips 9 = .ok (.ireturn, 1) := by decide +kernel
theorem dX6_chips_10 : decode cX6_chips 10 = .ok (.iload_n 1, 1) := by decide +kernel
theorem dX6_chips_11 : decode cX6_chips 11 = .ok (.i2l, 1) := by decide +kernel
theorem dX6_chips_12 : decode cX6_chips 12 = .ok (.lconst 0, 1) := by decide +kernel
theorem dX6_chips_13 : decode cX6_chips 13 = .ok (.ldc2_w 190, 3) := by decide +kernel
theorem dX6_chips_16 : decode cX6_chips 16 = .ok (.invokestatic 66, 3) := by decide +kernel
theorem dX6_chips_19 : decode cX6_chips 19 = .ok (.ifCond .eq 11, 3) := by decide +kernel
theorem dX6_chips_22 : decode cX6_chips 22 = .ok (.aload_n 0, 1) := by decide +kernel
theorem dX6_chips_23 : decode cX6_chips 23 = .ok (.iload_n 1, 1) := by decide +kernel
theorem dX6_chips_24 : decode cX6_chips 24 = .ok (.invokevirtual 192, 3) := by decide +kernel
theorem dX6_chips_27 : decode cX6_chips 27 = .ok (.goto 5, 3) := by decide +kernel
theorem dX6_chips_30 : decode cX6_chips 30 = .ok (.bipush (-102), 2) := by decide +kernel
theorem dX6_chips_32 : decode cX6_chips 32 = .ok (.ireturn, 1) := by decide +kernel
theorem dX6_ones_0 : decode cX6_ones 0 = .ok (.iconst 0, 1) := by decide +kernel
theorem dX6_ones_1 : decode cX6_ones 1 = .ok (.istore_n 1, 1) := by decide +kernel
theorem dX6_ones_2 : decode cX6_ones 2 = .ok (.iconst 0, 1) := by decide +kernel
theorem dX6_ones_3 : decode cX6_ones 3 = .ok (.istore_n 2, 1) := by decide +kernel
theorem dX6_ones_4 : decode cX6_ones 4 = .ok (.iload_n 2, 1) := by decide +kernel
theorem dX6_ones_5 : decode cX6_ones 5 = .ok (.bipush 9, 2) := by decide +kernel
theorem dX6_ones_7 : decode cX6_ones 7 = .ok (.if_icmp .ge 17, 3) := by decide +kernel
theorem dX6_ones_10 : decode cX6_ones 10 = .ok (.iload_n 1, 1) := by decide +kernel
theorem dX6_ones_11 : decode cX6_ones 11 = .ok (.iload_n 0, 1) := by decide +kernel
theorem dX6_ones_12 : decode cX6_ones 12 = .ok (.iload_n 2, 1) := by decide +kernel
theorem dX6_ones_13 : decode cX6_ones 13 = .ok (.ishr, 1) := by decide +kernel
theorem dX6_ones_14 : decode cX6_ones 14 = .ok (.iconst 1, 1) := by decide +kernel
theorem dX6_ones_15 : decode cX6_ones 15 = .ok (.iand, 1) := by decide +kernel
theorem dX6_ones_16 : decode cX6_ones 16 = .ok (.iadd, 1) := by decide +kernel
theorem dX6_ones_17 : decode cX6_ones 17 = .ok (.istore_n 1, 1) := by decide +kernel
theorem dX6_ones_18 : decode cX6_ones 18 = .ok (.iinc 2 1, 3) := by decide +kernel
theorem dX6_ones_21 : decode cX6_ones 21 = .ok (.goto (-17), 3) := by decide +kernel
theorem dX6_ones_24 : decode cX6_ones 24 = .ok (.iload_n 1, 1) := by decide +kernel
theorem dX6_ones_25 : decode cX6_ones 25 = .ok (.ireturn, 1) := by decide +kernel
set_option maxRecDepth 20000 in
theorem ggX6_alikeOf_X6_beginWould : GoodIn wsX6_alikeOf wsX6_beginWould := goodIn_r _ [8, 1, 9, 10, 11, 12, 7, 13, 3, 14, 2, 15, 16, 17, 18, 19, 20, 25, 26, 27, 28, 29, 30, 31, 32, 33, 34, 35, 36, 37, 38, 39, 40, 41, 42, 43, 44, 45, 46, 47, 48, 49, 50] (by decide +kernel) (by decide +kernel)
set_option maxRecDepth 20000 in
theorem gX6_alikeOf_X6_beginWould : GoodIn wsX6_alikeOf (wsV RX6 161 RX6 yX6_beginWould wsX6_beginWould) := goodIn_app (goodIn_of _ (by decide +kernel)) ggX6_alikeOf_X6_beginWould
set_option maxRecDepth 20000 in
theorem ggX6_alikeOf_X6_runOver : GoodIn wsX6_alikeOf wsX6_runOver := goodIn_r _ [24, 3, 14, 16, 15, 25, 26, 27, 28, 29, 30, 31, 32, 33, 34, 35, 36, 37, 38, 39, 40, 41, 42, 43, 44, 45, 46, 47, 48, 49, 50] (by decide +kernel) (by decide +kernel)
set_option maxRecDepth 20000 in
theorem gX6_alikeOf_X6_runOver : GoodIn wsX6_alikeOf (wsV RX6 133 RX6 yX6_runOver wsX6_runOver) := goodIn_app (goodIn_of _ (by decide +kernel)) ggX6_alikeOf_X6_runOver
theorem dX6_alikeOf_0 : decode cX6_alikeOf 0 = .ok (.aload_n 0, 1) := by decide +kernel
theorem dX6_alikeOf_1 : decode cX6_alikeOf 1 = .ok (.iconst 0, 1) := by decide +kernel
theorem dX6_alikeOf_2 : decode cX6_alikeOf 2 = .ok (.invokevirtual 161, 3) := by decide +kernel
theorem dX6_alikeOf_5 : decode cX6_alikeOf 5 = .ok (.iconst 1, 1) := by decide +kernel
theorem dX6_alikeOf_6 : decode cX6_alikeOf 6 = .ok (.istore_n 2, 1) := by decide +kernel
theorem dX6_alikeOf_7 : decode cX6_alikeOf 7 = .ok (.iload_n 2, 1) := by decide +kernel
theorem dX6_alikeOf_8 : decode cX6_alikeOf 8 = .ok (.sipush 1000, 3) := by decide +kernel
theorem dX6_alikeOf_11 : decode cX6_alikeOf 11 = .ok (.if_icmp .ge 147, 3) := by decide +kernel
theorem dX6_alikeOf_14 : decode cX6_alikeOf 14 = .ok (.aload_n 0, 1) := by decide +kernel
theorem dX6_alikeOf_15 : decode cX6_alikeOf 15 = .ok (.getfield 35, 3) := by decide +kernel
theorem dX6_alikeOf_18 : decode cX6_alikeOf 18 = .ok (.iconst 0, 1) := by decide +kernel
theorem dX6_alikeOf_19 : decode cX6_alikeOf 19 = .ok (.dup2, 1) := by decide +kernel
theorem dX6_alikeOf_20 : decode cX6_alikeOf 20 = .ok (.laload, 1) := by decide +kernel
theorem dX6_alikeOf_21 : decode cX6_alikeOf 21 = .ok (.ldc2_w 113, 3) := by decide +kernel
theorem dX6_alikeOf_24 : decode cX6_alikeOf 24 = .ok (.ladd, 1) := by decide +kernel
theorem dX6_alikeOf_25 : decode cX6_alikeOf 25 = .ok (.lastore, 1) := by decide +kernel
theorem dX6_alikeOf_26 : decode cX6_alikeOf 26 = .ok (.aload_n 0, 1) := by decide +kernel
theorem dX6_alikeOf_27 : decode cX6_alikeOf 27 = .ok (.aload_n 0, 1) := by decide +kernel
theorem dX6_alikeOf_28 : decode cX6_alikeOf 28 = .ok (.getfield 35, 3) := by decide +kernel
theorem dX6_alikeOf_31 : decode cX6_alikeOf 31 = .ok (.invokevirtual 133, 3) := by decide +kernel
theorem dX6_alikeOf_34 : decode cX6_alikeOf 34 = .ok (.lstore_n 3, 1) := by decide +kernel
theorem dX6_alikeOf_35 : decode cX6_alikeOf 35 = .ok (.lconst 0, 1) := by decide +kernel
theorem dX6_alikeOf_36 : decode cX6_alikeOf 36 = .ok (.lstore 5, 2) := by decide +kernel
theorem dX6_alikeOf_38 : decode cX6_alikeOf 38 = .ok (.iconst 1, 1) := by decide +kernel
theorem dX6_alikeOf_39 : decode cX6_alikeOf 39 = .ok (.istore 7, 2) := by decide +kernel
theorem dX6_alikeOf_41 : decode cX6_alikeOf 41 = .ok (.aload_n 0, 1) := by decide +kernel
theorem dX6_alikeOf_42 : decode cX6_alikeOf 42 = .ok (.getfield 97, 3) := by decide +kernel
theorem dX6_alikeOf_45 : decode cX6_alikeOf 45 = .ok (.iconst 1, 1) := by decide +kernel
theorem dX6_alikeOf_46 : decode cX6_alikeOf 46 = .ok (.isub, 1) := by decide +kernel
theorem dX6_alikeOf_47 : decode cX6_alikeOf 47 = .ok (.istore 8, 2) := by decide +kernel
theorem dX6_alikeOf_49 : decode cX6_alikeOf 49 = .ok (.iload 8, 2) := by decide +kernel
theorem dX6_alikeOf_51 : decode cX6_alikeOf 51 = .ok (.ifCond .lt 94, 3) := by decide +kernel
theorem dX6_alikeOf_54 : decode cX6_alikeOf 54 = .ok (.iload_n 1, 1) := by decide +kernel
theorem dX6_alikeOf_55 : decode cX6_alikeOf 55 = .ok (.iload 8, 2) := by decide +kernel
theorem dX6_alikeOf_57 : decode cX6_alikeOf 57 = .ok (.ishr, 1) := by decide +kernel
theorem dX6_alikeOf_58 : decode cX6_alikeOf 58 = .ok (.iconst 1, 1) := by decide +kernel
theorem dX6_alikeOf_59 : decode cX6_alikeOf 59 = .ok (.iand, 1) := by decide +kernel
theorem dX6_alikeOf_60 : decode cX6_alikeOf 60 = .ok (.iconst 1, 1) := by decide +kernel
theorem dX6_alikeOf_61 : decode cX6_alikeOf 61 = .ok (.if_icmp .ne 7, 3) := by decide +kernel
theorem dX6_alikeOf_64 : decode cX6_alikeOf 64 = .ok (.iconst 1, 1) := by decide +kernel
theorem dX6_alikeOf_65 : decode cX6_alikeOf 65 = .ok (.goto 4, 3) := by decide +kernel
theorem dX6_alikeOf_68 : decode cX6_alikeOf 68 = .ok (.iconst 0, 1) := by decide +kernel
theorem dX6_alikeOf_69 : decode cX6_alikeOf 69 = .ok (.istore 9, 2) := by decide +kernel
theorem dX6_alikeOf_71 : decode cX6_alikeOf 71 = .ok (.iload 7, 2) := by decide +kernel
theorem dX6_alikeOf_73 : decode cX6_alikeOf 73 = .ok (.ifCond .eq 44, 3) := by decide +kernel
theorem dX6_alikeOf_76 : decode cX6_alikeOf 76 = .ok (.iload 9, 2) := by decide +kernel
theorem dX6_alikeOf_78 : decode cX6_alikeOf 78 = .ok (.ifCond .eq 35, 3) := by decide +kernel
theorem dX6_alikeOf_81 : decode cX6_alikeOf 81 = .ok (.aload_n 0, 1) := by decide +kernel
theorem dX6_alikeOf_82 : decode cX6_alikeOf 82 = .ok (.getfield 35, 3) := by decide +kernel
theorem dX6_alikeOf_85 : decode cX6_alikeOf 85 = .ok (.iload 8, 2) := by decide +kernel
theorem dX6_alikeOf_87 : decode cX6_alikeOf 87 = .ok (.laload, 1) := by decide +kernel
theorem dX6_alikeOf_88 : decode cX6_alikeOf 88 = .ok (.lconst 0, 1) := by decide +kernel
theorem dX6_alikeOf_89 : decode cX6_alikeOf 89 = .ok (.lcmp, 1) := by decide +kernel
theorem dX6_alikeOf_90 : decode cX6_alikeOf 90 = .ok (.ifCond .le 27, 3) := by decide +kernel
theorem dX6_alikeOf_93 : decode cX6_alikeOf 93 = .ok (.lload 5, 2) := by decide +kernel
theorem dX6_alikeOf_95 : decode cX6_alikeOf 95 = .ok (.lconst 0, 1) := by decide +kernel
theorem dX6_alikeOf_96 : decode cX6_alikeOf 96 = .ok (.lcmp, 1) := by decide +kernel
theorem dX6_alikeOf_97 : decode cX6_alikeOf 97 = .ok (.ifCond .eq 16, 3) := by decide +kernel
theorem dX6_alikeOf_100 : decode cX6_alikeOf 100 = .ok (.lload 5, 2) := by decide +kernel
theorem dX6_alikeOf_102 : decode cX6_alikeOf 102 = .ok (.aload_n 0, 1) := by decide +kernel
theorem dX6_alikeOf_103 : decode cX6_alikeOf 103 = .ok (.getfield 35, 3) := by decide +kernel
theorem dX6_alikeOf_106 : decode cX6_alikeOf 106 = .ok (.iload 8, 2) := by decide +kernel
theorem dX6_alikeOf_108 : decode cX6_alikeOf 108 = .ok (.laload, 1) := by decide +kernel
theorem dX6_alikeOf_109 : decode cX6_alikeOf 109 = .ok (.lcmp, 1) := by decide +kernel
theorem dX6_alikeOf_110 : decode cX6_alikeOf 110 = .ok (.ifCond .ne 7, 3) := by decide +kernel
theorem dX6_alikeOf_113 : decode cX6_alikeOf 113 = .ok (.iconst 1, 1) := by decide +kernel
theorem dX6_alikeOf_114 : decode cX6_alikeOf 114 = .ok (.goto 4, 3) := by decide +kernel
theorem dX6_alikeOf_117 : decode cX6_alikeOf 117 = .ok (.iconst 0, 1) := by decide +kernel
theorem dX6_alikeOf_118 : decode cX6_alikeOf 118 = .ok (.istore 7, 2) := by decide +kernel
theorem dX6_alikeOf_120 : decode cX6_alikeOf 120 = .ok (.iload 9, 2) := by decide +kernel
theorem dX6_alikeOf_122 : decode cX6_alikeOf 122 = .ok (.ifCond .eq 13, 3) := by decide +kernel
theorem dX6_alikeOf_125 : decode cX6_alikeOf 125 = .ok (.aload_n 0, 1) := by decide +kernel
theorem dX6_alikeOf_126 : decode cX6_alikeOf 126 = .ok (.getfield 35, 3) := by decide +kernel
theorem dX6_alikeOf_129 : decode cX6_alikeOf 129 = .ok (.iload 8, 2) := by decide +kernel
theorem dX6_alikeOf_131 : decode cX6_alikeOf 131 = .ok (.laload, 1) := by decide +kernel
theorem dX6_alikeOf_132 : decode cX6_alikeOf 132 = .ok (.goto 5, 3) := by decide +kernel
theorem dX6_alikeOf_135 : decode cX6_alikeOf 135 = .ok (.lload 5, 2) := by decide +kernel
theorem dX6_alikeOf_137 : decode cX6_alikeOf 137 = .ok (.lstore 5, 2) := by decide +kernel
theorem dX6_alikeOf_139 : decode cX6_alikeOf 139 = .ok (.iinc 8 (-1), 3) := by decide +kernel
theorem dX6_alikeOf_142 : decode cX6_alikeOf 142 = .ok (.goto (-93), 3) := by decide +kernel
theorem dX6_alikeOf_145 : decode cX6_alikeOf 145 = .ok (.iload 7, 2) := by decide +kernel
theorem dX6_alikeOf_147 : decode cX6_alikeOf 147 = .ok (.ifCond .eq 5, 3) := by decide +kernel
theorem dX6_alikeOf_150 : decode cX6_alikeOf 150 = .ok (.iload_n 2, 1) := by decide +kernel
theorem dX6_alikeOf_151 : decode cX6_alikeOf 151 = .ok (.ireturn, 1) := by decide +kernel
theorem dX6_alikeOf_152 : decode cX6_alikeOf 152 = .ok (.iinc 2 1, 3) := by decide +kernel
theorem dX6_alikeOf_155 : decode cX6_alikeOf 155 = .ok (.goto (-148), 3) := by decide +kernel
theorem dX6_alikeOf_158 : decode cX6_alikeOf 158 = .ok (.iconst (-1), 1) := by decide +kernel
theorem dX6_alikeOf_159 : decode cX6_alikeOf 159 = .ok (.ireturn, 1) := by decide +kernel
set_option maxRecDepth 20000 in
theorem ggX6_alike_X6_lacks : GoodIn wsX6_alike wsX6_lacks := goodIn_r _ [6, 1, 39, 40, 41, 42, 43, 44, 45, 46, 47, 48, 49, 50, 51, 52, 53, 54, 55, 56, 57, 58, 59, 60, 61, 62, 63, 64] (by decide +kernel) (by decide +kernel)
set_option maxRecDepth 20000 in
theorem gX6_alike_X6_lacks : GoodIn wsX6_alike (wsV RX6 168 RX6 yX6_lacks wsX6_lacks) := goodIn_app (goodIn_of _ (by decide +kernel)) ggX6_alike_X6_lacks
set_option maxRecDepth 20000 in
theorem ggX6_alike_X6_isIn : GoodIn wsX6_alike wsX6_isIn := goodIn_r _ [9] (by decide +kernel) (by decide +kernel)
set_option maxRecDepth 20000 in
theorem gX6_alike_X6_isIn : GoodIn wsX6_alike (va_wsS RX6 66 yX6_isIn wsX6_isIn) := goodIn_app (goodIn_of _ (by decide +kernel)) ggX6_alike_X6_isIn
set_option maxRecDepth 20000 in
theorem ggX6_alike_X6_ones : GoodIn wsX6_alike wsX6_ones := goodIn_r _ [12] (by decide +kernel) (by decide +kernel)
set_option maxRecDepth 20000 in
theorem gX6_alike_X6_ones : GoodIn wsX6_alike (va_wsS RX6 195 yX6_ones wsX6_ones) := goodIn_app (goodIn_of _ (by decide +kernel)) ggX6_alike_X6_ones
set_option maxRecDepth 20000 in
theorem ggX6_alike_X6_alikeOf : GoodIn wsX6_alike wsX6_alikeOf := goodIn_r _ [16, 17, 18, 1, 19, 20, 21, 5, 22, 23, 24, 25, 26, 27, 28, 29, 30, 31, 32, 33, 34, 35, 36, 37, 38, 39, 40, 41, 42, 43, 44, 45, 46, 47, 48, 49, 50, 51, 52, 53, 54, 55, 56, 57, 58, 59, 60, 61, 62, 63, 64] (by decide +kernel) (by decide +kernel)
set_option maxRecDepth 20000 in
theorem gX6_alike_X6_alikeOf : GoodIn wsX6_alike (wsV RX6 198 RX6 yX6_alikeOf wsX6_alikeOf) := goodIn_app (goodIn_of _ (by decide +kernel)) ggX6_alike_X6_alikeOf
theorem dX6_alike_0 : decode cX6_alike 0 = .ok (.aload_n 0, 1) := by decide +kernel
theorem dX6_alike_1 : decode cX6_alike 1 = .ok (.invokevirtual 168, 3) := by decide +kernel
theorem dX6_alike_4 : decode cX6_alike 4 = .ok (.ifCond .eq 6, 3) := by decide +kernel
theorem dX6_alike_7 : decode cX6_alike 7 = .ok (.bipush (-103), 2) := by decide +kernel
theorem dX6_alike_9 : decode cX6_alike 9 = .ok (.ireturn, 1) := by decide +kernel
theorem dX6_alike_10 : decode cX6_alike 10 = .ok (.iload_n 1, 1) := by decide +kernel
theorem dX6_alike_11 : decode cX6_alike 11 = .ok (.i2l, 1) := by decide +kernel
theorem dX6_alike_12 : decode cX6_alike 12 = .ok (.lconst 0, 1) := by decide +kernel
theorem dX6_alike_13 : decode cX6_alike 13 = .ok (.iconst 1, 1) := by decide +kernel
theorem dX6_alike_14 : decode cX6_alike 14 = .ok (.aload_n 0, 1) := by decide +kernel
theorem dX6_alike_15 : decode cX6_alike 15 = .ok (.getfield 97, 3) := by decide +kernel
theorem dX6_alike_18 : decode cX6_alike 18 = .ok (.ishl, 1) := by decide +kernel
theorem dX6_alike_19 : decode cX6_alike 19 = .ok (.iconst 1, 1) := by decide +kernel
theorem dX6_alike_20 : decode cX6_alike 20 = .ok (.isub, 1) := by decide +kernel
theorem dX6_alike_21 : decode cX6_alike 21 = .ok (.i2l, 1) := by decide +kernel
theorem dX6_alike_22 : decode cX6_alike 22 = .ok (.invokestatic 66, 3) := by decide +kernel
theorem dX6_alike_25 : decode cX6_alike 25 = .ok (.ifCond .eq 19, 3) := by decide +kernel
theorem dX6_alike_28 : decode cX6_alike 28 = .ok (.iload_n 1, 1) := by decide +kernel
theorem dX6_alike_29 : decode cX6_alike 29 = .ok (.invokestatic 195, 3) := by decide +kernel
theorem dX6_alike_32 : decode cX6_alike 32 = .ok (.iconst 1, 1) := by decide +kernel
theorem dX6_alike_33 : decode cX6_alike 33 = .ok (.if_icmp .le 11, 3) := by decide +kernel
theorem dX6_alike_36 : decode cX6_alike 36 = .ok (.aload_n 0, 1) := by decide +kernel
theorem dX6_alike_37 : decode cX6_alike 37 = .ok (.iload_n 1, 1) := by decide +kernel
theorem dX6_alike_38 : decode cX6_alike 38 = .ok (.invokevirtual 198, 3) := by decide +kernel
theorem dX6_alike_41 : decode cX6_alike 41 = .ok (.goto 5, 3) := by decide +kernel
theorem dX6_alike_44 : decode cX6_alike 44 = .ok (.bipush (-102), 2) := by decide +kernel
theorem dX6_alike_46 : decode cX6_alike 46 = .ok (.ireturn, 1) := by decide +kernel
theorem dX6_draw_0 : decode cX6_draw 0 = .ok (.aload_n 0, 1) := by decide +kernel
theorem dX6_draw_1 : decode cX6_draw 1 = .ok (.ldc2_w 201, 3) := by decide +kernel
theorem dX6_draw_4 : decode cX6_draw 4 = .ok (.aload_n 0, 1) := by decide +kernel
theorem dX6_draw_5 : decode cX6_draw 5 = .ok (.getfield 203, 3) := by decide +kernel
theorem dX6_draw_8 : decode cX6_draw 8 = .ok (.i2l, 1) := by decide +kernel
theorem dX6_draw_9 : decode cX6_draw 9 = .ok (.lmul, 1) := by decide +kernel
theorem dX6_draw_10 : decode cX6_draw 10 = .ok (.ldc2_w 206, 3) := by decide +kernel
theorem dX6_draw_13 : decode cX6_draw 13 = .ok (.ladd, 1) := by decide +kernel
theorem dX6_draw_14 : decode cX6_draw 14 = .ok (.ldc2_w 208, 3) := by decide +kernel
theorem dX6_draw_17 : decode cX6_draw 17 = .ok (.land, 1) := by decide +kernel
theorem dX6_draw_18 : decode cX6_draw 18 = .ok (.l2i, 1) := by decide +kernel
theorem dX6_draw_19 : decode cX6_draw 19 = .ok (.putfield 203, 3) := by decide +kernel
theorem dX6_draw_22 : decode cX6_draw 22 = .ok (.aload_n 0, 1) := by decide +kernel
theorem dX6_draw_23 : decode cX6_draw 23 = .ok (.getfield 203, 3) := by decide +kernel
theorem dX6_draw_26 : decode cX6_draw 26 = .ok (.ldc 210, 2) := by decide +kernel
theorem dX6_draw_28 : decode cX6_draw 28 = .ok (.idiv, 1) := by decide +kernel
theorem dX6_draw_29 : decode cX6_draw 29 = .ok (.iload_n 1, 1) := by decide +kernel
theorem dX6_draw_30 : decode cX6_draw 30 = .ok (.irem, 1) := by decide +kernel
theorem dX6_draw_31 : decode cX6_draw 31 = .ok (.ireturn, 1) := by decide +kernel
set_option maxRecDepth 20000 in
theorem ggX6_pourings_X6_lacks : GoodIn wsX6_pourings wsX6_lacks := goodIn_r _ [12, 4, 43, 44, 45, 46, 47, 48, 49, 50, 51, 52, 53, 54, 55, 56, 57, 58, 59, 60, 61, 62, 63, 64, 65, 66, 67, 68] (by decide +kernel) (by decide +kernel)
set_option maxRecDepth 20000 in
theorem gX6_pourings_X6_lacks : GoodIn wsX6_pourings (wsV RX6 168 RX6 yX6_lacks wsX6_lacks) := goodIn_app (goodIn_of _ (by decide +kernel)) ggX6_pourings_X6_lacks
set_option maxRecDepth 20000 in
theorem ggX6_pourings_X6_isIn : GoodIn wsX6_pourings wsX6_isIn := goodIn_r _ [15] (by decide +kernel) (by decide +kernel)
set_option maxRecDepth 20000 in
theorem gX6_pourings_X6_isIn : GoodIn wsX6_pourings (va_wsS RX6 66 yX6_isIn wsX6_isIn) := goodIn_app (goodIn_of _ (by decide +kernel)) ggX6_pourings_X6_isIn
set_option maxRecDepth 20000 in
theorem ggX6_pourings_X6_beginWould : GoodIn wsX6_pourings wsX6_beginWould := goodIn_r _ [19, 5, 20, 21, 22, 23, 11, 24, 4, 7, 6, 25, 26, 27, 28, 29, 30, 43, 44, 45, 46, 47, 48, 49, 50, 51, 52, 53, 54, 55, 56, 57, 58, 59, 60, 61, 62, 63, 64, 65, 66, 67, 68] (by decide +kernel) (by decide +kernel)
set_option maxRecDepth 20000 in
theorem gX6_pourings_X6_beginWould : GoodIn wsX6_pourings (wsV RX6 161 RX6 yX6_beginWould wsX6_beginWould) := goodIn_app (goodIn_of _ (by decide +kernel)) ggX6_pourings_X6_beginWould
set_option maxRecDepth 20000 in
theorem ggX6_pourings_X6_draw : GoodIn wsX6_pourings wsX6_draw := goodIn_r _ [34, 35, 3, 36, 37, 38, 43, 44, 45, 46, 47, 48, 49, 50, 51, 52, 53, 54, 55, 56, 57, 58, 59, 60, 61, 62, 63, 64, 65, 66, 67, 68] (by decide +kernel) (by decide +kernel)
set_option maxRecDepth 20000 in
theorem gX6_pourings_X6_draw : GoodIn wsX6_pourings (wsV RX6 215 RX6 yX6_draw wsX6_draw) := goodIn_app (goodIn_of _ (by decide +kernel)) ggX6_pourings_X6_draw
set_option maxRecDepth 20000 in
theorem ggX6_pourings_X6_runOver : GoodIn wsX6_pourings wsX6_runOver := goodIn_r _ [42, 4, 7, 26, 25, 43, 44, 45, 46, 47, 48, 49, 50, 51, 52, 53, 54, 55, 56, 57, 58, 59, 60, 61, 62, 63, 64, 65, 66, 67, 68] (by decide +kernel) (by decide +kernel)
set_option maxRecDepth 20000 in
theorem gX6_pourings_X6_runOver : GoodIn wsX6_pourings (wsV RX6 133 RX6 yX6_runOver wsX6_runOver) := goodIn_app (goodIn_of _ (by decide +kernel)) ggX6_pourings_X6_runOver
theorem dX6_pourings_0 : decode cX6_pourings 0 = .ok (.aload_n 0, 1) := by decide +kernel
theorem dX6_pourings_1 : decode cX6_pourings 1 = .ok (.invokevirtual 168, 3) := by decide +kernel
theorem dX6_pourings_4 : decode cX6_pourings 4 = .ok (.ifCond .eq 6, 3) := by decide +kernel
theorem dX6_pourings_7 : decode cX6_pourings 7 = .ok (.bipush (-103), 2) := by decide +kernel
theorem dX6_pourings_9 : decode cX6_pourings 9 = .ok (.ireturn, 1) := by decide +kernel
theorem dX6_pourings_10 : decode cX6_pourings 10 = .ok (.iload_n 1, 1) := by decide +kernel
theorem dX6_pourings_11 : decode cX6_pourings 11 = .ok (.i2l, 1) := by decide +kernel
theorem dX6_pourings_12 : decode cX6_pourings 12 = .ok (.lconst 1, 1) := by decide +kernel
theorem dX6_pourings_13 : decode cX6_pourings 13 = .ok (.ldc2_w 211, 3) := by decide +kernel
theorem dX6_pourings_16 : decode cX6_pourings 16 = .ok (.invokestatic 66, 3) := by decide +kernel
theorem dX6_pourings_19 : decode cX6_pourings 19 = .ok (.ifCond .eq 19, 3) := by decide +kernel
theorem dX6_pourings_22 : decode cX6_pourings 22 = .ok (.iload_n 2, 1) := by decide +kernel
theorem dX6_pourings_23 : decode cX6_pourings 23 = .ok (.ifCond .lt 15, 3) := by decide +kernel
theorem dX6_pourings_26 : decode cX6_pourings 26 = .ok (.iload_n 3, 1) := by decide +kernel
theorem dX6_pourings_27 : decode cX6_pourings 27 = .ok (.i2l, 1) := by decide +kernel
theorem dX6_pourings_28 : decode cX6_pourings 28 = .ok (.lconst 0, 1) := by decide +kernel
theorem dX6_pourings_29 : decode cX6_pourings 29 = .ok (.ldc2_w 213, 3) := by decide +kernel
theorem dX6_pourings_32 : decode cX6_pourings 32 = .ok (.invokestatic 66, 3) := by decide +kernel
theorem dX6_pourings_35 : decode cX6_pourings 35 = .ok (.ifCond .ne 6, 3) := by decide +kernel
theorem dX6_pourings_38 : decode cX6_pourings 38 = .ok (.bipush (-102), 2) := by decide +kernel
theorem dX6_pourings_40 : decode cX6_pourings 40 = .ok (.ireturn, 1) := by decide +kernel
theorem dX6_pourings_41 : decode cX6_pourings 41 = .ok (.aload_n 0, 1) := by decide +kernel
theorem dX6_pourings_42 : decode cX6_pourings 42 = .ok (.iconst 1, 1) := by decide +kernel
theorem dX6_pourings_43 : decode cX6_pourings 43 = .ok (.invokevirtual 161, 3) := by decide +kernel
theorem dX6_pourings_46 : decode cX6_pourings 46 = .ok (.aload_n 0, 1) := by decide +kernel
theorem dX6_pourings_47 : decode cX6_pourings 47 = .ok (.iload_n 2, 1) := by decide +kernel
theorem dX6_pourings_48 : decode cX6_pourings 48 = .ok (.putfield 203, 3) := by decide +kernel
theorem dX6_pourings_51 : decode cX6_pourings 51 = .ok (.iconst 0, 1) := by decide +kernel
theorem dX6_pourings_52 : decode cX6_pourings 52 = .ok (.istore 4, 2) := by decide +kernel
theorem dX6_pourings_54 : decode cX6_pourings 54 = .ok (.iload 4, 2) := by decide +kernel
theorem dX6_pourings_56 : decode cX6_pourings 56 = .ok (.iload_n 1, 1) := by decide +kernel
theorem dX6_pourings_57 : decode cX6_pourings 57 = .ok (.if_icmp .ge 68, 3) := by decide +kernel
theorem dX6_pourings_60 : decode cX6_pourings 60 = .ok (.aload_n 0, 1) := by decide +kernel
theorem dX6_pourings_61 : decode cX6_pourings 61 = .ok (.aload_n 0, 1) := by decide +kernel
theorem dX6_pourings_62 : decode cX6_pourings 62 = .ok (.getfield 97, 3) := by decide +kernel
theorem dX6_pourings_65 : decode cX6_pourings 65 = .ok (.invokevirtual 215, 3) := by decide +kernel
theorem dX6_pourings_68 : decode cX6_pourings 68 = .ok (.istore 5, 2) := by decide +kernel
theorem dX6_pourings_70 : decode cX6_pourings 70 = .ok (.aload_n 0, 1) := by decide +kernel
theorem dX6_pourings_71 : decode cX6_pourings 71 = .ok (.getfield 35, 3) := by decide +kernel
theorem dX6_pourings_74 : decode cX6_pourings 74 = .ok (.iload 5, 2) := by decide +kernel
theorem dX6_pourings_76 : decode cX6_pourings 76 = .ok (.dup2, 1) := by decide +kernel
theorem dX6_pourings_77 : decode cX6_pourings 77 = .ok (.laload, 1) := by decide +kernel
theorem dX6_pourings_78 : decode cX6_pourings 78 = .ok (.ldc2_w 113, 3) := by decide +kernel
theorem dX6_pourings_81 : decode cX6_pourings 81 = .ok (.ladd, 1) := by decide +kernel
theorem dX6_pourings_82 : decode cX6_pourings 82 = .ok (.lastore, 1) := by decide +kernel
theorem dX6_pourings_83 : decode cX6_pourings 83 = .ok (.aload_n 0, 1) := by decide +kernel
theorem dX6_pourings_84 : decode cX6_pourings 84 = .ok (.aload_n 0, 1) := by decide +kernel
theorem dX6_pourings_85 : decode cX6_pourings 85 = .ok (.getfield 35, 3) := by decide +kernel
theorem dX6_pourings_88 : decode cX6_pourings 88 = .ok (.invokevirtual 133, 3) := by decide +kernel
theorem dX6_pourings_91 : decode cX6_pourings 91 = .ok (.lstore 6, 2) := by decide +kernel
theorem dX6_pourings_93 : decode cX6_pourings 93 = .ok (.aload_n 0, 1) := by decide +kernel
theorem dX6_pourings_94 : decode cX6_pourings 94 = .ok (.iconst 4, 1) := by decide +kernel
theorem dX6_pourings_95 : decode cX6_pourings 95 = .ok (.invokevirtual 215, 3) := by decide +kernel
theorem dX6_pourings_98 : decode cX6_pourings 98 = .ok (.ifCond .ne 21, 3) := by decide +kernel
theorem dX6_pourings_101 : decode cX6_pourings 101 = .ok (.aload_n 0, 1) := by decide +kernel
theorem dX6_pourings_102 : decode cX6_pourings 102 = .ok (.aload_n 0, 1) := by decide +kernel
theorem dX6_pourings_103 : decode cX6_pourings 103 = .ok (.getfield 97, 3) := by decide +kernel
theorem dX6_pourings_106 : decode cX6_pourings 106 = .ok (.invokevirtual 215, 3) := by decide +kernel
theorem dX6_pourings_109 : decode cX6_pourings 109 = .ok (.istore 8, 2) := by decide +kernel
theorem dX6_pourings_111 : decode cX6_pourings 111 = .ok (.aload_n 0, 1) := by decide +kernel
theorem dX6_pourings_112 : decode cX6_pourings 112 = .ok (.getfield 35, 3) := by decide +kernel
theorem dX6_pourings_115 : decode cX6_pourings 115 = .ok (.iload 8, 2) := by decide +kernel
theorem dX6_pourings_117 : decode cX6_pourings 117 = .ok (.lconst 0, 1) := by decide +kernel
theorem dX6_pourings_118 : decode cX6_pourings 118 = .ok (.lastore, 1) := by decide +kernel
theorem dX6_pourings_119 : decode cX6_pourings 119 = .ok (.iinc 4 1, 3) := by decide +kernel
theorem dX6_pourings_122 : decode cX6_pourings 122 = .ok (.goto (-68), 3) := by decide +kernel
theorem dX6_pourings_125 : decode cX6_pourings 125 = .ok (.iconst 0, 1) := by decide +kernel
theorem dX6_pourings_126 : decode cX6_pourings 126 = .ok (.istore 4, 2) := by decide +kernel
theorem dX6_pourings_128 : decode cX6_pourings 128 = .ok (.iconst 0, 1) := by decide +kernel
theorem dX6_pourings_129 : decode cX6_pourings 129 = .ok (.istore 5, 2) := by decide +kernel
theorem dX6_pourings_131 : decode cX6_pourings 131 = .ok (.iconst 0, 1) := by decide +kernel
theorem dX6_pourings_132 : decode cX6_pourings 132 = .ok (.istore 6, 2) := by decide +kernel
theorem dX6_pourings_134 : decode cX6_pourings 134 = .ok (.iload 6, 2) := by decide +kernel
theorem dX6_pourings_136 : decode cX6_pourings 136 = .ok (.aload_n 0, 1) := by decide +kernel
theorem dX6_pourings_137 : decode cX6_pourings 137 = .ok (.getfield 97, 3) := by decide +kernel
theorem dX6_pourings_140 : decode cX6_pourings 140 = .ok (.if_icmp .ge 59, 3) := by decide +kernel
theorem dX6_pourings_143 : decode cX6_pourings 143 = .ok (.iload 4, 2) := by decide +kernel
theorem dX6_pourings_145 : decode cX6_pourings 145 = .ok (.aload_n 0, 1) := by decide +kernel
theorem dX6_pourings_146 : decode cX6_pourings 146 = .ok (.getfield 35, 3) := by decide +kernel
theorem dX6_pourings_149 : decode cX6_pourings 149 = .ok (.iload 6, 2) := by decide +kernel
theorem dX6_pourings_151 : decode cX6_pourings 151 = .ok (.laload, 1) := by decide +kernel
theorem dX6_pourings_152 : decode cX6_pourings 152 = .ok (.aload_n 0, 1) := by decide +kernel
theorem dX6_pourings_153 : decode cX6_pourings 153 = .ok (.getfield 29, 3) := by decide +kernel
theorem dX6_pourings_156 : decode cX6_pourings 156 = .ok (.iload 6, 2) := by decide +kernel
theorem dX6_pourings_158 : decode cX6_pourings 158 = .ok (.laload, 1) := by decide +kernel
theorem dX6_pourings_159 : decode cX6_pourings 159 = .ok (.lcmp, 1) := by decide +kernel
theorem dX6_pourings_160 : decode cX6_pourings 160 = .ok (.ifCond .ne 7, 3) := by decide +kernel
theorem dX6_pourings_163 : decode cX6_pourings 163 = .ok (.iconst 1, 1) := by decide +kernel
theorem dX6_pourings_164 : decode cX6_pourings 164 = .ok (.goto 4, 3) := by decide +kernel
theorem dX6_pourings_167 : decode cX6_pourings 167 = .ok (.iconst 0, 1) := by decide +kernel
theorem dX6_pourings_168 : decode cX6_pourings 168 = .ok (.iadd, 1) := by decide +kernel
theorem dX6_pourings_169 : decode cX6_pourings 169 = .ok (.istore 4, 2) := by decide +kernel
theorem dX6_pourings_171 : decode cX6_pourings 171 = .ok (.iload 5, 2) := by decide +kernel
theorem dX6_pourings_173 : decode cX6_pourings 173 = .ok (.aload_n 0, 1) := by decide +kernel
theorem dX6_pourings_174 : decode cX6_pourings 174 = .ok (.getfield 35, 3) := by decide +kernel
theorem dX6_pourings_177 : decode cX6_pourings 177 = .ok (.iload 6, 2) := by decide +kernel
theorem dX6_pourings_179 : decode cX6_pourings 179 = .ok (.laload, 1) := by decide +kernel
theorem dX6_pourings_180 : decode cX6_pourings 180 = .ok (.lconst 0, 1) := by decide +kernel
theorem dX6_pourings_181 : decode cX6_pourings 181 = .ok (.lcmp, 1) := by decide +kernel
theorem dX6_pourings_182 : decode cX6_pourings 182 = .ok (.ifCond .ne 7, 3) := by decide +kernel
theorem dX6_pourings_185 : decode cX6_pourings 185 = .ok (.iconst 1, 1) := by decide +kernel
theorem dX6_pourings_186 : decode cX6_pourings 186 = .ok (.goto 4, 3) := by decide +kernel
theorem dX6_pourings_189 : decode cX6_pourings 189 = .ok (.iconst 0, 1) := by decide +kernel
theorem dX6_pourings_190 : decode cX6_pourings 190 = .ok (.iadd, 1) := by decide +kernel
theorem dX6_pourings_191 : decode cX6_pourings 191 = .ok (.istore 5, 2) := by decide +kernel
theorem dX6_pourings_193 : decode cX6_pourings 193 = .ok (.iinc 6 1, 3) := by decide +kernel
theorem dX6_pourings_196 : decode cX6_pourings 196 = .ok (.goto (-62), 3) := by decide +kernel
theorem dX6_pourings_199 : decode cX6_pourings 199 = .ok (.iload_n 3, 1) := by decide +kernel
theorem dX6_pourings_200 : decode cX6_pourings 200 = .ok (.ifCond .ne 8, 3) := by decide +kernel
theorem dX6_pourings_203 : decode cX6_pourings 203 = .ok (.iload 4, 2) := by decide +kernel
theorem dX6_pourings_205 : decode cX6_pourings 205 = .ok (.goto 17, 3) := by decide +kernel
theorem dX6_pourings_208 : decode cX6_pourings 208 = .ok (.iload_n 3, 1) := by decide +kernel
theorem dX6_pourings_209 : decode cX6_pourings 209 = .ok (.iconst 1, 1) := by decide +kernel
theorem dX6_pourings_210 : decode cX6_pourings 210 = .ok (.if_icmp .ne 8, 3) := by decide +kernel
theorem dX6_pourings_213 : decode cX6_pourings 213 = .ok (.iload 5, 2) := by decide +kernel
theorem dX6_pourings_215 : decode cX6_pourings 215 = .ok (.goto 7, 3) := by decide +kernel
theorem dX6_pourings_218 : decode cX6_pourings 218 = .ok (.aload_n 0, 1) := by decide +kernel
theorem dX6_pourings_219 : decode cX6_pourings 219 = .ok (.getfield 203, 3) := by decide +kernel
theorem dX6_pourings_222 : decode cX6_pourings 222 = .ok (.ireturn, 1) := by decide +kernel
set_option maxRecDepth 20000 in
theorem ggX6_image_X6_lacks : GoodIn wsX6_image wsX6_lacks := goodIn_r _ [17, 18, 19, 20, 21, 22, 23, 24, 25, 26, 27, 28, 29, 30, 31, 32, 33, 34, 35, 36, 37, 38, 39, 40, 41, 42, 43, 44] (by decide +kernel) (by decide +kernel)
set_option maxRecDepth 20000 in
theorem gX6_image_X6_lacks : GoodIn wsX6_image (wsV RX6 168 RX6 yX6_lacks wsX6_lacks) := goodIn_app (goodIn_of _ (by decide +kernel)) ggX6_image_X6_lacks
theorem dX6_image_0 : decode cX6_image 0 = .ok (.aload_n 0, 1) := by decide +kernel
theorem dX6_image_1 : decode cX6_image 1 = .ok (.invokevirtual 168, 3) := by decide +kernel
theorem dX6_image_4 : decode cX6_image 4 = .ok (.ifCond .eq 6, 3) := by decide +kernel
theorem dX6_image_7 : decode cX6_image 7 = .ok (.bipush (-103), 2) := by decide +kernel
theorem dX6_image_9 : decode cX6_image 9 = .ok (.ireturn, 1) := by decide +kernel
theorem dX6_image_10 : decode cX6_image 10 = .ok (.iconst 0, 1) := by decide +kernel
theorem dX6_image_11 : decode cX6_image 11 = .ok (.istore_n 1, 1) := by decide +kernel
theorem dX6_image_12 : decode cX6_image 12 = .ok (.iload_n 1, 1) := by decide +kernel
theorem dX6_image_13 : decode cX6_image 13 = .ok (.bipush 9, 2) := by decide +kernel
theorem dX6_image_15 : decode cX6_image 15 = .ok (.if_icmp .ge 45, 3) := by decide +kernel
theorem dX6_image_18 : decode cX6_image 18 = .ok (.aload_n 0, 1) := by decide +kernel
theorem dX6_image_19 : decode cX6_image 19 = .ok (.getfield 38, 3) := by decide +kernel
theorem dX6_image_22 : decode cX6_image 22 = .ok (.iload_n 1, 1) := by decide +kernel
theorem dX6_image_23 : decode cX6_image 23 = .ok (.aload_n 0, 1) := by decide +kernel
theorem dX6_image_24 : decode cX6_image 24 = .ok (.getfield 22, 3) := by decide +kernel
theorem dX6_image_27 : decode cX6_image 27 = .ok (.iload_n 1, 1) := by decide +kernel
theorem dX6_image_28 : decode cX6_image 28 = .ok (.laload, 1) := by decide +kernel
theorem dX6_image_29 : decode cX6_image 29 = .ok (.lastore, 1) := by decide +kernel
theorem dX6_image_30 : decode cX6_image 30 = .ok (.aload_n 0, 1) := by decide +kernel
theorem dX6_image_31 : decode cX6_image 31 = .ok (.getfield 41, 3) := by decide +kernel
theorem dX6_image_34 : decode cX6_image 34 = .ok (.iload_n 1, 1) := by decide +kernel
theorem dX6_image_35 : decode cX6_image 35 = .ok (.aload_n 0, 1) := by decide +kernel
theorem dX6_image_36 : decode cX6_image 36 = .ok (.getfield 26, 3) := by decide +kernel
theorem dX6_image_39 : decode cX6_image 39 = .ok (.iload_n 1, 1) := by decide +kernel
theorem dX6_image_40 : decode cX6_image 40 = .ok (.laload, 1) := by decide +kernel
theorem dX6_image_41 : decode cX6_image 41 = .ok (.lastore, 1) := by decide +kernel
theorem dX6_image_42 : decode cX6_image 42 = .ok (.aload_n 0, 1) := by decide +kernel
theorem dX6_image_43 : decode cX6_image 43 = .ok (.getfield 44, 3) := by decide +kernel
theorem dX6_image_46 : decode cX6_image 46 = .ok (.iload_n 1, 1) := by decide +kernel
theorem dX6_image_47 : decode cX6_image 47 = .ok (.aload_n 0, 1) := by decide +kernel
theorem dX6_image_48 : decode cX6_image 48 = .ok (.getfield 19, 3) := by decide +kernel
theorem dX6_image_51 : decode cX6_image 51 = .ok (.iload_n 1, 1) := by decide +kernel
theorem dX6_image_52 : decode cX6_image 52 = .ok (.iaload, 1) := by decide +kernel
theorem dX6_image_53 : decode cX6_image 53 = .ok (.iastore, 1) := by decide +kernel
theorem dX6_image_54 : decode cX6_image 54 = .ok (.iinc 1 1, 3) := by decide +kernel
theorem dX6_image_57 : decode cX6_image 57 = .ok (.goto (-45), 3) := by decide +kernel
theorem dX6_image_60 : decode cX6_image 60 = .ok (.aload_n 0, 1) := by decide +kernel
theorem dX6_image_61 : decode cX6_image 61 = .ok (.aload_n 0, 1) := by decide +kernel
theorem dX6_image_62 : decode cX6_image 62 = .ok (.getfield 110, 3) := by decide +kernel
theorem dX6_image_65 : decode cX6_image 65 = .ok (.putfield 218, 3) := by decide +kernel
theorem dX6_image_68 : decode cX6_image 68 = .ok (.aload_n 0, 1) := by decide +kernel
theorem dX6_image_69 : decode cX6_image 69 = .ok (.aload_n 0, 1) := by decide +kernel
theorem dX6_image_70 : decode cX6_image 70 = .ok (.getfield 106, 3) := by decide +kernel
theorem dX6_image_73 : decode cX6_image 73 = .ok (.putfield 221, 3) := by decide +kernel
theorem dX6_image_76 : decode cX6_image 76 = .ok (.aload_n 0, 1) := by decide +kernel
theorem dX6_image_77 : decode cX6_image 77 = .ok (.aload_n 0, 1) := by decide +kernel
theorem dX6_image_78 : decode cX6_image 78 = .ok (.getfield 103, 3) := by decide +kernel
theorem dX6_image_81 : decode cX6_image 81 = .ok (.putfield 47, 3) := by decide +kernel
theorem dX6_image_84 : decode cX6_image 84 = .ok (.aload_n 0, 1) := by decide +kernel
theorem dX6_image_85 : decode cX6_image 85 = .ok (.getfield 110, 3) := by decide +kernel
theorem dX6_image_88 : decode cX6_image 88 = .ok (.ireturn, 1) := by decide +kernel
theorem dX6_restore_0 : decode cX6_restore 0 = .ok (.aload_n 0, 1) := by decide +kernel
theorem dX6_restore_1 : decode cX6_restore 1 = .ok (.getfield 47, 3) := by decide +kernel
theorem dX6_restore_4 : decode cX6_restore 4 = .ok (.aload_n 0, 1) := by decide +kernel
theorem dX6_restore_5 : decode cX6_restore 5 = .ok (.getfield 103, 3) := by decide +kernel
theorem dX6_restore_8 : decode cX6_restore 8 = .ok (.if_icmp .eq 6, 3) := by decide +kernel
theorem dX6_restore_11 : decode cX6_restore 11 = .ok (.bipush (-103), 2) := by decide +kernel
theorem dX6_restore_13 : decode cX6_restore 13 = .ok (.ireturn, 1) := by decide +kernel
theorem dX6_restore_14 : decode cX6_restore 14 = .ok (.iconst 0, 1) := by decide +kernel
theorem dX6_restore_15 : decode cX6_restore 15 = .ok (.istore_n 1, 1) := by decide +kernel
theorem dX6_restore_16 : decode cX6_restore 16 = .ok (.iload_n 1, 1) := by decide +kernel
theorem dX6_restore_17 : decode cX6_restore 17 = .ok (.bipush 9, 2) := by decide +kernel
theorem dX6_restore_19 : decode cX6_restore 19 = .ok (.if_icmp .ge 45, 3) := by decide +kernel
theorem dX6_restore_22 : decode cX6_restore 22 = .ok (.aload_n 0, 1) := by decide +kernel
theorem dX6_restore_23 : decode cX6_restore 23 = .ok (.getfield 22, 3) := by decide +kernel
theorem dX6_restore_26 : decode cX6_restore 26 = .ok (.iload_n 1, 1) := by decide +kernel
theorem dX6_restore_27 : decode cX6_restore 27 = .ok (.aload_n 0, 1) := by decide +kernel
theorem dX6_restore_28 : decode cX6_restore 28 = .ok (.getfield 38, 3) := by decide +kernel
theorem dX6_restore_31 : decode cX6_restore 31 = .ok (.iload_n 1, 1) := by decide +kernel
theorem dX6_restore_32 : decode cX6_restore 32 = .ok (.laload, 1) := by decide +kernel
theorem dX6_restore_33 : decode cX6_restore 33 = .ok (.lastore, 1) := by decide +kernel
theorem dX6_restore_34 : decode cX6_restore 34 = .ok (.aload_n 0, 1) := by decide +kernel
theorem dX6_restore_35 : decode cX6_restore 35 = .ok (.getfield 26, 3) := by decide +kernel
theorem dX6_restore_38 : decode cX6_restore 38 = .ok (.iload_n 1, 1) := by decide +kernel
theorem dX6_restore_39 : decode cX6_restore 39 = .ok (.aload_n 0, 1) := by decide +kernel
theorem dX6_restore_40 : decode cX6_restore 40 = .ok (.getfield 41, 3) := by decide +kernel
theorem dX6_restore_43 : decode cX6_restore 43 = .ok (.iload_n 1, 1) := by decide +kernel
theorem dX6_restore_44 : decode cX6_restore 44 = .ok (.laload, 1) := by decide +kernel
theorem dX6_restore_45 : decode cX6_restore 45 = .ok (.lastore, 1) := by decide +kernel
theorem dX6_restore_46 : decode cX6_restore 46 = .ok (.aload_n 0, 1) := by decide +kernel
theorem dX6_restore_47 : decode cX6_restore 47 = .ok (.getfield 19, 3) := by decide +kernel
theorem dX6_restore_50 : decode cX6_restore 50 = .ok (.iload_n 1, 1) := by decide +kernel
theorem dX6_restore_51 : decode cX6_restore 51 = .ok (.aload_n 0, 1) := by decide +kernel
theorem dX6_restore_52 : decode cX6_restore 52 = .ok (.getfield 44, 3) := by decide +kernel
theorem dX6_restore_55 : decode cX6_restore 55 = .ok (.iload_n 1, 1) := by decide +kernel
theorem dX6_restore_56 : decode cX6_restore 56 = .ok (.iaload, 1) := by decide +kernel
theorem dX6_restore_57 : decode cX6_restore 57 = .ok (.iastore, 1) := by decide +kernel
theorem dX6_restore_58 : decode cX6_restore 58 = .ok (.iinc 1 1, 3) := by decide +kernel
theorem dX6_restore_61 : decode cX6_restore 61 = .ok (.goto (-45), 3) := by decide +kernel
theorem dX6_restore_64 : decode cX6_restore 64 = .ok (.aload_n 0, 1) := by decide +kernel
theorem dX6_restore_65 : decode cX6_restore 65 = .ok (.aload_n 0, 1) := by decide +kernel
theorem dX6_restore_66 : decode cX6_restore 66 = .ok (.getfield 218, 3) := by decide +kernel
theorem dX6_restore_69 : decode cX6_restore 69 = .ok (.putfield 110, 3) := by decide +kernel
theorem dX6_restore_72 : decode cX6_restore 72 = .ok (.aload_n 0, 1) := by decide +kernel
theorem dX6_restore_73 : decode cX6_restore 73 = .ok (.aload_n 0, 1) := by decide +kernel
theorem dX6_restore_74 : decode cX6_restore 74 = .ok (.getfield 221, 3) := by decide +kernel
theorem dX6_restore_77 : decode cX6_restore 77 = .ok (.putfield 106, 3) := by decide +kernel
theorem dX6_restore_80 : decode cX6_restore 80 = .ok (.aload_n 0, 1) := by decide +kernel
theorem dX6_restore_81 : decode cX6_restore 81 = .ok (.getfield 110, 3) := by decide +kernel
theorem dX6_restore_84 : decode cX6_restore 84 = .ok (.ireturn, 1) := by decide +kernel
set_option maxRecDepth 20000 in
theorem ggX6_countOf_X6_fullMany : GoodIn wsX6_countOf wsX6_fullMany := goodIn_r _ [10, 1, 11, 12, 13, 9, 14, 15, 16, 17, 18, 19, 20, 21, 22, 23, 24, 25, 26, 27, 28, 29, 30, 31, 32, 33, 34, 35, 36, 37, 38, 39, 40, 41, 42, 43, 44, 45, 46, 47] (by decide +kernel) (by decide +kernel)
set_option maxRecDepth 20000 in
theorem gX6_countOf_X6_fullMany : GoodIn wsX6_countOf (wsV RX6 224 RX6 yX6_fullMany wsX6_fullMany) := goodIn_app (goodIn_of _ (by decide +kernel)) ggX6_countOf_X6_fullMany
theorem dX6_countOf_0 : decode cX6_countOf 0 = .ok (.iload_n 1, 1) := by decide +kernel
theorem dX6_countOf_1 : decode cX6_countOf 1 = .ok (.tableswitch 69 0 5 #[39, 44, 49, 54, 59, 64], 39) := by decide +kernel
theorem dX6_countOf_40 : decode cX6_countOf 40 = .ok (.aload_n 0, 1) := by decide +kernel
theorem dX6_countOf_41 : decode cX6_countOf 41 = .ok (.getfield 97, 3) := by decide +kernel
theorem dX6_countOf_44 : decode cX6_countOf 44 = .ok (.ireturn, 1) := by decide +kernel
theorem dX6_countOf_45 : decode cX6_countOf 45 = .ok (.aload_n 0, 1) := by decide +kernel
theorem dX6_countOf_46 : decode cX6_countOf 46 = .ok (.getfield 110, 3) := by decide +kernel
theorem dX6_countOf_49 : decode cX6_countOf 49 = .ok (.ireturn, 1) := by decide +kernel
theorem dX6_countOf_50 : decode cX6_countOf 50 = .ok (.aload_n 0, 1) := by decide +kernel
theorem dX6_countOf_51 : decode cX6_countOf 51 = .ok (.invokevirtual 224, 3) := by decide +kernel
theorem dX6_countOf_54 : decode cX6_countOf 54 = .ok (.ireturn, 1) := by decide +kernel
theorem dX6_countOf_55 : decode cX6_countOf 55 = .ok (.aload_n 0, 1) := by decide +kernel
theorem dX6_countOf_56 : decode cX6_countOf 56 = .ok (.getfield 53, 3) := by decide +kernel
theorem dX6_countOf_59 : decode cX6_countOf 59 = .ok (.ireturn, 1) := by decide +kernel
theorem dX6_countOf_60 : decode cX6_countOf 60 = .ok (.aload_n 0, 1) := by decide +kernel
theorem dX6_countOf_61 : decode cX6_countOf 61 = .ok (.getfield 103, 3) := by decide +kernel
theorem dX6_countOf_64 : decode cX6_countOf 64 = .ok (.ireturn, 1) := by decide +kernel
theorem dX6_countOf_65 : decode cX6_countOf 65 = .ok (.aload_n 0, 1) := by decide +kernel
theorem dX6_countOf_66 : decode cX6_countOf 66 = .ok (.getfield 171, 3) := by decide +kernel
theorem dX6_countOf_69 : decode cX6_countOf 69 = .ok (.ireturn, 1) := by decide +kernel
theorem dX6_countOf_70 : decode cX6_countOf 70 = .ok (.bipush (-102), 2) := by decide +kernel
theorem dX6_countOf_72 : decode cX6_countOf 72 = .ok (.ireturn, 1) := by decide +kernel
set_option maxRecDepth 20000 in
theorem ggX6_count_X6_countOf : GoodIn wsX6_count wsX6_countOf := goodIn_r _ [5, 6, 7, 8, 9, 10, 11, 12, 13, 4, 14, 15, 16, 17, 18, 19, 20, 21, 22, 23, 24, 25, 26, 27, 28, 29, 30, 31, 32, 33, 34, 35, 36, 37, 38, 39, 40, 41, 42, 43, 44, 45, 46, 47, 48, 49, 50, 51] (by decide +kernel) (by decide +kernel)
set_option maxRecDepth 20000 in
theorem gX6_count_X6_countOf : GoodIn wsX6_count (wsV RX6 227 RX6 yX6_countOf wsX6_countOf) := goodIn_app (goodIn_of _ (by decide +kernel)) ggX6_count_X6_countOf
theorem dX6_count_0 : decode cX6_count 0 = .ok (.aload_n 0, 1) := by decide +kernel
theorem dX6_count_1 : decode cX6_count 1 = .ok (.iload_n 1, 1) := by decide +kernel
theorem dX6_count_2 : decode cX6_count 2 = .ok (.invokevirtual 227, 3) := by decide +kernel
theorem dX6_count_5 : decode cX6_count 5 = .ok (.ireturn, 1) := by decide +kernel
theorem dX6_say_0 : decode cX6_say 0 = .ok (.aload_n 0, 1) := by decide +kernel
theorem dX6_say_1 : decode cX6_say 1 = .ok (.ldc2_w 230, 3) := by decide +kernel
theorem dX6_say_4 : decode cX6_say 4 = .ok (.aload_n 0, 1) := by decide +kernel
theorem dX6_say_5 : decode cX6_say 5 = .ok (.getfield 232, 3) := by decide +kernel
theorem dX6_say_8 : decode cX6_say 8 = .ok (.lmul, 1) := by decide +kernel
theorem dX6_say_9 : decode cX6_say 9 = .ok (.lload_n 1, 1) := by decide +kernel
theorem dX6_say_10 : decode cX6_say 10 = .ok (.ladd, 1) := by decide +kernel
theorem dX6_say_11 : decode cX6_say 11 = .ok (.putfield 232, 3) := by decide +kernel
theorem dX6_say_14 : decode cX6_say 14 = .ok (.return_, 1) := by decide +kernel
set_option maxRecDepth 20000 in
theorem ggX6_sayGlass_X6_tellGlass : GoodIn wsX6_sayGlass wsX6_tellGlass := goodIn_r _ [7, 8, 9, 10, 11, 12, 6, 13, 14, 15, 16, 17, 1, 18, 28, 29, 30, 31, 32, 33, 34, 35, 36, 37, 38, 39, 40, 41, 42, 43, 44, 45, 46, 47, 48, 49, 50, 51, 52, 53] (by decide +kernel) (by decide +kernel)
set_option maxRecDepth 20000 in
theorem gX6_sayGlass_X6_tellGlass : GoodIn wsX6_sayGlass (wsV RX6 124 RX6 yX6_tellGlass wsX6_tellGlass) := goodIn_app (goodIn_of _ (by decide +kernel)) ggX6_sayGlass_X6_tellGlass
set_option maxRecDepth 20000 in
theorem ggX6_sayGlass_X6_say : GoodIn wsX6_sayGlass wsX6_say := goodIn_r _ [22, 23, 24, 28, 29, 30, 31, 32, 33, 34, 35, 36, 37, 38, 39, 40, 41, 42, 43, 44, 45, 46, 47, 48, 49, 50, 51, 52, 53] (by decide +kernel) (by decide +kernel)
set_option maxRecDepth 20000 in
theorem gX6_sayGlass_X6_say : GoodIn wsX6_sayGlass (wsV RX6 235 RX6 yX6_say wsX6_say) := goodIn_app (goodIn_of _ (by decide +kernel)) ggX6_sayGlass_X6_say
set_option maxRecDepth 20000 in
theorem ggX6_sayGlass_X6_term : GoodIn wsX6_sayGlass wsX6_term := goodIn_r _ [27, 18] (by decide +kernel) (by decide +kernel)
set_option maxRecDepth 20000 in
theorem gX6_sayGlass_X6_term : GoodIn wsX6_sayGlass (va_wsS RX6 148 yX6_term wsX6_term) := goodIn_app (goodIn_of _ (by decide +kernel)) ggX6_sayGlass_X6_term
theorem dX6_sayGlass_0 : decode cX6_sayGlass 0 = .ok (.iconst 0, 1) := by decide +kernel
theorem dX6_sayGlass_1 : decode cX6_sayGlass 1 = .ok (.istore_n 2, 1) := by decide +kernel
theorem dX6_sayGlass_2 : decode cX6_sayGlass 2 = .ok (.iload_n 2, 1) := by decide +kernel
theorem dX6_sayGlass_3 : decode cX6_sayGlass 3 = .ok (.bipush 9, 2) := by decide +kernel
theorem dX6_sayGlass_5 : decode cX6_sayGlass 5 = .ok (.if_icmp .ge 20, 3) := by decide +kernel
theorem dX6_sayGlass_8 : decode cX6_sayGlass 8 = .ok (.aload_n 0, 1) := by decide +kernel
theorem dX6_sayGlass_9 : decode cX6_sayGlass 9 = .ok (.aload_n 0, 1) := by decide +kernel
theorem dX6_sayGlass_10 : decode cX6_sayGlass 10 = .ok (.iload_n 1, 1) := by decide +kernel
theorem dX6_sayGlass_11 : decode cX6_sayGlass 11 = .ok (.iload_n 2, 1) := by decide +kernel
theorem dX6_sayGlass_12 : decode cX6_sayGlass 12 = .ok (.invokevirtual 124, 3) := by decide +kernel
theorem dX6_sayGlass_15 : decode cX6_sayGlass 15 = .ok (.i2l, 1) := by decide +kernel
theorem dX6_sayGlass_16 : decode cX6_sayGlass 16 = .ok (.invokevirtual 235, 3) := by decide +kernel
theorem dX6_sayGlass_19 : decode cX6_sayGlass 19 = .ok (.iinc 2 1, 3) := by decide +kernel
theorem dX6_sayGlass_22 : decode cX6_sayGlass 22 = .ok (.goto (-20), 3) := by decide +kernel
theorem dX6_sayGlass_25 : decode cX6_sayGlass 25 = .ok (.aload_n 0, 1) := by decide +kernel
theorem dX6_sayGlass_26 : decode cX6_sayGlass 26 = .ok (.aload_n 0, 1) := by decide +kernel
theorem dX6_sayGlass_27 : decode cX6_sayGlass 27 = .ok (.getfield 22, 3) := by decide +kernel
theorem dX6_sayGlass_30 : decode cX6_sayGlass 30 = .ok (.iload_n 1, 1) := by decide +kernel
theorem dX6_sayGlass_31 : decode cX6_sayGlass 31 = .ok (.laload, 1) := by decide +kernel
theorem dX6_sayGlass_32 : decode cX6_sayGlass 32 = .ok (.iconst 0, 1) := by decide +kernel
theorem dX6_sayGlass_33 : decode cX6_sayGlass 33 = .ok (.invokestatic 148, 3) := by decide +kernel
theorem dX6_sayGlass_36 : decode cX6_sayGlass 36 = .ok (.invokevirtual 235, 3) := by decide +kernel
theorem dX6_sayGlass_39 : decode cX6_sayGlass 39 = .ok (.aload_n 0, 1) := by decide +kernel
theorem dX6_sayGlass_40 : decode cX6_sayGlass 40 = .ok (.aload_n 0, 1) := by decide +kernel
theorem dX6_sayGlass_41 : decode cX6_sayGlass 41 = .ok (.getfield 22, 3) := by decide +kernel
theorem dX6_sayGlass_44 : decode cX6_sayGlass 44 = .ok (.iload_n 1, 1) := by decide +kernel
theorem dX6_sayGlass_45 : decode cX6_sayGlass 45 = .ok (.laload, 1) := by decide +kernel
theorem dX6_sayGlass_46 : decode cX6_sayGlass 46 = .ok (.iconst 1, 1) := by decide +kernel
theorem dX6_sayGlass_47 : decode cX6_sayGlass 47 = .ok (.invokestatic 148, 3) := by decide +kernel
theorem dX6_sayGlass_50 : decode cX6_sayGlass 50 = .ok (.invokevirtual 235, 3) := by decide +kernel
theorem dX6_sayGlass_53 : decode cX6_sayGlass 53 = .ok (.aload_n 0, 1) := by decide +kernel
theorem dX6_sayGlass_54 : decode cX6_sayGlass 54 = .ok (.aload_n 0, 1) := by decide +kernel
theorem dX6_sayGlass_55 : decode cX6_sayGlass 55 = .ok (.getfield 26, 3) := by decide +kernel
theorem dX6_sayGlass_58 : decode cX6_sayGlass 58 = .ok (.iload_n 1, 1) := by decide +kernel
theorem dX6_sayGlass_59 : decode cX6_sayGlass 59 = .ok (.laload, 1) := by decide +kernel
theorem dX6_sayGlass_60 : decode cX6_sayGlass 60 = .ok (.iconst 0, 1) := by decide +kernel
theorem dX6_sayGlass_61 : decode cX6_sayGlass 61 = .ok (.invokestatic 148, 3) := by decide +kernel
theorem dX6_sayGlass_64 : decode cX6_sayGlass 64 = .ok (.invokevirtual 235, 3) := by decide +kernel
theorem dX6_sayGlass_67 : decode cX6_sayGlass 67 = .ok (.aload_n 0, 1) := by decide +kernel
theorem dX6_sayGlass_68 : decode cX6_sayGlass 68 = .ok (.aload_n 0, 1) := by decide +kernel
theorem dX6_sayGlass_69 : decode cX6_sayGlass 69 = .ok (.getfield 26, 3) := by decide +kernel
theorem dX6_sayGlass_72 : decode cX6_sayGlass 72 = .ok (.iload_n 1, 1) := by decide +kernel
theorem dX6_sayGlass_73 : decode cX6_sayGlass 73 = .ok (.laload, 1) := by decide +kernel
theorem dX6_sayGlass_74 : decode cX6_sayGlass 74 = .ok (.iconst 1, 1) := by decide +kernel
theorem dX6_sayGlass_75 : decode cX6_sayGlass 75 = .ok (.invokestatic 148, 3) := by decide +kernel
theorem dX6_sayGlass_78 : decode cX6_sayGlass 78 = .ok (.invokevirtual 235, 3) := by decide +kernel
theorem dX6_sayGlass_81 : decode cX6_sayGlass 81 = .ok (.return_, 1) := by decide +kernel
set_option maxRecDepth 20000 in
theorem ggX6_digest_X6_sayGlass : GoodIn wsX6_digest wsX6_sayGlass := goodIn_r _ [12, 13, 14, 15, 16, 17, 11, 18, 19, 20, 21, 22, 23, 24, 25, 26, 27, 28, 29, 30, 31, 32, 33, 34, 2, 35, 36, 37, 83, 84, 85, 86, 87, 88, 89, 90, 91, 92, 93, 94, 95, 96, 97, 98, 99, 100, 101, 102, 103, 104, 105, 106, 107, 108] (by decide +kernel) (by decide +kernel)
set_option maxRecDepth 20000 in
theorem gX6_digest_X6_sayGlass : GoodIn wsX6_digest (wsV RX6 241 RX6 yX6_sayGlass wsX6_sayGlass) := goodIn_app (goodIn_of _ (by decide +kernel)) ggX6_digest_X6_sayGlass
set_option maxRecDepth 20000 in
theorem ggX6_digest_X6_term : GoodIn wsX6_digest wsX6_term := goodIn_r _ [37, 29] (by decide +kernel) (by decide +kernel)
set_option maxRecDepth 20000 in
theorem gX6_digest_X6_term : GoodIn wsX6_digest (va_wsS RX6 148 yX6_term wsX6_term) := goodIn_app (goodIn_of _ (by decide +kernel)) ggX6_digest_X6_term
set_option maxRecDepth 20000 in
theorem ggX6_digest_X6_say : GoodIn wsX6_digest wsX6_say := goodIn_r _ [33, 34, 2, 83, 84, 85, 86, 87, 88, 89, 90, 91, 92, 93, 94, 95, 96, 97, 98, 99, 100, 101, 102, 103, 104, 105, 106, 107, 108] (by decide +kernel) (by decide +kernel)
set_option maxRecDepth 20000 in
theorem gX6_digest_X6_say : GoodIn wsX6_digest (wsV RX6 235 RX6 yX6_say wsX6_say) := goodIn_app (goodIn_of _ (by decide +kernel)) ggX6_digest_X6_say
set_option maxRecDepth 20000 in
theorem ggX6_digest_X6_together : GoodIn wsX6_digest wsX6_together := goodIn_r _ [41, 3, 13, 83, 84, 85, 86, 87, 88, 89, 90, 91, 92, 93, 94, 95, 96, 97, 98, 99, 100, 101, 102, 103, 104, 105, 106, 107, 108] (by decide +kernel) (by decide +kernel)
set_option maxRecDepth 20000 in
theorem gX6_digest_X6_together : GoodIn wsX6_digest (wsV RX6 154 RX6 yX6_together wsX6_together) := goodIn_app (goodIn_of _ (by decide +kernel)) ggX6_digest_X6_together
set_option maxRecDepth 20000 in
theorem ggX6_digest_X6_lacks : GoodIn wsX6_digest wsX6_lacks := goodIn_r _ [45, 3, 83, 84, 85, 86, 87, 88, 89, 90, 91, 92, 93, 94, 95, 96, 97, 98, 99, 100, 101, 102, 103, 104, 105, 106, 107, 108] (by decide +kernel) (by decide +kernel)
set_option maxRecDepth 20000 in
theorem gX6_digest_X6_lacks : GoodIn wsX6_digest (wsV RX6 168 RX6 yX6_lacks wsX6_lacks) := goodIn_app (goodIn_of _ (by decide +kernel)) ggX6_digest_X6_lacks
set_option maxRecDepth 20000 in
theorem ggX6_digest_X6_needOf : GoodIn wsX6_digest wsX6_needOf := goodIn_r _ [49, 3, 50, 51, 29, 52, 53, 54, 11, 55, 13, 56, 57, 58, 59, 60, 19, 21, 22, 23, 24, 61, 62, 63, 64, 83, 84, 85, 86, 87, 88, 89, 90, 91, 92, 93, 94, 95, 96, 97, 98, 99, 100, 101, 102, 103, 104, 105, 106, 107, 108] (by decide +kernel) (by decide +kernel)
set_option maxRecDepth 20000 in
theorem gX6_digest_X6_needOf : GoodIn wsX6_digest (wsV RX6 165 RX6 yX6_needOf wsX6_needOf) := goodIn_app (goodIn_of _ (by decide +kernel)) ggX6_digest_X6_needOf
set_option maxRecDepth 20000 in
theorem ggX6_digest_X6_chipsOf : GoodIn wsX6_digest wsX6_chipsOf := goodIn_r _ [68, 3, 19, 69, 70, 71, 11, 72, 51, 29, 50, 13, 52, 53, 54, 55, 56, 57, 58, 59, 60, 21, 22, 23, 24, 61, 62, 63, 64, 83, 84, 85, 86, 87, 88, 89, 90, 91, 92, 93, 94, 95, 96, 97, 98, 99, 100, 101, 102, 103, 104, 105, 106, 107, 108] (by decide +kernel) (by decide +kernel)
set_option maxRecDepth 20000 in
theorem gX6_digest_X6_chipsOf : GoodIn wsX6_digest (wsV RX6 192 RX6 yX6_chipsOf wsX6_chipsOf) := goodIn_app (goodIn_of _ (by decide +kernel)) ggX6_digest_X6_chipsOf
set_option maxRecDepth 20000 in
theorem ggX6_digest_X6_countOf : GoodIn wsX6_digest wsX6_countOf := goodIn_r _ [76, 3, 5, 6, 77, 78, 79, 80, 81, 11, 82, 25, 26, 27, 28, 13, 29, 21, 22, 23, 24, 19, 83, 84, 85, 86, 87, 88, 89, 90, 91, 92, 93, 94, 95, 96, 97, 98, 99, 100, 101, 102, 103, 104, 105, 106, 107, 108] (by decide +kernel) (by decide +kernel)
set_option maxRecDepth 20000 in
theorem gX6_digest_X6_countOf : GoodIn wsX6_digest (wsV RX6 227 RX6 yX6_countOf wsX6_countOf) := goodIn_app (goodIn_of _ (by decide +kernel)) ggX6_digest_X6_countOf
theorem dX6_digest_0 : decode cX6_digest 0 = .ok (.aload_n 0, 1) := by decide +kernel
theorem dX6_digest_1 : decode cX6_digest 1 = .ok (.ldc2_w 239, 3) := by decide +kernel
theorem dX6_digest_4 : decode cX6_digest 4 = .ok (.putfield 232, 3) := by decide +kernel
theorem dX6_digest_7 : decode cX6_digest 7 = .ok (.iconst 0, 1) := by decide +kernel
theorem dX6_digest_8 : decode cX6_digest 8 = .ok (.istore_n 1, 1) := by decide +kernel
theorem dX6_digest_9 : decode cX6_digest 9 = .ok (.iload_n 1, 1) := by decide +kernel
theorem dX6_digest_10 : decode cX6_digest 10 = .ok (.aload_n 0, 1) := by decide +kernel
theorem dX6_digest_11 : decode cX6_digest 11 = .ok (.getfield 97, 3) := by decide +kernel
theorem dX6_digest_14 : decode cX6_digest 14 = .ok (.if_icmp .ge 14, 3) := by decide +kernel
theorem dX6_digest_17 : decode cX6_digest 17 = .ok (.aload_n 0, 1) := by decide +kernel
theorem dX6_digest_18 : decode cX6_digest 18 = .ok (.iload_n 1, 1) := by decide +kernel
theorem dX6_digest_19 : decode cX6_digest 19 = .ok (.invokevirtual 241, 3) := by decide +kernel
theorem dX6_digest_22 : decode cX6_digest 22 = .ok (.iinc 1 1, 3) := by decide +kernel
theorem dX6_digest_25 : decode cX6_digest 25 = .ok (.goto (-16), 3) := by decide +kernel
theorem dX6_digest_28 : decode cX6_digest 28 = .ok (.aload_n 0, 1) := by decide +kernel
theorem dX6_digest_29 : decode cX6_digest 29 = .ok (.aload_n 0, 1) := by decide +kernel
theorem dX6_digest_30 : decode cX6_digest 30 = .ok (.getfield 106, 3) := by decide +kernel
theorem dX6_digest_33 : decode cX6_digest 33 = .ok (.iconst 0, 1) := by decide +kernel
theorem dX6_digest_34 : decode cX6_digest 34 = .ok (.invokestatic 148, 3) := by decide +kernel
theorem dX6_digest_37 : decode cX6_digest 37 = .ok (.invokevirtual 235, 3) := by decide +kernel
theorem dX6_digest_40 : decode cX6_digest 40 = .ok (.aload_n 0, 1) := by decide +kernel
theorem dX6_digest_41 : decode cX6_digest 41 = .ok (.aload_n 0, 1) := by decide +kernel
theorem dX6_digest_42 : decode cX6_digest 42 = .ok (.getfield 106, 3) := by decide +kernel
theorem dX6_digest_45 : decode cX6_digest 45 = .ok (.iconst 1, 1) := by decide +kernel
theorem dX6_digest_46 : decode cX6_digest 46 = .ok (.invokestatic 148, 3) := by decide +kernel
theorem dX6_digest_49 : decode cX6_digest 49 = .ok (.invokevirtual 235, 3) := by decide +kernel
theorem dX6_digest_52 : decode cX6_digest 52 = .ok (.aload_n 0, 1) := by decide +kernel
theorem dX6_digest_53 : decode cX6_digest 53 = .ok (.aload_n 0, 1) := by decide +kernel
theorem dX6_digest_54 : decode cX6_digest 54 = .ok (.invokevirtual 154, 3) := by decide +kernel
theorem dX6_digest_57 : decode cX6_digest 57 = .ok (.iconst 0, 1) := by decide +kernel
theorem dX6_digest_58 : decode cX6_digest 58 = .ok (.invokestatic 148, 3) := by decide +kernel
theorem dX6_digest_61 : decode cX6_digest 61 = .ok (.invokevirtual 235, 3) := by decide +kernel
theorem dX6_digest_64 : decode cX6_digest 64 = .ok (.aload_n 0, 1) := by decide +kernel
theorem dX6_digest_65 : decode cX6_digest 65 = .ok (.aload_n 0, 1) := by decide +kernel
theorem dX6_digest_66 : decode cX6_digest 66 = .ok (.invokevirtual 154, 3) := by decide +kernel
theorem dX6_digest_69 : decode cX6_digest 69 = .ok (.iconst 1, 1) := by decide +kernel
theorem dX6_digest_70 : decode cX6_digest 70 = .ok (.invokestatic 148, 3) := by decide +kernel
theorem dX6_digest_73 : decode cX6_digest 73 = .ok (.invokevirtual 235, 3) := by decide +kernel
theorem dX6_digest_76 : decode cX6_digest 76 = .ok (.aload_n 0, 1) := by decide +kernel
theorem dX6_digest_77 : decode cX6_digest 77 = .ok (.invokevirtual 168, 3) := by decide +kernel
theorem dX6_digest_80 : decode cX6_digest 80 = .ok (.ifCond .ne 50, 3) := by decide +kernel
theorem dX6_digest_83 : decode cX6_digest 83 = .ok (.aload_n 0, 1) := by decide +kernel
theorem dX6_digest_84 : decode cX6_digest 84 = .ok (.aload_n 0, 1) := by decide +kernel
theorem dX6_digest_85 : decode cX6_digest 85 = .ok (.iconst 1, 1) := by decide +kernel
theorem dX6_digest_86 : decode cX6_digest 86 = .ok (.aload_n 0, 1) := by decide +kernel
theorem dX6_digest_87 : decode cX6_digest 87 = .ok (.getfield 97, 3) := by decide +kernel
theorem dX6_digest_90 : decode cX6_digest 90 = .ok (.ishl, 1) := by decide +kernel
theorem dX6_digest_91 : decode cX6_digest 91 = .ok (.iconst 1, 1) := by decide +kernel
theorem dX6_digest_92 : decode cX6_digest 92 = .ok (.isub, 1) := by decide +kernel
theorem dX6_digest_93 : decode cX6_digest 93 = .ok (.iconst 0, 1) := by decide +kernel
theorem dX6_digest_94 : decode cX6_digest 94 = .ok (.invokevirtual 165, 3) := by decide +kernel
theorem dX6_digest_97 : decode cX6_digest 97 = .ok (.i2l, 1) := by decide +kernel
theorem dX6_digest_98 : decode cX6_digest 98 = .ok (.invokevirtual 235, 3) := by decide +kernel
theorem dX6_digest_101 : decode cX6_digest 101 = .ok (.aload_n 0, 1) := by decide +kernel
theorem dX6_digest_102 : decode cX6_digest 102 = .ok (.aload_n 0, 1) := by decide +kernel
theorem dX6_digest_103 : decode cX6_digest 103 = .ok (.aload_n 0, 1) := by decide +kernel
theorem dX6_digest_104 : decode cX6_digest 104 = .ok (.getfield 110, 3) := by decide +kernel
theorem dX6_digest_107 : decode cX6_digest 107 = .ok (.sipush 999, 3) := by decide +kernel
theorem dX6_digest_110 : decode cX6_digest 110 = .ok (.if_icmp .le 9, 3) := by decide +kernel
theorem dX6_digest_113 : decode cX6_digest 113 = .ok (.sipush 999, 3) := by decide +kernel
theorem dX6_digest_116 : decode cX6_digest 116 = .ok (.goto 7, 3) := by decide +kernel
theorem dX6_digest_119 : decode cX6_digest 119 = .ok (.aload_n 0, 1) := by decide +kernel
theorem dX6_digest_120 : decode cX6_digest 120 = .ok (.getfield 110, 3) := by decide +kernel
theorem dX6_digest_123 : decode cX6_digest 123 = .ok (.invokevirtual 192, 3) := by decide +kernel
theorem dX6_digest_126 : decode cX6_digest 126 = .ok (.i2l, 1) := by decide +kernel
theorem dX6_digest_127 : decode cX6_digest 127 = .ok (.invokevirtual 235, 3) := by decide +kernel
theorem dX6_digest_130 : decode cX6_digest 130 = .ok (.iconst 0, 1) := by decide +kernel
theorem dX6_digest_131 : decode cX6_digest 131 = .ok (.istore_n 1, 1) := by decide +kernel
theorem dX6_digest_132 : decode cX6_digest 132 = .ok (.iload_n 1, 1) := by decide +kernel
theorem dX6_digest_133 : decode cX6_digest 133 = .ok (.aload_n 0, 1) := by decide +kernel
theorem dX6_digest_134 : decode cX6_digest 134 = .ok (.getfield 53, 3) := by decide +kernel
theorem dX6_digest_137 : decode cX6_digest 137 = .ok (.if_icmp .ge 20, 3) := by decide +kernel
theorem dX6_digest_140 : decode cX6_digest 140 = .ok (.aload_n 0, 1) := by decide +kernel
theorem dX6_digest_141 : decode cX6_digest 141 = .ok (.aload_n 0, 1) := by decide +kernel
theorem dX6_digest_142 : decode cX6_digest 142 = .ok (.getfield 7, 3) := by decide +kernel
theorem dX6_digest_145 : decode cX6_digest 145 = .ok (.iload_n 1, 1) := by decide +kernel
theorem dX6_digest_146 : decode cX6_digest 146 = .ok (.iaload, 1) := by decide +kernel
theorem dX6_digest_147 : decode cX6_digest 147 = .ok (.i2l, 1) := by decide +kernel
theorem dX6_digest_148 : decode cX6_digest 148 = .ok (.invokevirtual 235, 3) := by decide +kernel
theorem dX6_digest_151 : decode cX6_digest 151 = .ok (.iinc 1 1, 3) := by decide +kernel
theorem dX6_digest_154 : decode cX6_digest 154 = .ok (.goto (-22), 3) := by decide +kernel
theorem dX6_digest_157 : decode cX6_digest 157 = .ok (.iconst 0, 1) := by decide +kernel
theorem dX6_digest_158 : decode cX6_digest 158 = .ok (.istore_n 1, 1) := by decide +kernel
theorem dX6_digest_159 : decode cX6_digest 159 = .ok (.iload_n 1, 1) := by decide +kernel
theorem dX6_digest_160 : decode cX6_digest 160 = .ok (.bipush 6, 2) := by decide +kernel
theorem dX6_digest_162 : decode cX6_digest 162 = .ok (.if_icmp .ge 19, 3) := by decide +kernel
theorem dX6_digest_165 : decode cX6_digest 165 = .ok (.aload_n 0, 1) := by decide +kernel
theorem dX6_digest_166 : decode cX6_digest 166 = .ok (.aload_n 0, 1) := by decide +kernel
theorem dX6_digest_167 : decode cX6_digest 167 = .ok (.iload_n 1, 1) := by decide +kernel
theorem dX6_digest_168 : decode cX6_digest 168 = .ok (.invokevirtual 227, 3) := by decide +kernel
theorem dX6_digest_171 : decode cX6_digest 171 = .ok (.i2l, 1) := by decide +kernel
theorem dX6_digest_172 : decode cX6_digest 172 = .ok (.invokevirtual 235, 3) := by decide +kernel
theorem dX6_digest_175 : decode cX6_digest 175 = .ok (.iinc 1 1, 3) := by decide +kernel
theorem dX6_digest_178 : decode cX6_digest 178 = .ok (.goto (-19), 3) := by decide +kernel
theorem dX6_digest_181 : decode cX6_digest 181 = .ok (.aload_n 0, 1) := by decide +kernel
theorem dX6_digest_182 : decode cX6_digest 182 = .ok (.getfield 232, 3) := by decide +kernel
theorem dX6_digest_185 : decode cX6_digest 185 = .ok (.lreturn, 1) := by decide +kernel
theorem dJ11_isValidCodePoint_9a6ad_0 : decode cJ11_isValidCodePoint_9a6ad 0 = .ok (.iload_n 0, 1) := by decide +kernel
theorem dJ11_isValidCodePoint_9a6ad_1 : decode cJ11_isValidCodePoint_9a6ad 1 = .ok (.bipush 16, 2) := by decide +kernel
theorem dJ11_isValidCodePoint_9a6ad_3 : decode cJ11_isValidCodePoint_9a6ad 3 = .ok (.iushr, 1) := by decide +kernel
theorem dJ11_isValidCodePoint_9a6ad_4 : decode cJ11_isValidCodePoint_9a6ad 4 = .ok (.istore_n 1, 1) := by decide +kernel
theorem dJ11_isValidCodePoint_9a6ad_5 : decode cJ11_isValidCodePoint_9a6ad 5 = .ok (.iload_n 1, 1) := by decide +kernel
theorem dJ11_isValidCodePoint_9a6ad_6 : decode cJ11_isValidCodePoint_9a6ad 6 = .ok (.bipush 17, 2) := by decide +kernel
theorem dJ11_isValidCodePoint_9a6ad_8 : decode cJ11_isValidCodePoint_9a6ad 8 = .ok (.if_icmp .ge 7, 3) := by decide +kernel
theorem dJ11_isValidCodePoint_9a6ad_11 : decode cJ11_isValidCodePoint_9a6ad 11 = .ok (.iconst 1, 1) := by decide +kernel
theorem dJ11_isValidCodePoint_9a6ad_12 : decode cJ11_isValidCodePoint_9a6ad 12 = .ok (.goto 4, 3) := by decide +kernel
theorem dJ11_isValidCodePoint_9a6ad_15 : decode cJ11_isValidCodePoint_9a6ad 15 = .ok (.iconst 0, 1) := by decide +kernel
theorem dJ11_isValidCodePoint_9a6ad_16 : decode cJ11_isValidCodePoint_9a6ad 16 = .ok (.ireturn, 1) := by decide +kernel
theorem dJ11_highSurrogate_5068e_0 : decode cJ11_highSurrogate_5068e 0 = .ok (.iload_n 0, 1) := by decide +kernel
theorem dJ11_highSurrogate_5068e_1 : decode cJ11_highSurrogate_5068e 1 = .ok (.bipush 10, 2) := by decide +kernel
theorem dJ11_highSurrogate_5068e_3 : decode cJ11_highSurrogate_5068e 3 = .ok (.iushr, 1) := by decide +kernel
theorem dJ11_highSurrogate_5068e_4 : decode cJ11_highSurrogate_5068e 4 = .ok (.ldc 110, 2) := by decide +kernel
theorem dJ11_highSurrogate_5068e_6 : decode cJ11_highSurrogate_5068e 6 = .ok (.iadd, 1) := by decide +kernel
theorem dJ11_highSurrogate_5068e_7 : decode cJ11_highSurrogate_5068e 7 = .ok (.i2c, 1) := by decide +kernel
theorem dJ11_highSurrogate_5068e_8 : decode cJ11_highSurrogate_5068e 8 = .ok (.ireturn, 1) := by decide +kernel
theorem dJ11_lowSurrogate_5068e_0 : decode cJ11_lowSurrogate_5068e 0 = .ok (.iload_n 0, 1) := by decide +kernel
theorem dJ11_lowSurrogate_5068e_1 : decode cJ11_lowSurrogate_5068e 1 = .ok (.sipush 1023, 3) := by decide +kernel
theorem dJ11_lowSurrogate_5068e_4 : decode cJ11_lowSurrogate_5068e 4 = .ok (.iand, 1) := by decide +kernel
theorem dJ11_lowSurrogate_5068e_5 : decode cJ11_lowSurrogate_5068e 5 = .ok (.ldc 76, 2) := by decide +kernel
theorem dJ11_lowSurrogate_5068e_7 : decode cJ11_lowSurrogate_5068e 7 = .ok (.iadd, 1) := by decide +kernel
theorem dJ11_lowSurrogate_5068e_8 : decode cJ11_lowSurrogate_5068e 8 = .ok (.i2c, 1) := by decide +kernel
theorem dJ11_lowSurrogate_5068e_9 : decode cJ11_lowSurrogate_5068e 9 = .ok (.ireturn, 1) := by decide +kernel
theorem dJ6_bitCount_0f7a4_0 : decode cJ6_bitCount_0f7a4 0 = .ok (.iload_n 0, 1) := by decide +kernel
theorem dJ6_bitCount_0f7a4_1 : decode cJ6_bitCount_0f7a4 1 = .ok (.iload_n 0, 1) := by decide +kernel
theorem dJ6_bitCount_0f7a4_2 : decode cJ6_bitCount_0f7a4 2 = .ok (.iconst 1, 1) := by decide +kernel
theorem dJ6_bitCount_0f7a4_3 : decode cJ6_bitCount_0f7a4 3 = .ok (.iushr, 1) := by decide +kernel
theorem dJ6_bitCount_0f7a4_4 : decode cJ6_bitCount_0f7a4 4 = .ok (.ldc_w 265, 3) := by decide +kernel
theorem dJ6_bitCount_0f7a4_7 : decode cJ6_bitCount_0f7a4 7 = .ok (.iand, 1) := by decide +kernel
theorem dJ6_bitCount_0f7a4_8 : decode cJ6_bitCount_0f7a4 8 = .ok (.isub, 1) := by decide +kernel
theorem dJ6_bitCount_0f7a4_9 : decode cJ6_bitCount_0f7a4 9 = .ok (.istore_n 0, 1) := by decide +kernel
theorem dJ6_bitCount_0f7a4_10 : decode cJ6_bitCount_0f7a4 10 = .ok (.iload_n 0, 1) := by decide +kernel
theorem dJ6_bitCount_0f7a4_11 : decode cJ6_bitCount_0f7a4 11 = .ok (.ldc_w 266, 3) := by decide +kernel
theorem dJ6_bitCount_0f7a4_14 : decode cJ6_bitCount_0f7a4 14 = .ok (.iand, 1) := by decide +kernel
theorem dJ6_bitCount_0f7a4_15 : decode cJ6_bitCount_0f7a4 15 = .ok (.iload_n 0, 1) := by decide +kernel
theorem dJ6_bitCount_0f7a4_16 : decode cJ6_bitCount_0f7a4 16 = .ok (.iconst 2, 1) := by decide +kernel
theorem dJ6_bitCount_0f7a4_17 : decode cJ6_bitCount_0f7a4 17 = .ok (.iushr, 1) := by decide +kernel
theorem dJ6_bitCount_0f7a4_18 : decode cJ6_bitCount_0f7a4 18 = .ok (.ldc_w 266, 3) := by decide +kernel
theorem dJ6_bitCount_0f7a4_21 : decode cJ6_bitCount_0f7a4 21 = .ok (.iand, 1) := by decide +kernel
theorem dJ6_bitCount_0f7a4_22 : decode cJ6_bitCount_0f7a4 22 = .ok (.iadd, 1) := by decide +kernel
theorem dJ6_bitCount_0f7a4_23 : decode cJ6_bitCount_0f7a4 23 = .ok (.istore_n 0, 1) := by decide +kernel
theorem dJ6_bitCount_0f7a4_24 : decode cJ6_bitCount_0f7a4 24 = .ok (.iload_n 0, 1) := by decide +kernel
theorem dJ6_bitCount_0f7a4_25 : decode cJ6_bitCount_0f7a4 25 = .ok (.iload_n 0, 1) := by decide +kernel
theorem dJ6_bitCount_0f7a4_26 : decode cJ6_bitCount_0f7a4 26 = .ok (.iconst 4, 1) := by decide +kernel
theorem dJ6_bitCount_0f7a4_27 : decode cJ6_bitCount_0f7a4 27 = .ok (.iushr, 1) := by decide +kernel
theorem dJ6_bitCount_0f7a4_28 : decode cJ6_bitCount_0f7a4 28 = .ok (.iadd, 1) := by decide +kernel
theorem dJ6_bitCount_0f7a4_29 : decode cJ6_bitCount_0f7a4 29 = .ok (.ldc_w 267, 3) := by decide +kernel
theorem dJ6_bitCount_0f7a4_32 : decode cJ6_bitCount_0f7a4 32 = .ok (.iand, 1) := by decide +kernel
theorem dJ6_bitCount_0f7a4_33 : decode cJ6_bitCount_0f7a4 33 = .ok (.istore_n 0, 1) := by decide +kernel
theorem dJ6_bitCount_0f7a4_34 : decode cJ6_bitCount_0f7a4 34 = .ok (.iload_n 0, 1) := by decide +kernel
theorem dJ6_bitCount_0f7a4_35 : decode cJ6_bitCount_0f7a4 35 = .ok (.iload_n 0, 1) := by decide +kernel
theorem dJ6_bitCount_0f7a4_36 : decode cJ6_bitCount_0f7a4 36 = .ok (.bipush 8, 2) := by decide +kernel
theorem dJ6_bitCount_0f7a4_38 : decode cJ6_bitCount_0f7a4 38 = .ok (.iushr, 1) := by decide +kernel
theorem dJ6_bitCount_0f7a4_39 : decode cJ6_bitCount_0f7a4 39 = .ok (.iadd, 1) := by decide +kernel
theorem dJ6_bitCount_0f7a4_40 : decode cJ6_bitCount_0f7a4 40 = .ok (.istore_n 0, 1) := by decide +kernel
theorem dJ6_bitCount_0f7a4_41 : decode cJ6_bitCount_0f7a4 41 = .ok (.iload_n 0, 1) := by decide +kernel
theorem dJ6_bitCount_0f7a4_42 : decode cJ6_bitCount_0f7a4 42 = .ok (.iload_n 0, 1) := by decide +kernel
theorem dJ6_bitCount_0f7a4_43 : decode cJ6_bitCount_0f7a4 43 = .ok (.bipush 16, 2) := by decide +kernel
theorem dJ6_bitCount_0f7a4_45 : decode cJ6_bitCount_0f7a4 45 = .ok (.iushr, 1) := by decide +kernel
theorem dJ6_bitCount_0f7a4_46 : decode cJ6_bitCount_0f7a4 46 = .ok (.iadd, 1) := by decide +kernel
theorem dJ6_bitCount_0f7a4_47 : decode cJ6_bitCount_0f7a4 47 = .ok (.istore_n 0, 1) := by decide +kernel
theorem dJ6_bitCount_0f7a4_48 : decode cJ6_bitCount_0f7a4 48 = .ok (.iload_n 0, 1) := by decide +kernel
theorem dJ6_bitCount_0f7a4_49 : decode cJ6_bitCount_0f7a4 49 = .ok (.bipush 63, 2) := by decide +kernel
theorem dJ6_bitCount_0f7a4_51 : decode cJ6_bitCount_0f7a4 51 = .ok (.iand, 1) := by decide +kernel
theorem dJ6_bitCount_0f7a4_52 : decode cJ6_bitCount_0f7a4 52 = .ok (.ireturn, 1) := by decide +kernel
theorem dJ9_max_7cf53_0 : decode cJ9_max_7cf53 0 = .ok (.iload_n 0, 1) := by decide +kernel
theorem dJ9_max_7cf53_1 : decode cJ9_max_7cf53 1 = .ok (.iload_n 1, 1) := by decide +kernel
theorem dJ9_max_7cf53_2 : decode cJ9_max_7cf53 2 = .ok (.if_icmp .lt 7, 3) := by decide +kernel
theorem dJ9_max_7cf53_5 : decode cJ9_max_7cf53 5 = .ok (.iload_n 0, 1) := by decide +kernel
theorem dJ9_max_7cf53_6 : decode cJ9_max_7cf53 6 = .ok (.goto 4, 3) := by decide +kernel
theorem dJ9_max_7cf53_9 : decode cJ9_max_7cf53 9 = .ok (.iload_n 1, 1) := by decide +kernel
theorem dJ9_max_7cf53_10 : decode cJ9_max_7cf53 10 = .ok (.ireturn, 1) := by decide +kernel
theorem dJ9_max_f86c9_0 : decode cJ9_max_f86c9 0 = .ok (.lload_n 0, 1) := by decide +kernel
theorem dJ9_max_f86c9_1 : decode cJ9_max_f86c9 1 = .ok (.lload_n 2, 1) := by decide +kernel
theorem dJ9_max_f86c9_2 : decode cJ9_max_f86c9 2 = .ok (.lcmp, 1) := by decide +kernel
theorem dJ9_max_f86c9_3 : decode cJ9_max_f86c9 3 = .ok (.ifCond .lt 7, 3) := by decide +kernel
theorem dJ9_max_f86c9_6 : decode cJ9_max_f86c9 6 = .ok (.lload_n 0, 1) := by decide +kernel
theorem dJ9_max_f86c9_7 : decode cJ9_max_f86c9 7 = .ok (.goto 4, 3) := by decide +kernel
theorem dJ9_max_f86c9_10 : decode cJ9_max_f86c9 10 = .ok (.lload_n 2, 1) := by decide +kernel
theorem dJ9_max_f86c9_11 : decode cJ9_max_f86c9 11 = .ok (.lreturn, 1) := by decide +kernel
theorem dJ9_min_7cf53_0 : decode cJ9_min_7cf53 0 = .ok (.iload_n 0, 1) := by decide +kernel
theorem dJ9_min_7cf53_1 : decode cJ9_min_7cf53 1 = .ok (.iload_n 1, 1) := by decide +kernel
theorem dJ9_min_7cf53_2 : decode cJ9_min_7cf53 2 = .ok (.if_icmp .gt 7, 3) := by decide +kernel
theorem dJ9_min_7cf53_5 : decode cJ9_min_7cf53 5 = .ok (.iload_n 0, 1) := by decide +kernel
theorem dJ9_min_7cf53_6 : decode cJ9_min_7cf53 6 = .ok (.goto 4, 3) := by decide +kernel
theorem dJ9_min_7cf53_9 : decode cJ9_min_7cf53 9 = .ok (.iload_n 1, 1) := by decide +kernel
theorem dJ9_min_7cf53_10 : decode cJ9_min_7cf53 10 = .ok (.ireturn, 1) := by decide +kernel
set_option maxRecDepth 20000 in
theorem ggJ0_length_8abf5_J0_coder_7d493 : GoodIn wsJ0_length_8abf5 wsJ0_coder_7d493 := goodIn_r _ [6, 7, 8] (by decide +kernel) (by decide +kernel)
set_option maxRecDepth 20000 in
theorem gJ0_length_8abf5_J0_coder_7d493 : GoodIn wsJ0_length_8abf5 (wsV RJ0 335 RJ0 yJ0_coder_7d493 wsJ0_coder_7d493) := goodIn_app (goodIn_of _ (by decide +kernel)) ggJ0_length_8abf5_J0_coder_7d493
theorem dJ0_length_8abf5_0 : decode cJ0_length_8abf5 0 = .ok (.aload_n 0, 1) := by decide +kernel
theorem dJ0_length_8abf5_1 : decode cJ0_length_8abf5 1 = .ok (.getfield 9, 3) := by decide +kernel
theorem dJ0_length_8abf5_4 : decode cJ0_length_8abf5 4 = .ok (.arraylength, 1) := by decide +kernel
theorem dJ0_length_8abf5_5 : decode cJ0_length_8abf5 5 = .ok (.aload_n 0, 1) := by decide +kernel
theorem dJ0_length_8abf5_6 : decode cJ0_length_8abf5 6 = .ok (.invokevirtual 335, 3) := by decide +kernel
theorem dJ0_length_8abf5_9 : decode cJ0_length_8abf5 9 = .ok (.ishr, 1) := by decide +kernel
theorem dJ0_length_8abf5_10 : decode cJ0_length_8abf5 10 = .ok (.ireturn, 1) := by decide +kernel
set_option maxRecDepth 20000 in
theorem ggJ0_indexOf_0f7a4_J0_indexOf_7cf53 : GoodIn wsJ0_indexOf_0f7a4 wsJ0_indexOf_7cf53 := goodIn_r _ [5, 6, 7, 8, 9, 4, 10, 11, 12, 13, 14, 15, 16, 17, 18, 19, 20, 21, 22, 23, 24, 25, 26, 27, 28, 29, 30, 31, 32, 33, 34, 35, 36, 37, 38, 39, 40, 41, 42, 43, 44, 45, 46, 47, 48, 49, 50, 51, 52, 53, 54, 55, 56, 57, 58, 59, 60, 61, 62, 63, 64, 65, 66, 67, 68, 69, 70, 71, 72, 73, 74, 75, 76, 77, 78, 79, 80, 81, 82, 83, 84, 85] (by decide +kernel) (by decide +kernel)
set_option maxRecDepth 20000 in
theorem gJ0_indexOf_0f7a4_J0_indexOf_7cf53 : GoodIn wsJ0_indexOf_0f7a4 (wsV RJ0 633 RJ0 yJ0_indexOf_7cf53 wsJ0_indexOf_7cf53) := goodIn_app (goodIn_of _ (by decide +kernel)) ggJ0_indexOf_0f7a4_J0_indexOf_7cf53
theorem dJ0_indexOf_0f7a4_0 : decode cJ0_indexOf_0f7a4 0 = .ok (.aload_n 0, 1) := by decide +kernel
theorem dJ0_indexOf_0f7a4_1 : decode cJ0_indexOf_0f7a4 1 = .ok (.iload_n 1, 1) := by decide +kernel
theorem dJ0_indexOf_0f7a4_2 : decode cJ0_indexOf_0f7a4 2 = .ok (.iconst 0, 1) := by decide +kernel
theorem dJ0_indexOf_0f7a4_3 : decode cJ0_indexOf_0f7a4 3 = .ok (.invokevirtual 633, 3) := by decide +kernel
theorem dJ0_indexOf_0f7a4_6 : decode cJ0_indexOf_0f7a4 6 = .ok (.ireturn, 1) := by decide +kernel
set_option maxRecDepth 20000 in
theorem ggJ0_indexOf_7cf53_J0_isLatin1_aae02 : GoodIn wsJ0_indexOf_7cf53 wsJ0_isLatin1_aae02 := goodIn_r _ [6, 7, 8] (by decide +kernel) (by decide +kernel)
set_option maxRecDepth 20000 in
theorem gJ0_indexOf_7cf53_J0_isLatin1_aae02 : GoodIn wsJ0_indexOf_7cf53 (wsV RJ0 492 RJ0 yJ0_isLatin1_aae02 wsJ0_isLatin1_aae02) := goodIn_app (goodIn_of _ (by decide +kernel)) ggJ0_indexOf_7cf53_J0_isLatin1_aae02
set_option maxRecDepth 20000 in
theorem ggJ0_indexOf_7cf53_J0_length_8abf5 : GoodIn wsJ0_indexOf_7cf53 wsJ0_length_8abf5 := goodIn_r _ [12, 1, 13, 14, 15, 5, 16, 7, 8] (by decide +kernel) (by decide +kernel)
set_option maxRecDepth 20000 in
theorem gJ0_indexOf_7cf53_J0_length_8abf5 : GoodIn wsJ0_indexOf_7cf53 (wsV RJ0 505 RJ0 yJ0_length_8abf5 wsJ0_length_8abf5) := goodIn_app (goodIn_of _ (by decide +kernel)) ggJ0_indexOf_7cf53_J0_length_8abf5
set_option maxRecDepth 20000 in
theorem ggJ0_indexOf_7cf53_J1_indexOf_4cfef : GoodIn wsJ0_indexOf_7cf53 wsJ1_indexOf_4cfef := goodIn_r _ [20, 21, 22, 23, 24, 25, 26, 27, 28, 29, 19, 30, 31, 32, 33] (by decide +kernel) (by decide +kernel)
set_option maxRecDepth 20000 in
theorem gJ0_indexOf_7cf53_J1_indexOf_4cfef : GoodIn wsJ0_indexOf_7cf53 (va_wsS RJ0 637 yJ1_indexOf_4cfef wsJ1_indexOf_4cfef) := goodIn_app (goodIn_of _ (by decide +kernel)) ggJ0_indexOf_7cf53_J1_indexOf_4cfef
set_option maxRecDepth 20000 in
theorem ggJ0_indexOf_7cf53_J2_indexOf_4cfef : GoodIn wsJ0_indexOf_7cf53 wsJ2_indexOf_4cfef := goodIn_r _ [37, 38, 22, 23, 24, 39, 26, 27, 40, 41, 42, 36, 43, 44, 45, 46, 47, 48, 49, 50, 51, 5, 52, 53, 54, 55, 56, 57, 58, 59, 60, 61, 62, 63, 64, 65, 66, 67, 68, 69, 70, 71, 72, 73, 74, 75, 76, 77, 78, 79, 80, 81] (by decide +kernel) (by decide +kernel)
set_option maxRecDepth 20000 in
theorem gJ0_indexOf_7cf53_J2_indexOf_4cfef : GoodIn wsJ0_indexOf_7cf53 (va_wsS RJ0 640 yJ2_indexOf_4cfef wsJ2_indexOf_4cfef) := goodIn_app (goodIn_of _ (by decide +kernel)) ggJ0_indexOf_7cf53_J2_indexOf_4cfef
theorem dJ0_indexOf_7cf53_0 : decode cJ0_indexOf_7cf53 0 = .ok (.aload_n 0, 1) := by decide +kernel
theorem dJ0_indexOf_7cf53_1 : decode cJ0_indexOf_7cf53 1 = .ok (.invokevirtual 492, 3) := by decide +kernel
theorem dJ0_indexOf_7cf53_4 : decode cJ0_indexOf_7cf53 4 = .ok (.ifCond .eq 19, 3) := by decide +kernel
theorem dJ0_indexOf_7cf53_7 : decode cJ0_indexOf_7cf53 7 = .ok (.aload_n 0, 1) := by decide +kernel
theorem dJ0_indexOf_7cf53_8 : decode cJ0_indexOf_7cf53 8 = .ok (.getfield 9, 3) := by decide +kernel
theorem dJ0_indexOf_7cf53_11 : decode cJ0_indexOf_7cf53 11 = .ok (.iload_n 1, 1) := by decide +kernel
theorem dJ0_indexOf_7cf53_12 : decode cJ0_indexOf_7cf53 12 = .ok (.iload_n 2, 1) := by decide +kernel
theorem dJ0_indexOf_7cf53_13 : decode cJ0_indexOf_7cf53 13 = .ok (.aload_n 0, 1) := by decide +kernel
theorem dJ0_indexOf_7cf53_14 : decode cJ0_indexOf_7cf53 14 = .ok (.invokevirtual 505, 3) := by decide +kernel
theorem dJ0_indexOf_7cf53_17 : decode cJ0_indexOf_7cf53 17 = .ok (.invokestatic 637, 3) := by decide +kernel
theorem dJ0_indexOf_7cf53_20 : decode cJ0_indexOf_7cf53 20 = .ok (.goto 16, 3) := by decide +kernel
theorem dJ0_indexOf_7cf53_23 : decode cJ0_indexOf_7cf53 23 = .ok (.aload_n 0, 1) := by decide +kernel
theorem dJ0_indexOf_7cf53_24 : decode cJ0_indexOf_7cf53 24 = .ok (.getfield 9, 3) := by decide +kernel
theorem dJ0_indexOf_7cf53_27 : decode cJ0_indexOf_7cf53 27 = .ok (.iload_n 1, 1) := by decide +kernel
theorem dJ0_indexOf_7cf53_28 : decode cJ0_indexOf_7cf53 28 = .ok (.iload_n 2, 1) := by decide +kernel
theorem dJ0_indexOf_7cf53_29 : decode cJ0_indexOf_7cf53 29 = .ok (.aload_n 0, 1) := by decide +kernel
theorem dJ0_indexOf_7cf53_30 : decode cJ0_indexOf_7cf53 30 = .ok (.invokevirtual 505, 3) := by decide +kernel
theorem dJ0_indexOf_7cf53_33 : decode cJ0_indexOf_7cf53 33 = .ok (.invokestatic 640, 3) := by decide +kernel
theorem dJ0_indexOf_7cf53_36 : decode cJ0_indexOf_7cf53 36 = .ok (.ireturn, 1) := by decide +kernel
theorem dJ0_coder_7d493_0 : decode cJ0_coder_7d493 0 = .ok (.getstatic 38, 3) := by decide +kernel
theorem dJ0_coder_7d493_3 : decode cJ0_coder_7d493 3 = .ok (.ifCond .eq 10, 3) := by decide +kernel
theorem dJ0_coder_7d493_6 : decode cJ0_coder_7d493 6 = .ok (.aload_n 0, 1) := by decide +kernel
theorem dJ0_coder_7d493_7 : decode cJ0_coder_7d493 7 = .ok (.getfield 15, 3) := by decide +kernel
theorem dJ0_coder_7d493_10 : decode cJ0_coder_7d493 10 = .ok (.goto 4, 3) := by decide +kernel
theorem dJ0_coder_7d493_13 : decode cJ0_coder_7d493 13 = .ok (.iconst 1, 1) := by decide +kernel
theorem dJ0_coder_7d493_14 : decode cJ0_coder_7d493 14 = .ok (.ireturn, 1) := by decide +kernel
theorem dJ0_isLatin1_aae02_0 : decode cJ0_isLatin1_aae02 0 = .ok (.getstatic 38, 3) := by decide +kernel
theorem dJ0_isLatin1_aae02_3 : decode cJ0_isLatin1_aae02 3 = .ok (.ifCond .eq 14, 3) := by decide +kernel
theorem dJ0_isLatin1_aae02_6 : decode cJ0_isLatin1_aae02 6 = .ok (.aload_n 0, 1) := by decide +kernel
theorem dJ0_isLatin1_aae02_7 : decode cJ0_isLatin1_aae02 7 = .ok (.getfield 15, 3) := by decide +kernel
theorem dJ0_isLatin1_aae02_10 : decode cJ0_isLatin1_aae02 10 = .ok (.ifCond .ne 7, 3) := by decide +kernel
theorem dJ0_isLatin1_aae02_13 : decode cJ0_isLatin1_aae02 13 = .ok (.iconst 1, 1) := by decide +kernel
theorem dJ0_isLatin1_aae02_14 : decode cJ0_isLatin1_aae02 14 = .ok (.goto 4, 3) := by decide +kernel
theorem dJ0_isLatin1_aae02_17 : decode cJ0_isLatin1_aae02 17 = .ok (.iconst 0, 1) := by decide +kernel
theorem dJ0_isLatin1_aae02_18 : decode cJ0_isLatin1_aae02 18 = .ok (.ireturn, 1) := by decide +kernel
set_option maxRecDepth 20000 in
theorem ggJ0_checkBoundsBeginEnd_23922_J3_checkFromToIndex_8c36e : GoodIn wsJ0_checkBoundsBeginEnd_23922 wsJ3_checkFromToIndex_8c36e := goodIn_r _ [5] (by decide +kernel) (by decide +kernel)
set_option maxRecDepth 20000 in
theorem gJ0_checkBoundsBeginEnd_23922_J3_checkFromToIndex_8c36e : GoodIn wsJ0_checkBoundsBeginEnd_23922 (va_wsS RJ0 1062 yJ3_checkFromToIndex_8c36e wsJ3_checkFromToIndex_8c36e) := goodIn_app (goodIn_of _ (by decide +kernel)) ggJ0_checkBoundsBeginEnd_23922_J3_checkFromToIndex_8c36e
theorem dJ0_checkBoundsBeginEnd_23922_0 : decode cJ0_checkBoundsBeginEnd_23922 0 = .ok (.iload_n 0, 1) := by decide +kernel
theorem dJ0_checkBoundsBeginEnd_23922_1 : decode cJ0_checkBoundsBeginEnd_23922 1 = .ok (.iload_n 1, 1) := by decide +kernel
theorem dJ0_checkBoundsBeginEnd_23922_2 : decode cJ0_checkBoundsBeginEnd_23922 2 = .ok (.iload_n 2, 1) := by decide +kernel
theorem dJ0_checkBoundsBeginEnd_23922_3 : decode cJ0_checkBoundsBeginEnd_23922 3 = .ok (.getstatic 1053, 3) := by decide +kernel
theorem dJ0_checkBoundsBeginEnd_23922_6 : decode cJ0_checkBoundsBeginEnd_23922 6 = .ok (.invokestatic 1062, 3) := by decide +kernel
theorem dJ0_checkBoundsBeginEnd_23922_9 : decode cJ0_checkBoundsBeginEnd_23922 9 = .ok (.pop, 1) := by decide +kernel
theorem dJ0_checkBoundsBeginEnd_23922_10 : decode cJ0_checkBoundsBeginEnd_23922 10 = .ok (.return_, 1) := by decide +kernel
theorem dJ1_canEncode_9a6ad_0 : decode cJ1_canEncode_9a6ad 0 = .ok (.iload_n 0, 1) := by decide +kernel
theorem dJ1_canEncode_9a6ad_1 : decode cJ1_canEncode_9a6ad 1 = .ok (.ifCond .lt 14, 3) := by decide +kernel
theorem dJ1_canEncode_9a6ad_4 : decode cJ1_canEncode_9a6ad 4 = .ok (.iload_n 0, 1) := by decide +kernel
theorem dJ1_canEncode_9a6ad_5 : decode cJ1_canEncode_9a6ad 5 = .ok (.sipush 255, 3) := by decide +kernel
theorem dJ1_canEncode_9a6ad_8 : decode cJ1_canEncode_9a6ad 8 = .ok (.if_icmp .gt 7, 3) := by decide +kernel
theorem dJ1_canEncode_9a6ad_11 : decode cJ1_canEncode_9a6ad 11 = .ok (.iconst 1, 1) := by decide +kernel
theorem dJ1_canEncode_9a6ad_12 : decode cJ1_canEncode_9a6ad 12 = .ok (.goto 4, 3) := by decide +kernel
theorem dJ1_canEncode_9a6ad_15 : decode cJ1_canEncode_9a6ad 15 = .ok (.iconst 0, 1) := by decide +kernel
theorem dJ1_canEncode_9a6ad_16 : decode cJ1_canEncode_9a6ad 16 = .ok (.ireturn, 1) := by decide +kernel
set_option maxRecDepth 20000 in
theorem ggJ1_indexOf_4cfef_J1_canEncode_9a6ad : GoodIn wsJ1_indexOf_4cfef wsJ1_canEncode_9a6ad := goodIn_r _ [11] (by decide +kernel) (by decide +kernel)
set_option maxRecDepth 20000 in
theorem gJ1_indexOf_4cfef_J1_canEncode_9a6ad : GoodIn wsJ1_indexOf_4cfef (va_wsS RJ1 88 yJ1_canEncode_9a6ad wsJ1_canEncode_9a6ad) := goodIn_app (goodIn_of _ (by decide +kernel)) ggJ1_indexOf_4cfef_J1_canEncode_9a6ad
set_option maxRecDepth 20000 in
theorem ggJ1_indexOf_4cfef_J1_indexOfChar_4cfef : GoodIn wsJ1_indexOf_4cfef wsJ1_indexOfChar_4cfef := goodIn_r _ [14] (by decide +kernel) (by decide +kernel)
set_option maxRecDepth 20000 in
theorem gJ1_indexOf_4cfef_J1_indexOfChar_4cfef : GoodIn wsJ1_indexOf_4cfef (va_wsS RJ1 95 yJ1_indexOfChar_4cfef wsJ1_indexOfChar_4cfef) := goodIn_app (goodIn_of _ (by decide +kernel)) ggJ1_indexOf_4cfef_J1_indexOfChar_4cfef
theorem dJ1_indexOf_4cfef_0 : decode cJ1_indexOf_4cfef 0 = .ok (.iload_n 1, 1) := by decide +kernel
theorem dJ1_indexOf_4cfef_1 : decode cJ1_indexOf_4cfef 1 = .ok (.invokestatic 88, 3) := by decide +kernel
theorem dJ1_indexOf_4cfef_4 : decode cJ1_indexOf_4cfef 4 = .ok (.ifCond .ne 5, 3) := by decide +kernel
theorem dJ1_indexOf_4cfef_7 : decode cJ1_indexOf_4cfef 7 = .ok (.iconst (-1), 1) := by decide +kernel
theorem dJ1_indexOf_4cfef_8 : decode cJ1_indexOf_4cfef 8 = .ok (.ireturn, 1) := by decide +kernel
theorem dJ1_indexOf_4cfef_9 : decode cJ1_indexOf_4cfef 9 = .ok (.iload_n 2, 1) := by decide +kernel
theorem dJ1_indexOf_4cfef_10 : decode cJ1_indexOf_4cfef 10 = .ok (.iconst 0, 1) := by decide +kernel
theorem dJ1_indexOf_4cfef_11 : decode cJ1_indexOf_4cfef 11 = .ok (.invokestatic 92, 3) := by decide +kernel
theorem dJ1_indexOf_4cfef_14 : decode cJ1_indexOf_4cfef 14 = .ok (.istore_n 2, 1) := by decide +kernel
theorem dJ1_indexOf_4cfef_15 : decode cJ1_indexOf_4cfef 15 = .ok (.iload_n 3, 1) := by decide +kernel
theorem dJ1_indexOf_4cfef_16 : decode cJ1_indexOf_4cfef 16 = .ok (.aload_n 0, 1) := by decide +kernel
theorem dJ1_indexOf_4cfef_17 : decode cJ1_indexOf_4cfef 17 = .ok (.arraylength, 1) := by decide +kernel
theorem dJ1_indexOf_4cfef_18 : decode cJ1_indexOf_4cfef 18 = .ok (.invokestatic 38, 3) := by decide +kernel
theorem dJ1_indexOf_4cfef_21 : decode cJ1_indexOf_4cfef 21 = .ok (.istore_n 3, 1) := by decide +kernel
theorem dJ1_indexOf_4cfef_22 : decode cJ1_indexOf_4cfef 22 = .ok (.iload_n 2, 1) := by decide +kernel
theorem dJ1_indexOf_4cfef_23 : decode cJ1_indexOf_4cfef 23 = .ok (.iload_n 3, 1) := by decide +kernel
theorem dJ1_indexOf_4cfef_24 : decode cJ1_indexOf_4cfef 24 = .ok (.if_icmp .lt 5, 3) := by decide +kernel
theorem dJ1_indexOf_4cfef_27 : decode cJ1_indexOf_4cfef 27 = .ok (.iconst (-1), 1) := by decide +kernel
theorem dJ1_indexOf_4cfef_28 : decode cJ1_indexOf_4cfef 28 = .ok (.ireturn, 1) := by decide +kernel
theorem dJ1_indexOf_4cfef_29 : decode cJ1_indexOf_4cfef 29 = .ok (.aload_n 0, 1) := by decide +kernel
theorem dJ1_indexOf_4cfef_30 : decode cJ1_indexOf_4cfef 30 = .ok (.iload_n 1, 1) := by decide +kernel
theorem dJ1_indexOf_4cfef_31 : decode cJ1_indexOf_4cfef 31 = .ok (.iload_n 2, 1) := by decide +kernel
theorem dJ1_indexOf_4cfef_32 : decode cJ1_indexOf_4cfef 32 = .ok (.iload_n 3, 1) := by decide +kernel
theorem dJ1_indexOf_4cfef_33 : decode cJ1_indexOf_4cfef 33 = .ok (.invokestatic 95, 3) := by decide +kernel
theorem dJ1_indexOf_4cfef_36 : decode cJ1_indexOf_4cfef 36 = .ok (.ireturn, 1) := by decide +kernel
theorem dJ1_indexOfChar_4cfef_0 : decode cJ1_indexOfChar_4cfef 0 = .ok (.iload_n 1, 1) := by decide +kernel
theorem dJ1_indexOfChar_4cfef_1 : decode cJ1_indexOfChar_4cfef 1 = .ok (.i2b, 1) := by decide +kernel
theorem dJ1_indexOfChar_4cfef_2 : decode cJ1_indexOfChar_4cfef 2 = .ok (.istore 4, 2) := by decide +kernel
theorem dJ1_indexOfChar_4cfef_4 : decode cJ1_indexOfChar_4cfef 4 = .ok (.iload_n 2, 1) := by decide +kernel
theorem dJ1_indexOfChar_4cfef_5 : decode cJ1_indexOfChar_4cfef 5 = .ok (.istore 5, 2) := by decide +kernel
theorem dJ1_indexOfChar_4cfef_7 : decode cJ1_indexOfChar_4cfef 7 = .ok (.iload 5, 2) := by decide +kernel
theorem dJ1_indexOfChar_4cfef_9 : decode cJ1_indexOfChar_4cfef 9 = .ok (.iload_n 3, 1) := by decide +kernel
theorem dJ1_indexOfChar_4cfef_10 : decode cJ1_indexOfChar_4cfef 10 = .ok (.if_icmp .ge 21, 3) := by decide +kernel
theorem dJ1_indexOfChar_4cfef_13 : decode cJ1_indexOfChar_4cfef 13 = .ok (.aload_n 0, 1) := by decide +kernel
theorem dJ1_indexOfChar_4cfef_14 : decode cJ1_indexOfChar_4cfef 14 = .ok (.iload 5, 2) := by decide +kernel
theorem dJ1_indexOfChar_4cfef_16 : decode cJ1_indexOfChar_4cfef 16 = .ok (.baload, 1) := by decide +kernel
theorem dJ1_indexOfChar_4cfef_17 : decode cJ1_indexOfChar_4cfef 17 = .ok (.iload 4, 2) := by decide +kernel
theorem dJ1_indexOfChar_4cfef_19 : decode cJ1_indexOfChar_4cfef 19 = .ok (.if_icmp .ne 6, 3) := by decide +kernel
theorem dJ1_indexOfChar_4cfef_22 : decode cJ1_indexOfChar_4cfef 22 = .ok (.iload 5, 2) := by decide +kernel
theorem dJ1_indexOfChar_4cfef_24 : decode cJ1_indexOfChar_4cfef 24 = .ok (.ireturn, 1) := by decide +kernel
theorem dJ1_indexOfChar_4cfef_25 : decode cJ1_indexOfChar_4cfef 25 = .ok (.iinc 5 1, 3) := by decide +kernel
theorem dJ1_indexOfChar_4cfef_28 : decode cJ1_indexOfChar_4cfef 28 = .ok (.goto (-21), 3) := by decide +kernel
theorem dJ1_indexOfChar_4cfef_31 : decode cJ1_indexOfChar_4cfef 31 = .ok (.iconst (-1), 1) := by decide +kernel
theorem dJ1_indexOfChar_4cfef_32 : decode cJ1_indexOfChar_4cfef 32 = .ok (.ireturn, 1) := by decide +kernel
set_option maxRecDepth 20000 in
theorem ggJ2_getChar_3b067_J2_length_9d52b : GoodIn wsJ2_getChar_3b067 wsJ2_length_9d52b := goodIn_r _ [7] (by decide +kernel) (by decide +kernel)
set_option maxRecDepth 20000 in
theorem gJ2_getChar_3b067_J2_length_9d52b : GoodIn wsJ2_getChar_3b067 (va_wsS RJ2 48 yJ2_length_9d52b wsJ2_length_9d52b) := goodIn_app (goodIn_of _ (by decide +kernel)) ggJ2_getChar_3b067_J2_length_9d52b
theorem dJ2_getChar_3b067_0 : decode cJ2_getChar_3b067 0 = .ok (.getstatic 44, 3) := by decide +kernel
theorem dJ2_getChar_3b067_3 : decode cJ2_getChar_3b067 3 = .ok (.ifCond .ne 25, 3) := by decide +kernel
theorem dJ2_getChar_3b067_6 : decode cJ2_getChar_3b067 6 = .ok (.iload_n 1, 1) := by decide +kernel
theorem dJ2_getChar_3b067_7 : decode cJ2_getChar_3b067 7 = .ok (.ifCond .lt 11, 3) := by decide +kernel
theorem dJ2_getChar_3b067_10 : decode cJ2_getChar_3b067 10 = .ok (.iload_n 1, 1) := by decide +kernel
theorem dJ2_getChar_3b067_11 : decode cJ2_getChar_3b067 11 = .ok (.aload_n 0, 1) := by decide +kernel
theorem dJ2_getChar_3b067_12 : decode cJ2_getChar_3b067 12 = .ok (.invokestatic 48, 3) := by decide +kernel
theorem dJ2_getChar_3b067_15 : decode cJ2_getChar_3b067 15 = .ok (.if_icmp .lt 13, 3) := by decide +kernel
theorem dJ2_getChar_3b067_18 : decode cJ2_getChar_3b067 18 = .ok (.new 52, 3) := by decide +kernel
theorem dJ2_getChar_3b067_21 : decode cJ2_getChar_3b067 21 = .ok (.dup, 1) := by decide +kernel
theorem dJ2_getChar_3b067_22 : decode cJ2_getChar_3b067 22 = .ok (.ldc 54, 2) := by decide +kernel
theorem dJ2_getChar_3b067_24 : decode cJ2_getChar_3b067 24 = .ok (.invokespecial 56, 3) := by decide +kernel
theorem dJ2_getChar_3b067_27 : decode cJ2_getChar_3b067 27 = .ok (.athrow, 1) := by decide +kernel
theorem dJ2_getChar_3b067_28 : decode cJ2_getChar_3b067 28 = .ok (.iload_n 1, 1) := by decide +kernel
theorem dJ2_getChar_3b067_29 : decode cJ2_getChar_3b067 29 = .ok (.iconst 1, 1) := by decide +kernel
theorem dJ2_getChar_3b067_30 : decode cJ2_getChar_3b067 30 = .ok (.ishl, 1) := by decide +kernel
theorem dJ2_getChar_3b067_31 : decode cJ2_getChar_3b067 31 = .ok (.istore_n 1, 1) := by decide +kernel
theorem dJ2_getChar_3b067_32 : decode cJ2_getChar_3b067 32 = .ok (.aload_n 0, 1) := by decide +kernel
theorem dJ2_getChar_3b067_33 : decode cJ2_getChar_3b067 33 = .ok (.iload_n 1, 1) := by decide +kernel
theorem dJ2_getChar_3b067_34 : decode cJ2_getChar_3b067 34 = .ok (.iinc 1 1, 3) := by decide +kernel
theorem dJ2_getChar_3b067_37 : decode cJ2_getChar_3b067 37 = .ok (.baload, 1) := by decide +kernel
theorem dJ2_getChar_3b067_38 : decode cJ2_getChar_3b067 38 = .ok (.sipush 255, 3) := by decide +kernel
theorem dJ2_getChar_3b067_41 : decode cJ2_getChar_3b067 41 = .ok (.iand, 1) := by decide +kernel
theorem dJ2_getChar_3b067_42 : decode cJ2_getChar_3b067 42 = .ok (.getstatic 59, 3) := by decide +kernel
theorem dJ2_getChar_3b067_45 : decode cJ2_getChar_3b067 45 = .ok (.ishl, 1) := by decide +kernel
theorem dJ2_getChar_3b067_46 : decode cJ2_getChar_3b067 46 = .ok (.aload_n 0, 1) := by decide +kernel
theorem dJ2_getChar_3b067_47 : decode cJ2_getChar_3b067 47 = .ok (.iload_n 1, 1) := by decide +kernel
theorem dJ2_getChar_3b067_48 : decode cJ2_getChar_3b067 48 = .ok (.baload, 1) := by decide +kernel
theorem dJ2_getChar_3b067_49 : decode cJ2_getChar_3b067 49 = .ok (.sipush 255, 3) := by decide +kernel
theorem dJ2_getChar_3b067_52 : decode cJ2_getChar_3b067 52 = .ok (.iand, 1) := by decide +kernel
theorem dJ2_getChar_3b067_53 : decode cJ2_getChar_3b067 53 = .ok (.getstatic 63, 3) := by decide +kernel
theorem dJ2_getChar_3b067_56 : decode cJ2_getChar_3b067 56 = .ok (.ishl, 1) := by decide +kernel
theorem dJ2_getChar_3b067_57 : decode cJ2_getChar_3b067 57 = .ok (.ior, 1) := by decide +kernel
theorem dJ2_getChar_3b067_58 : decode cJ2_getChar_3b067 58 = .ok (.i2c, 1) := by decide +kernel
theorem dJ2_getChar_3b067_59 : decode cJ2_getChar_3b067 59 = .ok (.ireturn, 1) := by decide +kernel
theorem dJ2_length_9d52b_0 : decode cJ2_length_9d52b 0 = .ok (.aload_n 0, 1) := by decide +kernel
theorem dJ2_length_9d52b_1 : decode cJ2_length_9d52b 1 = .ok (.arraylength, 1) := by decide +kernel
theorem dJ2_length_9d52b_2 : decode cJ2_length_9d52b 2 = .ok (.iconst 1, 1) := by decide +kernel
theorem dJ2_length_9d52b_3 : decode cJ2_length_9d52b 3 = .ok (.ishr, 1) := by decide +kernel
theorem dJ2_length_9d52b_4 : decode cJ2_length_9d52b 4 = .ok (.ireturn, 1) := by decide +kernel
set_option maxRecDepth 20000 in
theorem ggJ2_indexOf_4cfef_J2_indexOfChar_4cfef : GoodIn wsJ2_indexOf_4cfef wsJ2_indexOfChar_4cfef := goodIn_r _ [12, 13, 14, 11, 15, 16, 17, 18, 19, 20, 21, 22, 23, 24, 25, 26, 27, 28, 29, 30, 31, 32, 33, 34, 35, 36] (by decide +kernel) (by decide +kernel)
set_option maxRecDepth 20000 in
theorem gJ2_indexOf_4cfef_J2_indexOfChar_4cfef : GoodIn wsJ2_indexOf_4cfef (va_wsS RJ2 228 yJ2_indexOfChar_4cfef wsJ2_indexOfChar_4cfef) := goodIn_app (goodIn_of _ (by decide +kernel)) ggJ2_indexOf_4cfef_J2_indexOfChar_4cfef
set_option maxRecDepth 20000 in
theorem ggJ2_indexOf_4cfef_J2_indexOfSupplementary_4cfef : GoodIn wsJ2_indexOf_4cfef wsJ2_indexOfSupplementary_4cfef := goodIn_r _ [39, 40, 41, 42, 43, 44, 45, 46, 47, 48, 49, 50, 51, 13, 14, 11, 15, 16, 17, 18, 19, 20, 21, 22, 23, 24, 25, 26, 27, 31, 32, 33, 34, 35, 36] (by decide +kernel) (by decide +kernel)
set_option maxRecDepth 20000 in
theorem gJ2_indexOf_4cfef_J2_indexOfSupplementary_4cfef : GoodIn wsJ2_indexOf_4cfef (va_wsS RJ2 232 yJ2_indexOfSupplementary_4cfef wsJ2_indexOfSupplementary_4cfef) := goodIn_app (goodIn_of _ (by decide +kernel)) ggJ2_indexOf_4cfef_J2_indexOfSupplementary_4cfef
theorem dJ2_indexOf_4cfef_0 : decode cJ2_indexOf_4cfef 0 = .ok (.iload_n 2, 1) := by decide +kernel
theorem dJ2_indexOf_4cfef_1 : decode cJ2_indexOf_4cfef 1 = .ok (.iconst 0, 1) := by decide +kernel
theorem dJ2_indexOf_4cfef_2 : decode cJ2_indexOf_4cfef 2 = .ok (.invokestatic 224, 3) := by decide +kernel
theorem dJ2_indexOf_4cfef_5 : decode cJ2_indexOf_4cfef 5 = .ok (.istore_n 2, 1) := by decide +kernel
theorem dJ2_indexOf_4cfef_6 : decode cJ2_indexOf_4cfef 6 = .ok (.iload_n 3, 1) := by decide +kernel
theorem dJ2_indexOf_4cfef_7 : decode cJ2_indexOf_4cfef 7 = .ok (.aload_n 0, 1) := by decide +kernel
theorem dJ2_indexOf_4cfef_8 : decode cJ2_indexOf_4cfef 8 = .ok (.arraylength, 1) := by decide +kernel
theorem dJ2_indexOf_4cfef_9 : decode cJ2_indexOf_4cfef 9 = .ok (.iconst 1, 1) := by decide +kernel
theorem dJ2_indexOf_4cfef_10 : decode cJ2_indexOf_4cfef 10 = .ok (.ishr, 1) := by decide +kernel
theorem dJ2_indexOf_4cfef_11 : decode cJ2_indexOf_4cfef 11 = .ok (.invokestatic 183, 3) := by decide +kernel
theorem dJ2_indexOf_4cfef_14 : decode cJ2_indexOf_4cfef 14 = .ok (.istore_n 3, 1) := by decide +kernel
theorem dJ2_indexOf_4cfef_15 : decode cJ2_indexOf_4cfef 15 = .ok (.iload_n 2, 1) := by decide +kernel
theorem dJ2_indexOf_4cfef_16 : decode cJ2_indexOf_4cfef 16 = .ok (.iload_n 3, 1) := by decide +kernel
theorem dJ2_indexOf_4cfef_17 : decode cJ2_indexOf_4cfef 17 = .ok (.if_icmp .lt 5, 3) := by decide +kernel
theorem dJ2_indexOf_4cfef_20 : decode cJ2_indexOf_4cfef 20 = .ok (.iconst (-1), 1) := by decide +kernel
theorem dJ2_indexOf_4cfef_21 : decode cJ2_indexOf_4cfef 21 = .ok (.ireturn, 1) := by decide +kernel
theorem dJ2_indexOf_4cfef_22 : decode cJ2_indexOf_4cfef 22 = .ok (.iload_n 1, 1) := by decide +kernel
theorem dJ2_indexOf_4cfef_23 : decode cJ2_indexOf_4cfef 23 = .ok (.ldc 227, 2) := by decide +kernel
theorem dJ2_indexOf_4cfef_25 : decode cJ2_indexOf_4cfef 25 = .ok (.if_icmp .ge 11, 3) := by decide +kernel
theorem dJ2_indexOf_4cfef_28 : decode cJ2_indexOf_4cfef 28 = .ok (.aload_n 0, 1) := by decide +kernel
theorem dJ2_indexOf_4cfef_29 : decode cJ2_indexOf_4cfef 29 = .ok (.iload_n 1, 1) := by decide +kernel
theorem dJ2_indexOf_4cfef_30 : decode cJ2_indexOf_4cfef 30 = .ok (.iload_n 2, 1) := by decide +kernel
theorem dJ2_indexOf_4cfef_31 : decode cJ2_indexOf_4cfef 31 = .ok (.iload_n 3, 1) := by decide +kernel
theorem dJ2_indexOf_4cfef_32 : decode cJ2_indexOf_4cfef 32 = .ok (.invokestatic 228, 3) := by decide +kernel
theorem dJ2_indexOf_4cfef_35 : decode cJ2_indexOf_4cfef 35 = .ok (.ireturn, 1) := by decide +kernel
theorem dJ2_indexOf_4cfef_36 : decode cJ2_indexOf_4cfef 36 = .ok (.aload_n 0, 1) := by decide +kernel
theorem dJ2_indexOf_4cfef_37 : decode cJ2_indexOf_4cfef 37 = .ok (.iload_n 1, 1) := by decide +kernel
theorem dJ2_indexOf_4cfef_38 : decode cJ2_indexOf_4cfef 38 = .ok (.iload_n 2, 1) := by decide +kernel
theorem dJ2_indexOf_4cfef_39 : decode cJ2_indexOf_4cfef 39 = .ok (.iload_n 3, 1) := by decide +kernel
theorem dJ2_indexOf_4cfef_40 : decode cJ2_indexOf_4cfef 40 = .ok (.invokestatic 232, 3) := by decide +kernel
theorem dJ2_indexOf_4cfef_43 : decode cJ2_indexOf_4cfef 43 = .ok (.ireturn, 1) := by decide +kernel
set_option maxRecDepth 20000 in
theorem ggJ2_indexOfChar_4cfef_J2_checkBoundsBeginEnd_d044e : GoodIn wsJ2_indexOfChar_4cfef wsJ2_checkBoundsBeginEnd_d044e := goodIn_r _ [4, 5, 6, 3, 7, 8, 9, 10, 11, 12, 13, 14, 15, 16] (by decide +kernel) (by decide +kernel)
set_option maxRecDepth 20000 in
theorem gJ2_indexOfChar_4cfef_J2_checkBoundsBeginEnd_d044e : GoodIn wsJ2_indexOfChar_4cfef (va_wsS RJ2 96 yJ2_checkBoundsBeginEnd_d044e wsJ2_checkBoundsBeginEnd_d044e) := goodIn_app (goodIn_of _ (by decide +kernel)) ggJ2_indexOfChar_4cfef_J2_checkBoundsBeginEnd_d044e
set_option maxRecDepth 20000 in
theorem ggJ2_indexOfChar_4cfef_J2_indexOfCharUnsafe_4cfef : GoodIn wsJ2_indexOfChar_4cfef wsJ2_indexOfCharUnsafe_4cfef := goodIn_r _ [19, 20, 21, 3, 22, 23, 24, 25, 5, 6, 7] (by decide +kernel) (by decide +kernel)
set_option maxRecDepth 20000 in
theorem gJ2_indexOfChar_4cfef_J2_indexOfCharUnsafe_4cfef : GoodIn wsJ2_indexOfChar_4cfef (va_wsS RJ2 244 yJ2_indexOfCharUnsafe_4cfef wsJ2_indexOfCharUnsafe_4cfef) := goodIn_app (goodIn_of _ (by decide +kernel)) ggJ2_indexOfChar_4cfef_J2_indexOfCharUnsafe_4cfef
theorem dJ2_indexOfChar_4cfef_0 : decode cJ2_indexOfChar_4cfef 0 = .ok (.iload_n 2, 1) := by decide +kernel
theorem dJ2_indexOfChar_4cfef_1 : decode cJ2_indexOfChar_4cfef 1 = .ok (.iload_n 3, 1) := by decide +kernel
theorem dJ2_indexOfChar_4cfef_2 : decode cJ2_indexOfChar_4cfef 2 = .ok (.aload_n 0, 1) := by decide +kernel
theorem dJ2_indexOfChar_4cfef_3 : decode cJ2_indexOfChar_4cfef 3 = .ok (.invokestatic 96, 3) := by decide +kernel
theorem dJ2_indexOfChar_4cfef_6 : decode cJ2_indexOfChar_4cfef 6 = .ok (.aload_n 0, 1) := by decide +kernel
theorem dJ2_indexOfChar_4cfef_7 : decode cJ2_indexOfChar_4cfef 7 = .ok (.iload_n 1, 1) := by decide +kernel
theorem dJ2_indexOfChar_4cfef_8 : decode cJ2_indexOfChar_4cfef 8 = .ok (.iload_n 2, 1) := by decide +kernel
theorem dJ2_indexOfChar_4cfef_9 : decode cJ2_indexOfChar_4cfef 9 = .ok (.iload_n 3, 1) := by decide +kernel
theorem dJ2_indexOfChar_4cfef_10 : decode cJ2_indexOfChar_4cfef 10 = .ok (.invokestatic 244, 3) := by decide +kernel
theorem dJ2_indexOfChar_4cfef_13 : decode cJ2_indexOfChar_4cfef 13 = .ok (.ireturn, 1) := by decide +kernel
set_option maxRecDepth 20000 in
theorem ggJ2_indexOfCharUnsafe_4cfef_J2_getChar_3b067 : GoodIn wsJ2_indexOfCharUnsafe_4cfef wsJ2_getChar_3b067 := goodIn_r _ [4, 5, 6, 7, 8, 9, 3, 10] (by decide +kernel) (by decide +kernel)
set_option maxRecDepth 20000 in
theorem gJ2_indexOfCharUnsafe_4cfef_J2_getChar_3b067 : GoodIn wsJ2_indexOfCharUnsafe_4cfef (va_wsS RJ2 71 yJ2_getChar_3b067 wsJ2_getChar_3b067) := goodIn_app (goodIn_of _ (by decide +kernel)) ggJ2_indexOfCharUnsafe_4cfef_J2_getChar_3b067
theorem dJ2_indexOfCharUnsafe_4cfef_0 : decode cJ2_indexOfCharUnsafe_4cfef 0 = .ok (.iload_n 2, 1) := by decide +kernel
theorem dJ2_indexOfCharUnsafe_4cfef_1 : decode cJ2_indexOfCharUnsafe_4cfef 1 = .ok (.istore 4, 2) := by decide +kernel
theorem dJ2_indexOfCharUnsafe_4cfef_3 : decode cJ2_indexOfCharUnsafe_4cfef 3 = .ok (.iload 4, 2) := by decide +kernel
theorem dJ2_indexOfCharUnsafe_4cfef_5 : decode cJ2_indexOfCharUnsafe_4cfef 5 = .ok (.iload_n 3, 1) := by decide +kernel
theorem dJ2_indexOfCharUnsafe_4cfef_6 : decode cJ2_indexOfCharUnsafe_4cfef 6 = .ok (.if_icmp .ge 22, 3) := by decide +kernel
theorem dJ2_indexOfCharUnsafe_4cfef_9 : decode cJ2_indexOfCharUnsafe_4cfef 9 = .ok (.aload_n 0, 1) := by decide +kernel
theorem dJ2_indexOfCharUnsafe_4cfef_10 : decode cJ2_indexOfCharUnsafe_4cfef 10 = .ok (.iload 4, 2) := by decide +kernel
theorem dJ2_indexOfCharUnsafe_4cfef_12 : decode cJ2_indexOfCharUnsafe_4cfef 12 = .ok (.invokestatic 71, 3) := by decide +kernel
theorem dJ2_indexOfCharUnsafe_4cfef_15 : decode cJ2_indexOfCharUnsafe_4cfef 15 = .ok (.iload_n 1, 1) := by decide +kernel
theorem dJ2_indexOfCharUnsafe_4cfef_16 : decode cJ2_indexOfCharUnsafe_4cfef 16 = .ok (.if_icmp .ne 6, 3) := by decide +kernel
theorem dJ2_indexOfCharUnsafe_4cfef_19 : decode cJ2_indexOfCharUnsafe_4cfef 19 = .ok (.iload 4, 2) := by decide +kernel
theorem dJ2_indexOfCharUnsafe_4cfef_21 : decode cJ2_indexOfCharUnsafe_4cfef 21 = .ok (.ireturn, 1) := by decide +kernel
theorem dJ2_indexOfCharUnsafe_4cfef_22 : decode cJ2_indexOfCharUnsafe_4cfef 22 = .ok (.iinc 4 1, 3) := by decide +kernel
theorem dJ2_indexOfCharUnsafe_4cfef_25 : decode cJ2_indexOfCharUnsafe_4cfef 25 = .ok (.goto (-22), 3) := by decide +kernel
theorem dJ2_indexOfCharUnsafe_4cfef_28 : decode cJ2_indexOfCharUnsafe_4cfef 28 = .ok (.iconst (-1), 1) := by decide +kernel
theorem dJ2_indexOfCharUnsafe_4cfef_29 : decode cJ2_indexOfCharUnsafe_4cfef 29 = .ok (.ireturn, 1) := by decide +kernel
set_option maxRecDepth 20000 in
theorem ggJ2_indexOfSupplementary_4cfef_J11_isValidCodePoint_9a6ad : GoodIn wsJ2_indexOfSupplementary_4cfef wsJ11_isValidCodePoint_9a6ad := goodIn_r _ [4] (by decide +kernel) (by decide +kernel)
set_option maxRecDepth 20000 in
theorem gJ2_indexOfSupplementary_4cfef_J11_isValidCodePoint_9a6ad : GoodIn wsJ2_indexOfSupplementary_4cfef (va_wsS RJ2 164 yJ11_isValidCodePoint_9a6ad wsJ11_isValidCodePoint_9a6ad) := goodIn_app (goodIn_of _ (by decide +kernel)) ggJ2_indexOfSupplementary_4cfef_J11_isValidCodePoint_9a6ad
set_option maxRecDepth 20000 in
theorem ggJ2_indexOfSupplementary_4cfef_J11_highSurrogate_5068e : GoodIn wsJ2_indexOfSupplementary_4cfef wsJ11_highSurrogate_5068e := goodIn_r _ [7, 8] (by decide +kernel) (by decide +kernel)
set_option maxRecDepth 20000 in
theorem gJ2_indexOfSupplementary_4cfef_J11_highSurrogate_5068e : GoodIn wsJ2_indexOfSupplementary_4cfef (va_wsS RJ2 157 yJ11_highSurrogate_5068e wsJ11_highSurrogate_5068e) := goodIn_app (goodIn_of _ (by decide +kernel)) ggJ2_indexOfSupplementary_4cfef_J11_highSurrogate_5068e
set_option maxRecDepth 20000 in
theorem ggJ2_indexOfSupplementary_4cfef_J11_lowSurrogate_5068e : GoodIn wsJ2_indexOfSupplementary_4cfef wsJ11_lowSurrogate_5068e := goodIn_r _ [11, 12] (by decide +kernel) (by decide +kernel)
set_option maxRecDepth 20000 in
theorem gJ2_indexOfSupplementary_4cfef_J11_lowSurrogate_5068e : GoodIn wsJ2_indexOfSupplementary_4cfef (va_wsS RJ2 161 yJ11_lowSurrogate_5068e wsJ11_lowSurrogate_5068e) := goodIn_app (goodIn_of _ (by decide +kernel)) ggJ2_indexOfSupplementary_4cfef_J11_lowSurrogate_5068e
set_option maxRecDepth 20000 in
theorem ggJ2_indexOfSupplementary_4cfef_J2_checkBoundsBeginEnd_d044e : GoodIn wsJ2_indexOfSupplementary_4cfef wsJ2_checkBoundsBeginEnd_d044e := goodIn_r _ [16, 17, 18, 15, 19, 20, 21, 22, 23, 24, 25, 26, 27, 28] (by decide +kernel) (by decide +kernel)
set_option maxRecDepth 20000 in
theorem gJ2_indexOfSupplementary_4cfef_J2_checkBoundsBeginEnd_d044e : GoodIn wsJ2_indexOfSupplementary_4cfef (va_wsS RJ2 96 yJ2_checkBoundsBeginEnd_d044e wsJ2_checkBoundsBeginEnd_d044e) := goodIn_app (goodIn_of _ (by decide +kernel)) ggJ2_indexOfSupplementary_4cfef_J2_checkBoundsBeginEnd_d044e
set_option maxRecDepth 20000 in
theorem ggJ2_indexOfSupplementary_4cfef_J2_getChar_3b067 : GoodIn wsJ2_indexOfSupplementary_4cfef wsJ2_getChar_3b067 := goodIn_r _ [31, 32, 33, 34, 17, 18, 15, 19] (by decide +kernel) (by decide +kernel)
set_option maxRecDepth 20000 in
theorem gJ2_indexOfSupplementary_4cfef_J2_getChar_3b067 : GoodIn wsJ2_indexOfSupplementary_4cfef (va_wsS RJ2 71 yJ2_getChar_3b067 wsJ2_getChar_3b067) := goodIn_app (goodIn_of _ (by decide +kernel)) ggJ2_indexOfSupplementary_4cfef_J2_getChar_3b067
theorem dJ2_indexOfSupplementary_4cfef_0 : decode cJ2_indexOfSupplementary_4cfef 0 = .ok (.iload_n 1, 1) := by decide +kernel
theorem dJ2_indexOfSupplementary_4cfef_1 : decode cJ2_indexOfSupplementary_4cfef 1 = .ok (.invokestatic 164, 3) := by decide +kernel
theorem dJ2_indexOfSupplementary_4cfef_4 : decode cJ2_indexOfSupplementary_4cfef 4 = .ok (.ifCond .eq 65, 3) := by decide +kernel
theorem dJ2_indexOfSupplementary_4cfef_7 : decode cJ2_indexOfSupplementary_4cfef 7 = .ok (.iload_n 1, 1) := by decide +kernel
theorem dJ2_indexOfSupplementary_4cfef_8 : decode cJ2_indexOfSupplementary_4cfef 8 = .ok (.invokestatic 157, 3) := by decide +kernel
theorem dJ2_indexOfSupplementary_4cfef_11 : decode cJ2_indexOfSupplementary_4cfef 11 = .ok (.istore 4, 2) := by decide +kernel
theorem dJ2_indexOfSupplementary_4cfef_13 : decode cJ2_indexOfSupplementary_4cfef 13 = .ok (.iload_n 1, 1) := by decide +kernel
theorem dJ2_indexOfSupplementary_4cfef_14 : decode cJ2_indexOfSupplementary_4cfef 14 = .ok (.invokestatic 161, 3) := by decide +kernel
theorem dJ2_indexOfSupplementary_4cfef_17 : decode cJ2_indexOfSupplementary_4cfef 17 = .ok (.istore 5, 2) := by decide +kernel
theorem dJ2_indexOfSupplementary_4cfef_19 : decode cJ2_indexOfSupplementary_4cfef 19 = .ok (.iload_n 2, 1) := by decide +kernel
theorem dJ2_indexOfSupplementary_4cfef_20 : decode cJ2_indexOfSupplementary_4cfef 20 = .ok (.iload_n 3, 1) := by decide +kernel
theorem dJ2_indexOfSupplementary_4cfef_21 : decode cJ2_indexOfSupplementary_4cfef 21 = .ok (.aload_n 0, 1) := by decide +kernel
theorem dJ2_indexOfSupplementary_4cfef_22 : decode cJ2_indexOfSupplementary_4cfef 22 = .ok (.invokestatic 96, 3) := by decide +kernel
theorem dJ2_indexOfSupplementary_4cfef_25 : decode cJ2_indexOfSupplementary_4cfef 25 = .ok (.iload_n 2, 1) := by decide +kernel
theorem dJ2_indexOfSupplementary_4cfef_26 : decode cJ2_indexOfSupplementary_4cfef 26 = .ok (.istore 6, 2) := by decide +kernel
theorem dJ2_indexOfSupplementary_4cfef_28 : decode cJ2_indexOfSupplementary_4cfef 28 = .ok (.iload 6, 2) := by decide +kernel
theorem dJ2_indexOfSupplementary_4cfef_30 : decode cJ2_indexOfSupplementary_4cfef 30 = .ok (.iload_n 3, 1) := by decide +kernel
theorem dJ2_indexOfSupplementary_4cfef_31 : decode cJ2_indexOfSupplementary_4cfef 31 = .ok (.iconst 1, 1) := by decide +kernel
theorem dJ2_indexOfSupplementary_4cfef_32 : decode cJ2_indexOfSupplementary_4cfef 32 = .ok (.isub, 1) := by decide +kernel
theorem dJ2_indexOfSupplementary_4cfef_33 : decode cJ2_indexOfSupplementary_4cfef 33 = .ok (.if_icmp .ge 36, 3) := by decide +kernel
theorem dJ2_indexOfSupplementary_4cfef_36 : decode cJ2_indexOfSupplementary_4cfef 36 = .ok (.aload_n 0, 1) := by decide +kernel
theorem dJ2_indexOfSupplementary_4cfef_37 : decode cJ2_indexOfSupplementary_4cfef 37 = .ok (.iload 6, 2) := by decide +kernel
theorem dJ2_indexOfSupplementary_4cfef_39 : decode cJ2_indexOfSupplementary_4cfef 39 = .ok (.invokestatic 71, 3) := by decide +kernel
theorem dJ2_indexOfSupplementary_4cfef_42 : decode cJ2_indexOfSupplementary_4cfef 42 = .ok (.iload 4, 2) := by decide +kernel
theorem dJ2_indexOfSupplementary_4cfef_44 : decode cJ2_indexOfSupplementary_4cfef 44 = .ok (.if_icmp .ne 19, 3) := by decide +kernel
theorem dJ2_indexOfSupplementary_4cfef_47 : decode cJ2_indexOfSupplementary_4cfef 47 = .ok (.aload_n 0, 1) := by decide +kernel
theorem dJ2_indexOfSupplementary_4cfef_48 : decode cJ2_indexOfSupplementary_4cfef 48 = .ok (.iload 6, 2) := by decide +kernel
theorem dJ2_indexOfSupplementary_4cfef_50 : decode cJ2_indexOfSupplementary_4cfef 50 = .ok (.iconst 1, 1) := by decide +kernel
theorem dJ2_indexOfSupplementary_4cfef_51 : decode cJ2_indexOfSupplementary_4cfef 51 = .ok (.iadd, 1) := by decide +kernel
theorem dJ2_indexOfSupplementary_4cfef_52 : decode cJ2_indexOfSupplementary_4cfef 52 = .ok (.invokestatic 71, 3) := by decide +kernel
theorem dJ2_indexOfSupplementary_4cfef_55 : decode cJ2_indexOfSupplementary_4cfef 55 = .ok (.iload 5, 2) := by decide +kernel
theorem dJ2_indexOfSupplementary_4cfef_57 : decode cJ2_indexOfSupplementary_4cfef 57 = .ok (.if_icmp .ne 6, 3) := by decide +kernel
theorem dJ2_indexOfSupplementary_4cfef_60 : decode cJ2_indexOfSupplementary_4cfef 60 = .ok (.iload 6, 2) := by decide +kernel
theorem dJ2_indexOfSupplementary_4cfef_62 : decode cJ2_indexOfSupplementary_4cfef 62 = .ok (.ireturn, 1) := by decide +kernel
theorem dJ2_indexOfSupplementary_4cfef_63 : decode cJ2_indexOfSupplementary_4cfef 63 = .ok (.iinc 6 1, 3) := by decide +kernel
theorem dJ2_indexOfSupplementary_4cfef_66 : decode cJ2_indexOfSupplementary_4cfef 66 = .ok (.goto (-38), 3) := by decide +kernel
theorem dJ2_indexOfSupplementary_4cfef_69 : decode cJ2_indexOfSupplementary_4cfef 69 = .ok (.iconst (-1), 1) := by decide +kernel
theorem dJ2_indexOfSupplementary_4cfef_70 : decode cJ2_indexOfSupplementary_4cfef 70 = .ok (.ireturn, 1) := by decide +kernel
set_option maxRecDepth 20000 in
theorem ggJ2_checkBoundsBeginEnd_d044e_J2_length_9d52b : GoodIn wsJ2_checkBoundsBeginEnd_d044e wsJ2_length_9d52b := goodIn_r _ [4] (by decide +kernel) (by decide +kernel)
set_option maxRecDepth 20000 in
theorem gJ2_checkBoundsBeginEnd_d044e_J2_length_9d52b : GoodIn wsJ2_checkBoundsBeginEnd_d044e (va_wsS RJ2 48 yJ2_length_9d52b wsJ2_length_9d52b) := goodIn_app (goodIn_of _ (by decide +kernel)) ggJ2_checkBoundsBeginEnd_d044e_J2_length_9d52b
set_option maxRecDepth 20000 in
theorem ggJ2_checkBoundsBeginEnd_d044e_J0_checkBoundsBeginEnd_23922 : GoodIn wsJ2_checkBoundsBeginEnd_d044e wsJ0_checkBoundsBeginEnd_23922 := goodIn_r _ [8, 9, 10, 11, 12, 13] (by decide +kernel) (by decide +kernel)
set_option maxRecDepth 20000 in
theorem gJ2_checkBoundsBeginEnd_d044e_J0_checkBoundsBeginEnd_23922 : GoodIn wsJ2_checkBoundsBeginEnd_d044e (va_wsS RJ2 241 yJ0_checkBoundsBeginEnd_23922 wsJ0_checkBoundsBeginEnd_23922) := goodIn_app (goodIn_of _ (by decide +kernel)) ggJ2_checkBoundsBeginEnd_d044e_J0_checkBoundsBeginEnd_23922
theorem dJ2_checkBoundsBeginEnd_d044e_0 : decode cJ2_checkBoundsBeginEnd_d044e 0 = .ok (.iload_n 0, 1) := by decide +kernel
theorem dJ2_checkBoundsBeginEnd_d044e_1 : decode cJ2_checkBoundsBeginEnd_d044e 1 = .ok (.iload_n 1, 1) := by decide +kernel
theorem dJ2_checkBoundsBeginEnd_d044e_2 : decode cJ2_checkBoundsBeginEnd_d044e 2 = .ok (.aload_n 2, 1) := by decide +kernel
theorem dJ2_checkBoundsBeginEnd_d044e_3 : decode cJ2_checkBoundsBeginEnd_d044e 3 = .ok (.invokestatic 48, 3) := by decide +kernel
theorem dJ2_checkBoundsBeginEnd_d044e_6 : decode cJ2_checkBoundsBeginEnd_d044e 6 = .ok (.invokestatic 241, 3) := by decide +kernel
theorem dJ2_checkBoundsBeginEnd_d044e_9 : decode cJ2_checkBoundsBeginEnd_d044e 9 = .ok (.return_, 1) := by decide +kernel
theorem dJ7_fill_d0a16_0 : decode cJ7_fill_d0a16 0 = .ok (.iconst 0, 1) := by decide +kernel
theorem dJ7_fill_d0a16_1 : decode cJ7_fill_d0a16 1 = .ok (.istore_n 3, 1) := by decide +kernel
theorem dJ7_fill_d0a16_2 : decode cJ7_fill_d0a16 2 = .ok (.aload_n 0, 1) := by decide +kernel
theorem dJ7_fill_d0a16_3 : decode cJ7_fill_d0a16 3 = .ok (.arraylength, 1) := by decide +kernel
theorem dJ7_fill_d0a16_4 : decode cJ7_fill_d0a16 4 = .ok (.istore 4, 2) := by decide +kernel
theorem dJ7_fill_d0a16_6 : decode cJ7_fill_d0a16 6 = .ok (.iload_n 3, 1) := by decide +kernel
theorem dJ7_fill_d0a16_7 : decode cJ7_fill_d0a16 7 = .ok (.iload 4, 2) := by decide +kernel
theorem dJ7_fill_d0a16_9 : decode cJ7_fill_d0a16 9 = .ok (.if_icmp .ge 13, 3) := by decide +kernel
theorem dJ7_fill_d0a16_12 : decode cJ7_fill_d0a16 12 = .ok (.aload_n 0, 1) := by decide +kernel
theorem dJ7_fill_d0a16_13 : decode cJ7_fill_d0a16 13 = .ok (.iload_n 3, 1) := by decide +kernel
theorem dJ7_fill_d0a16_14 : decode cJ7_fill_d0a16 14 = .ok (.lload_n 1, 1) := by decide +kernel
theorem dJ7_fill_d0a16_15 : decode cJ7_fill_d0a16 15 = .ok (.lastore, 1) := by decide +kernel
theorem dJ7_fill_d0a16_16 : decode cJ7_fill_d0a16 16 = .ok (.iinc 3 1, 3) := by decide +kernel
theorem dJ7_fill_d0a16_19 : decode cJ7_fill_d0a16 19 = .ok (.goto (-13), 3) := by decide +kernel
theorem dJ7_fill_d0a16_22 : decode cJ7_fill_d0a16 22 = .ok (.return_, 1) := by decide +kernel
theorem dJ7_fill_53178_0 : decode cJ7_fill_53178 0 = .ok (.iconst 0, 1) := by decide +kernel
theorem dJ7_fill_53178_1 : decode cJ7_fill_53178 1 = .ok (.istore_n 2, 1) := by decide +kernel
theorem dJ7_fill_53178_2 : decode cJ7_fill_53178 2 = .ok (.aload_n 0, 1) := by decide +kernel
theorem dJ7_fill_53178_3 : decode cJ7_fill_53178 3 = .ok (.arraylength, 1) := by decide +kernel
theorem dJ7_fill_53178_4 : decode cJ7_fill_53178 4 = .ok (.istore_n 3, 1) := by decide +kernel
theorem dJ7_fill_53178_5 : decode cJ7_fill_53178 5 = .ok (.iload_n 2, 1) := by decide +kernel
theorem dJ7_fill_53178_6 : decode cJ7_fill_53178 6 = .ok (.iload_n 3, 1) := by decide +kernel
theorem dJ7_fill_53178_7 : decode cJ7_fill_53178 7 = .ok (.if_icmp .ge 13, 3) := by decide +kernel
theorem dJ7_fill_53178_10 : decode cJ7_fill_53178 10 = .ok (.aload_n 0, 1) := by decide +kernel
theorem dJ7_fill_53178_11 : decode cJ7_fill_53178 11 = .ok (.iload_n 2, 1) := by decide +kernel
theorem dJ7_fill_53178_12 : decode cJ7_fill_53178 12 = .ok (.iload_n 1, 1) := by decide +kernel
theorem dJ7_fill_53178_13 : decode cJ7_fill_53178 13 = .ok (.iastore, 1) := by decide +kernel
theorem dJ7_fill_53178_14 : decode cJ7_fill_53178 14 = .ok (.iinc 2 1, 3) := by decide +kernel
theorem dJ7_fill_53178_17 : decode cJ7_fill_53178 17 = .ok (.goto (-12), 3) := by decide +kernel
theorem dJ7_fill_53178_20 : decode cJ7_fill_53178 20 = .ok (.return_, 1) := by decide +kernel
theorem dJ3_checkFromToIndex_8c36e_0 : decode cJ3_checkFromToIndex_8c36e 0 = .ok (.iload_n 0, 1) := by decide +kernel
theorem dJ3_checkFromToIndex_8c36e_1 : decode cJ3_checkFromToIndex_8c36e 1 = .ok (.ifCond .lt 13, 3) := by decide +kernel
theorem dJ3_checkFromToIndex_8c36e_4 : decode cJ3_checkFromToIndex_8c36e 4 = .ok (.iload_n 0, 1) := by decide +kernel
theorem dJ3_checkFromToIndex_8c36e_5 : decode cJ3_checkFromToIndex_8c36e 5 = .ok (.iload_n 1, 1) := by decide +kernel
theorem dJ3_checkFromToIndex_8c36e_6 : decode cJ3_checkFromToIndex_8c36e 6 = .ok (.if_icmp .gt 8, 3) := by decide +kernel
theorem dJ3_checkFromToIndex_8c36e_9 : decode cJ3_checkFromToIndex_8c36e 9 = .ok (.iload_n 1, 1) := by decide +kernel
theorem dJ3_checkFromToIndex_8c36e_10 : decode cJ3_checkFromToIndex_8c36e 10 = .ok (.iload_n 2, 1) := by decide +kernel
theorem dJ3_checkFromToIndex_8c36e_11 : decode cJ3_checkFromToIndex_8c36e 11 = .ok (.if_icmp .le 11, 3) := by decide +kernel
theorem dJ3_checkFromToIndex_8c36e_14 : decode cJ3_checkFromToIndex_8c36e 14 = .ok (.aload_n 3, 1) := by decide +kernel
theorem dJ3_checkFromToIndex_8c36e_15 : decode cJ3_checkFromToIndex_8c36e 15 = .ok (.iload_n 0, 1) := by decide +kernel
theorem dJ3_checkFromToIndex_8c36e_16 : decode cJ3_checkFromToIndex_8c36e 16 = .ok (.iload_n 1, 1) := by decide +kernel
theorem dJ3_checkFromToIndex_8c36e_17 : decode cJ3_checkFromToIndex_8c36e 17 = .ok (.iload_n 2, 1) := by decide +kernel
theorem dJ3_checkFromToIndex_8c36e_18 : decode cJ3_checkFromToIndex_8c36e 18 = .ok (.invokestatic 99, 3) := by decide +kernel
theorem dJ3_checkFromToIndex_8c36e_21 : decode cJ3_checkFromToIndex_8c36e 21 = .ok (.athrow, 1) := by decide +kernel
theorem dJ3_checkFromToIndex_8c36e_22 : decode cJ3_checkFromToIndex_8c36e 22 = .ok (.iload_n 0, 1) := by decide +kernel
theorem dJ3_checkFromToIndex_8c36e_23 : decode cJ3_checkFromToIndex_8c36e 23 = .ok (.ireturn, 1) := by decide +kernel
