theorem dX6_runOver_1 : decode cX6_runOver 1 = .ok (.lstore_n 2, 1) := by decide +kernel
theorem dX6_runOver_2 : decode cX6_runOver 2 = .ok (.iconst 0, 1) := by decide +kernel
theorem dX6_runOver_3 : decode cX6_runOver 3 = .ok (.istore 4, 2) := by decide +kernel
theorem dX6_runOver_5 : decode cX6_runOver 5 = .ok (.iload 4, 2) := by decide +kernel
theorem dX6_runOver_7 : decode cX6_runOver 7 = .ok (.aload_n 0, 1) := by decide +kernel
theorem dX6_runOver_8 : decode cX6_runOver 8 = .ok (.getfield 97, 3) := by decide +kernel
theorem dX6_runOver_11 : decode cX6_runOver 11 = .ok (.if_icmp .ge 177, 3) := by decide +kernel
theorem dX6_runOver_14 : decode cX6_runOver 14 = .ok (.aload_n 1, 1) := by decide +kernel
theorem dX6_runOver_15 : decode cX6_runOver 15 = .ok (.iload 4, 2) := by decide +kernel
theorem dX6_runOver_17 : decode cX6_runOver 17 = .ok (.laload, 1) := by decide +kernel
theorem dX6_runOver_18 : decode cX6_runOver 18 = .ok (.aload_n 0, 1) := by decide +kernel
theorem dX6_runOver_19 : decode cX6_runOver 19 = .ok (.getfield 29, 3) := by decide +kernel
theorem dX6_runOver_22 : decode cX6_runOver 22 = .ok (.iload 4, 2) := by decide +kernel
theorem dX6_runOver_24 : decode cX6_runOver 24 = .ok (.laload, 1) := by decide +kernel
theorem dX6_runOver_25 : decode cX6_runOver 25 = .ok (.lcmp, 1) := by decide +kernel
theorem dX6_runOver_26 : decode cX6_runOver 26 = .ok (.ifCond .le 18, 3) := by decide +kernel
theorem dX6_runOver_29 : decode cX6_runOver 29 = .ok (.aload_n 1, 1) := by decide +kernel
theorem dX6_runOver_30 : decode cX6_runOver 30 = .ok (.iload 4, 2) := by decide +kernel
theorem dX6_runOver_32 : decode cX6_runOver 32 = .ok (.laload, 1) := by decide +kernel
theorem dX6_runOver_33 : decode cX6_runOver 33 = .ok (.aload_n 0, 1) := by decide +kernel
theorem dX6_runOver_34 : decode cX6_runOver 34 = .ok (.getfield 29, 3) := by decide +kernel
theorem dX6_runOver_37 : decode cX6_runOver 37 = .ok (.iload 4, 2) := by decide +kernel
theorem dX6_runOver_39 : decode cX6_runOver 39 = .ok (.laload, 1) := by decide +kernel
theorem dX6_runOver_40 : decode cX6_runOver 40 = .ok (.lsub, 1) := by decide +kernel
theorem dX6_runOver_41 : decode cX6_runOver 41 = .ok (.goto 4, 3) := by decide +kernel
theorem dX6_runOver_44 : decode cX6_runOver 44 = .ok (.lconst 0, 1) := by decide +kernel
theorem dX6_runOver_45 : decode cX6_runOver 45 = .ok (.lstore 5, 2) := by decide +kernel
theorem dX6_runOver_47 : decode cX6_runOver 47 = .ok (.aload_n 0, 1) := by decide +kernel
theorem dX6_runOver_48 : decode cX6_runOver 48 = .ok (.getfield 16, 3) := by decide +kernel
theorem dX6_runOver_51 : decode cX6_runOver 51 = .ok (.bipush 6, 2) := by decide +kernel
theorem dX6_runOver_53 : decode cX6_runOver 53 = .ok (.iload 4, 2) := by decide +kernel
theorem dX6_runOver_55 : decode cX6_runOver 55 = .ok (.imul, 1) := by decide +kernel
theorem dX6_runOver_56 : decode cX6_runOver 56 = .ok (.iconst 2, 1) := by decide +kernel
theorem dX6_runOver_57 : decode cX6_runOver 57 = .ok (.iadd, 1) := by decide +kernel
theorem dX6_runOver_58 : decode cX6_runOver 58 = .ok (.iaload, 1) := by decide +kernel
theorem dX6_runOver_59 : decode cX6_runOver 59 = .ok (.istore 7, 2) := by decide +kernel
theorem dX6_runOver_61 : decode cX6_runOver 61 = .ok (.iload 7, 2) := by decide +kernel
theorem dX6_runOver_63 : decode cX6_runOver 63 = .ok (.aload_n 0, 1) := by decide +kernel
theorem dX6_runOver_64 : decode cX6_runOver 64 = .ok (.getfield 32, 3) := by decide +kernel
theorem dX6_runOver_67 : decode cX6_runOver 67 = .ok (.iload 4, 2) := by decide +kernel
theorem dX6_runOver_69 : decode cX6_runOver 69 = .ok (.iaload, 1) := by decide +kernel
theorem dX6_runOver_70 : decode cX6_runOver 70 = .ok (.iadd, 1) := by decide +kernel
theorem dX6_runOver_71 : decode cX6_runOver 71 = .ok (.istore 8, 2) := by decide +kernel
theorem dX6_runOver_73 : decode cX6_runOver 73 = .ok (.aload_n 1, 1) := by decide +kernel
theorem dX6_runOver_74 : decode cX6_runOver 74 = .ok (.iload 4, 2) := by decide +kernel
theorem dX6_runOver_76 : decode cX6_runOver 76 = .ok (.dup2, 1) := by decide +kernel
theorem dX6_runOver_77 : decode cX6_runOver 77 = .ok (.laload, 1) := by decide +kernel
theorem dX6_runOver_78 : decode cX6_runOver 78 = .ok (.lload 5, 2) := by decide +kernel
theorem dX6_runOver_80 : decode cX6_runOver 80 = .ok (.lsub, 1) := by decide +kernel
theorem dX6_runOver_81 : decode cX6_runOver 81 = .ok (.lastore, 1) := by decide +kernel
theorem dX6_runOver_82 : decode cX6_runOver 82 = .ok (.lload 5, 2) := by decide +kernel
theorem dX6_runOver_84 : decode cX6_runOver 84 = .ok (.lstore 9, 2) := by decide +kernel
theorem dX6_runOver_86 : decode cX6_runOver 86 = .ok (.iconst 0, 1) := by decide +kernel
theorem dX6_runOver_87 : decode cX6_runOver 87 = .ok (.istore 11, 2) := by decide +kernel
theorem dX6_runOver_89 : decode cX6_runOver 89 = .ok (.iload 11, 2) := by decide +kernel
theorem dX6_runOver_91 : decode cX6_runOver 91 = .ok (.iload 7, 2) := by decide +kernel
theorem dX6_runOver_93 : decode cX6_runOver 93 = .ok (.if_icmp .ge 84, 3) := by decide +kernel
theorem dX6_runOver_96 : decode cX6_runOver 96 = .ok (.lload 5, 2) := by decide +kernel
theorem dX6_runOver_98 : decode cX6_runOver 98 = .ok (.lconst 0, 1) := by decide +kernel
theorem dX6_runOver_99 : decode cX6_runOver 99 = .ok (.lcmp, 1) := by decide +kernel
theorem dX6_runOver_100 : decode cX6_runOver 100 = .ok (.ifCond .le 77, 3) := by decide +kernel
theorem dX6_runOver_103 : decode cX6_runOver 103 = .ok (.aload_n 0, 1) := by decide +kernel
theorem dX6_runOver_104 : decode cX6_runOver 104 = .ok (.getfield 16, 3) := by decide +kernel
theorem dX6_runOver_107 : decode cX6_runOver 107 = .ok (.bipush 6, 2) := by decide +kernel
theorem dX6_runOver_109 : decode cX6_runOver 109 = .ok (.iload 4, 2) := by decide +kernel
theorem dX6_runOver_111 : decode cX6_runOver 111 = .ok (.imul, 1) := by decide +kernel
theorem dX6_runOver_112 : decode cX6_runOver 112 = .ok (.iconst 3, 1) := by decide +kernel
theorem dX6_runOver_113 : decode cX6_runOver 113 = .ok (.iadd, 1) := by decide +kernel
theorem dX6_runOver_114 : decode cX6_runOver 114 = .ok (.iload 11, 2) := by decide +kernel
theorem dX6_runOver_116 : decode cX6_runOver 116 = .ok (.iadd, 1) := by decide +kernel
theorem dX6_runOver_117 : decode cX6_runOver 117 = .ok (.iaload, 1) := by decide +kernel
theorem dX6_runOver_118 : decode cX6_runOver 118 = .ok (.istore 12, 2) := by decide +kernel
theorem dX6_runOver_120 : decode cX6_runOver 120 = .ok (.iload 12, 2) := by decide +kernel
theorem dX6_runOver_122 : decode cX6_runOver 122 = .ok (.bipush 9, 2) := by decide +kernel
theorem dX6_runOver_124 : decode cX6_runOver 124 = .ok (.if_icmp .ge 47, 3) := by decide +kernel
theorem dX6_runOver_127 : decode cX6_runOver 127 = .ok (.lload 5, 2) := by decide +kernel
theorem dX6_runOver_129 : decode cX6_runOver 129 = .ok (.iload 8, 2) := by decide +kernel
theorem dX6_runOver_131 : decode cX6_runOver 131 = .ok (.i2l, 1) := by decide +kernel
theorem dX6_runOver_132 : decode cX6_runOver 132 = .ok (.ldiv, 1) := by decide +kernel
theorem dX6_runOver_133 : decode cX6_runOver 133 = .ok (.iload 11, 2) := by decide +kernel
theorem dX6_runOver_135 : decode cX6_runOver 135 = .ok (.ifCond .ne 15, 3) := by decide +kernel
theorem dX6_runOver_138 : decode cX6_runOver 138 = .ok (.iconst 1, 1) := by decide +kernel
theorem dX6_runOver_139 : decode cX6_runOver 139 = .ok (.aload_n 0, 1) := by decide +kernel
theorem dX6_runOver_140 : decode cX6_runOver 140 = .ok (.getfield 32, 3) := by decide +kernel
theorem dX6_runOver_143 : decode cX6_runOver 143 = .ok (.iload 4, 2) := by decide +kernel
theorem dX6_runOver_145 : decode cX6_runOver 145 = .ok (.iaload, 1) := by decide +kernel
theorem dX6_runOver_146 : decode cX6_runOver 146 = .ok (.iadd, 1) := by decide +kernel
theorem dX6_runOver_147 : decode cX6_runOver 147 = .ok (.goto 4, 3) := by decide +kernel
theorem dX6_runOver_150 : decode cX6_runOver 150 = .ok (.iconst 1, 1) := by decide +kernel
theorem dX6_runOver_151 : decode cX6_runOver 151 = .ok (.i2l, 1) := by decide +kernel
theorem dX6_runOver_152 : decode cX6_runOver 152 = .ok (.lmul, 1) := by decide +kernel
theorem dX6_runOver_153 : decode cX6_runOver 153 = .ok (.lstore 13, 2) := by decide +kernel
theorem dX6_runOver_155 : decode cX6_runOver 155 = .ok (.aload_n 1, 1) := by decide +kernel
theorem dX6_runOver_156 : decode cX6_runOver 156 = .ok (.iload 12, 2) := by decide +kernel
theorem dX6_runOver_158 : decode cX6_runOver 158 = .ok (.dup2, 1) := by decide +kernel
theorem dX6_runOver_159 : decode cX6_runOver 159 = .ok (.laload, 1) := by decide +kernel
theorem dX6_runOver_160 : decode cX6_runOver 160 = .ok (.lload 13, 2) := by decide +kernel
theorem dX6_runOver_162 : decode cX6_runOver 162 = .ok (.ladd, 1) := by decide +kernel
theorem dX6_runOver_163 : decode cX6_runOver 163 = .ok (.lastore, 1) := by decide +kernel
theorem dX6_runOver_164 : decode cX6_runOver 164 = .ok (.lload 9, 2) := by decide +kernel
theorem dX6_runOver_166 : decode cX6_runOver 166 = .ok (.lload 13, 2) := by decide +kernel
theorem dX6_runOver_168 : decode cX6_runOver 168 = .ok (.lsub, 1) := by decide +kernel
theorem dX6_runOver_169 : decode cX6_runOver 169 = .ok (.lstore 9, 2) := by decide +kernel
theorem dX6_runOver_171 : decode cX6_runOver 171 = .ok (.iinc 11 1, 3) := by decide +kernel
theorem dX6_runOver_174 : decode cX6_runOver 174 = .ok (.goto (-85), 3) := by decide +kernel
theorem dX6_runOver_177 : decode cX6_runOver 177 = .ok (.lload_n 2, 1) := by decide +kernel
theorem dX6_runOver_178 : decode cX6_runOver 178 = .ok (.lload 9, 2) := by decide +kernel
theorem dX6_runOver_180 : decode cX6_runOver 180 = .ok (.ladd, 1) := by decide +kernel
theorem dX6_runOver_181 : decode cX6_runOver 181 = .ok (.lstore_n 2, 1) := by decide +kernel
theorem dX6_runOver_182 : decode cX6_runOver 182 = .ok (.iinc 4 1, 3) := by decide +kernel
theorem dX6_runOver_185 : decode cX6_runOver 185 = .ok (.goto (-180), 3) := by decide +kernel
theorem dX6_runOver_188 : decode cX6_runOver 188 = .ok (.lload_n 2, 1) := by decide +kernel
theorem dX6_runOver_189 : decode cX6_runOver 189 = .ok (.lreturn, 1) := by decide +kernel
set_option maxRecDepth 20000 in
theorem ggX6_isFull_X6_takesOf : GoodIn wsX6_isFull wsX6_takesOf := goodIn_r _ [7, 8, 9, 10, 11, 12, 13, 14, 15, 16, 17, 18, 19, 20, 21, 22, 23, 24, 25, 26, 27, 28, 29, 30, 31, 32, 33, 34] (by decide +kernel) (by decide +kernel)
set_option maxRecDepth 20000 in
theorem gX6_isFull_X6_takesOf : GoodIn wsX6_isFull (wsV RX6 115 RX6 yX6_takesOf wsX6_takesOf) := goodIn_app (goodIn_of _ (by decide +kernel)) ggX6_isFull_X6_takesOf
theorem dX6_isFull_0 : decode cX6_isFull 0 = .ok (.aload_n 0, 1) := by decide +kernel
theorem dX6_isFull_1 : decode cX6_isFull 1 = .ok (.getfield 22, 3) := by decide +kernel
theorem dX6_isFull_4 : decode cX6_isFull 4 = .ok (.iload_n 1, 1) := by decide +kernel
theorem dX6_isFull_5 : decode cX6_isFull 5 = .ok (.laload, 1) := by decide +kernel
theorem dX6_isFull_6 : decode cX6_isFull 6 = .ok (.ldc2_w 113, 3) := by decide +kernel
theorem dX6_isFull_9 : decode cX6_isFull 9 = .ok (.aload_n 0, 1) := by decide +kernel
theorem dX6_isFull_10 : decode cX6_isFull 10 = .ok (.iload_n 1, 1) := by decide +kernel
theorem dX6_isFull_11 : decode cX6_isFull 11 = .ok (.invokevirtual 115, 3) := by decide +kernel
theorem dX6_isFull_14 : decode cX6_isFull 14 = .ok (.i2l, 1) := by decide +kernel
theorem dX6_isFull_15 : decode cX6_isFull 15 = .ok (.lmul, 1) := by decide +kernel
theorem dX6_isFull_16 : decode cX6_isFull 16 = .ok (.lcmp, 1) := by decide +kernel
theorem dX6_isFull_17 : decode cX6_isFull 17 = .ok (.ifCond .ne 7, 3) := by decide +kernel
theorem dX6_isFull_20 : decode cX6_isFull 20 = .ok (.iconst 1, 1) := by decide +kernel
theorem dX6_isFull_21 : decode cX6_isFull 21 = .ok (.goto 4, 3) := by decide +kernel
theorem dX6_isFull_24 : decode cX6_isFull 24 = .ok (.iconst 0, 1) := by decide +kernel
theorem dX6_isFull_25 : decode cX6_isFull 25 = .ok (.ireturn, 1) := by decide +kernel
set_option maxRecDepth 20000 in
theorem ggX6_fullMany_X6_isFull : GoodIn wsX6_fullMany wsX6_isFull := goodIn_r _ [6, 7, 8, 9, 10, 11, 5, 12, 13, 14, 15, 16, 17, 18, 19, 20, 21, 22, 23, 24, 25, 26, 27, 28, 29, 30, 31, 32, 33, 34, 35, 36, 37, 38, 39] (by decide +kernel) (by decide +kernel)
set_option maxRecDepth 20000 in
theorem gX6_fullMany_X6_isFull : GoodIn wsX6_fullMany (wsV RX6 118 RX6 yX6_isFull wsX6_isFull) := goodIn_app (goodIn_of _ (by decide +kernel)) ggX6_fullMany_X6_isFull
theorem dX6_fullMany_0 : decode cX6_fullMany 0 = .ok (.iconst 0, 1) := by decide +kernel
theorem dX6_fullMany_1 : decode cX6_fullMany 1 = .ok (.istore_n 1, 1) := by decide +kernel
theorem dX6_fullMany_2 : decode cX6_fullMany 2 = .ok (.iconst 0, 1) := by decide +kernel
theorem dX6_fullMany_3 : decode cX6_fullMany 3 = .ok (.istore_n 2, 1) := by decide +kernel
theorem dX6_fullMany_4 : decode cX6_fullMany 4 = .ok (.iload_n 2, 1) := by decide +kernel
theorem dX6_fullMany_5 : decode cX6_fullMany 5 = .ok (.aload_n 0, 1) := by decide +kernel
theorem dX6_fullMany_6 : decode cX6_fullMany 6 = .ok (.getfield 97, 3) := by decide +kernel
theorem dX6_fullMany_9 : decode cX6_fullMany 9 = .ok (.if_icmp .ge 25, 3) := by decide +kernel
theorem dX6_fullMany_12 : decode cX6_fullMany 12 = .ok (.iload_n 1, 1) := by decide +kernel
theorem dX6_fullMany_13 : decode cX6_fullMany 13 = .ok (.aload_n 0, 1) := by decide +kernel
theorem dX6_fullMany_14 : decode cX6_fullMany 14 = .ok (.iload_n 2, 1) := by decide +kernel
theorem dX6_fullMany_15 : decode cX6_fullMany 15 = .ok (.invokevirtual 118, 3) := by decide +kernel
theorem dX6_fullMany_18 : decode cX6_fullMany 18 = .ok (.ifCond .eq 7, 3) := by decide +kernel
theorem dX6_fullMany_21 : decode cX6_fullMany 21 = .ok (.iconst 1, 1) := by decide +kernel
theorem dX6_fullMany_22 : decode cX6_fullMany 22 = .ok (.goto 4, 3) := by decide +kernel
theorem dX6_fullMany_25 : decode cX6_fullMany 25 = .ok (.iconst 0, 1) := by decide +kernel
theorem dX6_fullMany_26 : decode cX6_fullMany 26 = .ok (.iadd, 1) := by decide +kernel
theorem dX6_fullMany_27 : decode cX6_fullMany 27 = .ok (.istore_n 1, 1) := by decide +kernel
theorem dX6_fullMany_28 : decode cX6_fullMany 28 = .ok (.iinc 2 1, 3) := by decide +kernel
theorem dX6_fullMany_31 : decode cX6_fullMany 31 = .ok (.goto (-27), 3) := by decide +kernel
theorem dX6_fullMany_34 : decode cX6_fullMany 34 = .ok (.iload_n 1, 1) := by decide +kernel
theorem dX6_fullMany_35 : decode cX6_fullMany 35 = .ok (.ireturn, 1) := by decide +kernel
set_option maxRecDepth 20000 in
theorem ggX6_tellGlass_X6_takesOf : GoodIn wsX6_tellGlass wsX6_takesOf := goodIn_r _ [7, 1, 14, 15, 16, 17, 18, 19, 20, 21, 22, 23, 24, 25, 26, 27, 28, 29, 30, 31, 32, 33, 34, 35, 36, 37, 38, 39] (by decide +kernel) (by decide +kernel)
set_option maxRecDepth 20000 in
theorem gX6_tellGlass_X6_takesOf : GoodIn wsX6_tellGlass (wsV RX6 115 RX6 yX6_takesOf wsX6_takesOf) := goodIn_app (goodIn_of _ (by decide +kernel)) ggX6_tellGlass_X6_takesOf
set_option maxRecDepth 20000 in
theorem ggX6_tellGlass_X6_isFull : GoodIn wsX6_tellGlass wsX6_isFull := goodIn_r _ [11, 12, 13, 3, 4, 5, 6, 7, 1, 14, 15, 16, 17, 18, 19, 20, 21, 22, 23, 24, 25, 26, 27, 28, 29, 30, 31, 32, 33, 34, 35, 36, 37, 38, 39] (by decide +kernel) (by decide +kernel)
set_option maxRecDepth 20000 in
theorem gX6_tellGlass_X6_isFull : GoodIn wsX6_tellGlass (wsV RX6 118 RX6 yX6_isFull wsX6_isFull) := goodIn_app (goodIn_of _ (by decide +kernel)) ggX6_tellGlass_X6_isFull
theorem dX6_tellGlass_0 : decode cX6_tellGlass 0 = .ok (.iload_n 2, 1) := by decide +kernel
theorem dX6_tellGlass_1 : decode cX6_tellGlass 1 = .ok (.tableswitch 114 0 8 #[51, 61, 73, 79, 79, 79, 79, 93, 100], 51) := by decide +kernel
theorem dX6_tellGlass_52 : decode cX6_tellGlass 52 = .ok (.aload_n 0, 1) := by decide +kernel
theorem dX6_tellGlass_53 : decode cX6_tellGlass 53 = .ok (.getfield 16, 3) := by decide +kernel
theorem dX6_tellGlass_56 : decode cX6_tellGlass 56 = .ok (.bipush 6, 2) := by decide +kernel
theorem dX6_tellGlass_58 : decode cX6_tellGlass 58 = .ok (.iload_n 1, 1) := by decide +kernel
theorem dX6_tellGlass_59 : decode cX6_tellGlass 59 = .ok (.imul, 1) := by decide +kernel
theorem dX6_tellGlass_60 : decode cX6_tellGlass 60 = .ok (.iaload, 1) := by decide +kernel
theorem dX6_tellGlass_61 : decode cX6_tellGlass 61 = .ok (.ireturn, 1) := by decide +kernel
theorem dX6_tellGlass_62 : decode cX6_tellGlass 62 = .ok (.aload_n 0, 1) := by decide +kernel
theorem dX6_tellGlass_63 : decode cX6_tellGlass 63 = .ok (.getfield 16, 3) := by decide +kernel
theorem dX6_tellGlass_66 : decode cX6_tellGlass 66 = .ok (.bipush 6, 2) := by decide +kernel
theorem dX6_tellGlass_68 : decode cX6_tellGlass 68 = .ok (.iload_n 1, 1) := by decide +kernel
theorem dX6_tellGlass_69 : decode cX6_tellGlass 69 = .ok (.imul, 1) := by decide +kernel
theorem dX6_tellGlass_70 : decode cX6_tellGlass 70 = .ok (.iconst 1, 1) := by decide +kernel
theorem dX6_tellGlass_71 : decode cX6_tellGlass 71 = .ok (.iadd, 1) := by decide +kernel
theorem dX6_tellGlass_72 : decode cX6_tellGlass 72 = .ok (.iaload, 1) := by decide +kernel
theorem dX6_tellGlass_73 : decode cX6_tellGlass 73 = .ok (.ireturn, 1) := by decide +kernel
theorem dX6_tellGlass_74 : decode cX6_tellGlass 74 = .ok (.aload_n 0, 1) := by decide +kernel
theorem dX6_tellGlass_75 : decode cX6_tellGlass 75 = .ok (.iload_n 1, 1) := by decide +kernel
theorem dX6_tellGlass_76 : decode cX6_tellGlass 76 = .ok (.invokevirtual 115, 3) := by decide +kernel
theorem dX6_tellGlass_79 : decode cX6_tellGlass 79 = .ok (.ireturn, 1) := by decide +kernel
theorem dX6_tellGlass_80 : decode cX6_tellGlass 80 = .ok (.aload_n 0, 1) := by decide +kernel
theorem dX6_tellGlass_81 : decode cX6_tellGlass 81 = .ok (.getfield 16, 3) := by decide +kernel
theorem dX6_tellGlass_84 : decode cX6_tellGlass 84 = .ok (.bipush 6, 2) := by decide +kernel
theorem dX6_tellGlass_86 : decode cX6_tellGlass 86 = .ok (.iload_n 1, 1) := by decide +kernel
theorem dX6_tellGlass_87 : decode cX6_tellGlass 87 = .ok (.imul, 1) := by decide +kernel
theorem dX6_tellGlass_88 : decode cX6_tellGlass 88 = .ok (.iload_n 2, 1) := by decide +kernel
theorem dX6_tellGlass_89 : decode cX6_tellGlass 89 = .ok (.iadd, 1) := by decide +kernel
theorem dX6_tellGlass_90 : decode cX6_tellGlass 90 = .ok (.iconst 1, 1) := by decide +kernel
theorem dX6_tellGlass_91 : decode cX6_tellGlass 91 = .ok (.isub, 1) := by decide +kernel
theorem dX6_tellGlass_92 : decode cX6_tellGlass 92 = .ok (.iaload, 1) := by decide +kernel
theorem dX6_tellGlass_93 : decode cX6_tellGlass 93 = .ok (.ireturn, 1) := by decide +kernel
theorem dX6_tellGlass_94 : decode cX6_tellGlass 94 = .ok (.aload_n 0, 1) := by decide +kernel
theorem dX6_tellGlass_95 : decode cX6_tellGlass 95 = .ok (.getfield 19, 3) := by decide +kernel
theorem dX6_tellGlass_98 : decode cX6_tellGlass 98 = .ok (.iload_n 1, 1) := by decide +kernel
theorem dX6_tellGlass_99 : decode cX6_tellGlass 99 = .ok (.iaload, 1) := by decide +kernel
theorem dX6_tellGlass_100 : decode cX6_tellGlass 100 = .ok (.ireturn, 1) := by decide +kernel
theorem dX6_tellGlass_101 : decode cX6_tellGlass 101 = .ok (.aload_n 0, 1) := by decide +kernel
theorem dX6_tellGlass_102 : decode cX6_tellGlass 102 = .ok (.iload_n 1, 1) := by decide +kernel
theorem dX6_tellGlass_103 : decode cX6_tellGlass 103 = .ok (.invokevirtual 118, 3) := by decide +kernel
theorem dX6_tellGlass_106 : decode cX6_tellGlass 106 = .ok (.ifCond .eq 7, 3) := by decide +kernel
theorem dX6_tellGlass_109 : decode cX6_tellGlass 109 = .ok (.iconst 1, 1) := by decide +kernel
theorem dX6_tellGlass_110 : decode cX6_tellGlass 110 = .ok (.goto 4, 3) := by decide +kernel
theorem dX6_tellGlass_113 : decode cX6_tellGlass 113 = .ok (.iconst 0, 1) := by decide +kernel
theorem dX6_tellGlass_114 : decode cX6_tellGlass 114 = .ok (.ireturn, 1) := by decide +kernel
theorem dX6_tellGlass_115 : decode cX6_tellGlass 115 = .ok (.bipush (-102), 2) := by decide +kernel
theorem dX6_tellGlass_117 : decode cX6_tellGlass 117 = .ok (.ireturn, 1) := by decide +kernel
set_option maxRecDepth 20000 in
theorem ggX6_about_X6_isGlass : GoodIn wsX6_about wsX6_isGlass := goodIn_r _ [5, 6, 7, 8, 4, 9, 26, 27, 28, 29, 30, 31, 32, 33, 34, 35, 36, 37, 38, 39, 40, 41, 42, 43, 44, 45, 46, 47, 48, 49, 50, 51] (by decide +kernel) (by decide +kernel)
set_option maxRecDepth 20000 in
theorem gX6_about_X6_isGlass : GoodIn wsX6_about (wsV RX6 121 RX6 yX6_isGlass wsX6_isGlass) := goodIn_app (goodIn_of _ (by decide +kernel)) ggX6_about_X6_isGlass
set_option maxRecDepth 20000 in
theorem ggX6_about_X6_tellGlass : GoodIn wsX6_about wsX6_tellGlass := goodIn_r _ [13, 14, 15, 16, 17, 18, 4, 19, 20, 21, 22, 23, 24, 25, 26, 27, 28, 29, 30, 31, 32, 33, 34, 35, 36, 37, 38, 39, 40, 41, 42, 43, 44, 45, 46, 47, 48, 49, 50, 51] (by decide +kernel) (by decide +kernel)
set_option maxRecDepth 20000 in
theorem gX6_about_X6_tellGlass : GoodIn wsX6_about (wsV RX6 124 RX6 yX6_tellGlass wsX6_tellGlass) := goodIn_app (goodIn_of _ (by decide +kernel)) ggX6_about_X6_tellGlass
theorem dX6_about_0 : decode cX6_about 0 = .ok (.aload_n 0, 1) := by decide +kernel
theorem dX6_about_1 : decode cX6_about 1 = .ok (.iload_n 1, 1) := by decide +kernel
theorem dX6_about_2 : decode cX6_about 2 = .ok (.invokevirtual 121, 3) := by decide +kernel
theorem dX6_about_5 : decode cX6_about 5 = .ok (.ifCond .eq 12, 3) := by decide +kernel
theorem dX6_about_8 : decode cX6_about 8 = .ok (.aload_n 0, 1) := by decide +kernel
theorem dX6_about_9 : decode cX6_about 9 = .ok (.iload_n 1, 1) := by decide +kernel
theorem dX6_about_10 : decode cX6_about 10 = .ok (.iload_n 2, 1) := by decide +kernel
theorem dX6_about_11 : decode cX6_about 11 = .ok (.invokevirtual 124, 3) := by decide +kernel
theorem dX6_about_14 : decode cX6_about 14 = .ok (.goto 5, 3) := by decide +kernel
theorem dX6_about_17 : decode cX6_about 17 = .ok (.bipush (-101), 2) := by decide +kernel
theorem dX6_about_19 : decode cX6_about 19 = .ok (.ireturn, 1) := by decide +kernel
set_option maxRecDepth 20000 in
theorem ggX6_as_X6_isGlass : GoodIn wsX6_as wsX6_isGlass := goodIn_r _ [7, 8, 9, 10, 6, 11, 12, 13, 14, 15, 16, 17, 18, 19, 20, 21, 22, 23, 24, 25, 26, 27, 28, 29, 30, 31, 32, 33, 34, 35, 36, 37] (by decide +kernel) (by decide +kernel)
set_option maxRecDepth 20000 in
theorem gX6_as_X6_isGlass : GoodIn wsX6_as (wsV RX6 121 RX6 yX6_isGlass wsX6_isGlass) := goodIn_app (goodIn_of _ (by decide +kernel)) ggX6_as_X6_isGlass
set_option maxRecDepth 20000 in
theorem ggX6_as_X6_isIn : GoodIn wsX6_as wsX6_isIn := goodIn_r _ [11] (by decide +kernel) (by decide +kernel)
set_option maxRecDepth 20000 in
theorem gX6_as_X6_isIn : GoodIn wsX6_as (va_wsS RX6 66 yX6_isIn wsX6_isIn) := goodIn_app (goodIn_of _ (by decide +kernel)) ggX6_as_X6_isIn
theorem dX6_as_0 : decode cX6_as 0 = .ok (.aload_n 0, 1) := by decide +kernel
theorem dX6_as_1 : decode cX6_as 1 = .ok (.iload_n 1, 1) := by decide +kernel
theorem dX6_as_2 : decode cX6_as 2 = .ok (.invokevirtual 121, 3) := by decide +kernel
theorem dX6_as_5 : decode cX6_as 5 = .ok (.ifCond .ne 6, 3) := by decide +kernel
theorem dX6_as_8 : decode cX6_as 8 = .ok (.bipush (-101), 2) := by decide +kernel
theorem dX6_as_10 : decode cX6_as 10 = .ok (.ireturn, 1) := by decide +kernel
theorem dX6_as_11 : decode cX6_as 11 = .ok (.iload_n 2, 1) := by decide +kernel
theorem dX6_as_12 : decode cX6_as 12 = .ok (.i2l, 1) := by decide +kernel
theorem dX6_as_13 : decode cX6_as 13 = .ok (.lconst 0, 1) := by decide +kernel
theorem dX6_as_14 : decode cX6_as 14 = .ok (.ldc2_w 128, 3) := by decide +kernel
theorem dX6_as_17 : decode cX6_as 17 = .ok (.invokestatic 66, 3) := by decide +kernel
theorem dX6_as_20 : decode cX6_as 20 = .ok (.ifCond .ne 6, 3) := by decide +kernel
theorem dX6_as_23 : decode cX6_as 23 = .ok (.bipush (-102), 2) := by decide +kernel
theorem dX6_as_25 : decode cX6_as 25 = .ok (.ireturn, 1) := by decide +kernel
theorem dX6_as_26 : decode cX6_as 26 = .ok (.aload_n 0, 1) := by decide +kernel
theorem dX6_as_27 : decode cX6_as 27 = .ok (.getfield 16, 3) := by decide +kernel
theorem dX6_as_30 : decode cX6_as 30 = .ok (.bipush 6, 2) := by decide +kernel
theorem dX6_as_32 : decode cX6_as 32 = .ok (.iload_n 1, 1) := by decide +kernel
theorem dX6_as_33 : decode cX6_as 33 = .ok (.imul, 1) := by decide +kernel
theorem dX6_as_34 : decode cX6_as 34 = .ok (.iaload, 1) := by decide +kernel
theorem dX6_as_35 : decode cX6_as 35 = .ok (.istore_n 3, 1) := by decide +kernel
theorem dX6_as_36 : decode cX6_as 36 = .ok (.iload_n 2, 1) := by decide +kernel
theorem dX6_as_37 : decode cX6_as 37 = .ok (.ifCond .eq 18, 3) := by decide +kernel
theorem dX6_as_40 : decode cX6_as 40 = .ok (.iload_n 2, 1) := by decide +kernel
theorem dX6_as_41 : decode cX6_as 41 = .ok (.iload_n 3, 1) := by decide +kernel
theorem dX6_as_42 : decode cX6_as 42 = .ok (.if_icmp .eq 13, 3) := by decide +kernel
theorem dX6_as_45 : decode cX6_as 45 = .ok (.iload_n 2, 1) := by decide +kernel
theorem dX6_as_46 : decode cX6_as 46 = .ok (.iconst 2, 1) := by decide +kernel
theorem dX6_as_47 : decode cX6_as 47 = .ok (.if_icmp .ne 12, 3) := by decide +kernel
theorem dX6_as_50 : decode cX6_as 50 = .ok (.iload_n 3, 1) := by decide +kernel
theorem dX6_as_51 : decode cX6_as 51 = .ok (.iconst 4, 1) := by decide +kernel
theorem dX6_as_52 : decode cX6_as 52 = .ok (.if_icmp .ne 7, 3) := by decide +kernel
theorem dX6_as_55 : decode cX6_as 55 = .ok (.iconst 1, 1) := by decide +kernel
theorem dX6_as_56 : decode cX6_as 56 = .ok (.goto 4, 3) := by decide +kernel
theorem dX6_as_59 : decode cX6_as 59 = .ok (.iconst 0, 1) := by decide +kernel
theorem dX6_as_60 : decode cX6_as 60 = .ok (.istore 4, 2) := by decide +kernel
theorem dX6_as_62 : decode cX6_as 62 = .ok (.iload 4, 2) := by decide +kernel
theorem dX6_as_64 : decode cX6_as 64 = .ok (.ifCond .eq 7, 3) := by decide +kernel
theorem dX6_as_67 : decode cX6_as 67 = .ok (.iload_n 1, 1) := by decide +kernel
theorem dX6_as_68 : decode cX6_as 68 = .ok (.goto 4, 3) := by decide +kernel
theorem dX6_as_71 : decode cX6_as 71 = .ok (.iconst (-1), 1) := by decide +kernel
theorem dX6_as_72 : decode cX6_as 72 = .ok (.ireturn, 1) := by decide +kernel
set_option maxRecDepth 20000 in
theorem ggX6_pourInto_X6_layTakes : GoodIn wsX6_pourInto wsX6_layTakes := goodIn_r _ [9, 10, 11, 2, 12, 13, 14, 15, 16, 8, 17, 22, 23, 24, 25, 26, 27, 28, 29, 30, 31, 32, 33, 34, 35, 36, 37, 38, 39, 40, 41, 42, 43, 44, 45, 46, 47] (by decide +kernel) (by decide +kernel)
set_option maxRecDepth 20000 in
theorem gX6_pourInto_X6_layTakes : GoodIn wsX6_pourInto (wsV RX6 130 RX6 yX6_layTakes wsX6_layTakes) := goodIn_app (goodIn_of _ (by decide +kernel)) ggX6_pourInto_X6_layTakes
set_option maxRecDepth 20000 in
theorem ggX6_pourInto_X6_runOver : GoodIn wsX6_pourInto wsX6_runOver := goodIn_r _ [21, 10, 11, 13, 12, 22, 23, 24, 25, 26, 27, 28, 29, 30, 31, 32, 33, 34, 35, 36, 37, 38, 39, 40, 41, 42, 43, 44, 45, 46, 47] (by decide +kernel) (by decide +kernel)
set_option maxRecDepth 20000 in
theorem gX6_pourInto_X6_runOver : GoodIn wsX6_pourInto (wsV RX6 133 RX6 yX6_runOver wsX6_runOver) := goodIn_app (goodIn_of _ (by decide +kernel)) ggX6_pourInto_X6_runOver
theorem dX6_pourInto_0 : decode cX6_pourInto 0 = .ok (.aload_n 0, 1) := by decide +kernel
theorem dX6_pourInto_1 : decode cX6_pourInto 1 = .ok (.invokevirtual 130, 3) := by decide +kernel
theorem dX6_pourInto_4 : decode cX6_pourInto 4 = .ok (.aload_n 0, 1) := by decide +kernel
theorem dX6_pourInto_5 : decode cX6_pourInto 5 = .ok (.getfield 22, 3) := by decide +kernel
theorem dX6_pourInto_8 : decode cX6_pourInto 8 = .ok (.iload_n 1, 1) := by decide +kernel
theorem dX6_pourInto_9 : decode cX6_pourInto 9 = .ok (.dup2, 1) := by decide +kernel
theorem dX6_pourInto_10 : decode cX6_pourInto 10 = .ok (.laload, 1) := by decide +kernel
theorem dX6_pourInto_11 : decode cX6_pourInto 11 = .ok (.ldc2_w 113, 3) := by decide +kernel
theorem dX6_pourInto_14 : decode cX6_pourInto 14 = .ok (.iload_n 2, 1) := by decide +kernel
theorem dX6_pourInto_15 : decode cX6_pourInto 15 = .ok (.i2l, 1) := by decide +kernel
theorem dX6_pourInto_16 : decode cX6_pourInto 16 = .ok (.lmul, 1) := by decide +kernel
theorem dX6_pourInto_17 : decode cX6_pourInto 17 = .ok (.ladd, 1) := by decide +kernel
theorem dX6_pourInto_18 : decode cX6_pourInto 18 = .ok (.lastore, 1) := by decide +kernel
theorem dX6_pourInto_19 : decode cX6_pourInto 19 = .ok (.aload_n 0, 1) := by decide +kernel
theorem dX6_pourInto_20 : decode cX6_pourInto 20 = .ok (.aload_n 0, 1) := by decide +kernel
theorem dX6_pourInto_21 : decode cX6_pourInto 21 = .ok (.getfield 22, 3) := by decide +kernel
theorem dX6_pourInto_24 : decode cX6_pourInto 24 = .ok (.invokevirtual 133, 3) := by decide +kernel
theorem dX6_pourInto_27 : decode cX6_pourInto 27 = .ok (.lstore_n 3, 1) := by decide +kernel
theorem dX6_pourInto_28 : decode cX6_pourInto 28 = .ok (.aload_n 0, 1) := by decide +kernel
theorem dX6_pourInto_29 : decode cX6_pourInto 29 = .ok (.dup, 1) := by decide +kernel
theorem dX6_pourInto_30 : decode cX6_pourInto 30 = .ok (.getfield 106, 3) := by decide +kernel
theorem dX6_pourInto_33 : decode cX6_pourInto 33 = .ok (.lload_n 3, 1) := by decide +kernel
theorem dX6_pourInto_34 : decode cX6_pourInto 34 = .ok (.ladd, 1) := by decide +kernel
theorem dX6_pourInto_35 : decode cX6_pourInto 35 = .ok (.putfield 106, 3) := by decide +kernel
theorem dX6_pourInto_38 : decode cX6_pourInto 38 = .ok (.aload_n 0, 1) := by decide +kernel
theorem dX6_pourInto_39 : decode cX6_pourInto 39 = .ok (.dup, 1) := by decide +kernel
theorem dX6_pourInto_40 : decode cX6_pourInto 40 = .ok (.getfield 110, 3) := by decide +kernel
theorem dX6_pourInto_43 : decode cX6_pourInto 43 = .ok (.iload_n 2, 1) := by decide +kernel
theorem dX6_pourInto_44 : decode cX6_pourInto 44 = .ok (.iadd, 1) := by decide +kernel
theorem dX6_pourInto_45 : decode cX6_pourInto 45 = .ok (.putfield 110, 3) := by decide +kernel
theorem dX6_pourInto_48 : decode cX6_pourInto 48 = .ok (.return_, 1) := by decide +kernel
set_option maxRecDepth 20000 in
theorem ggX6_pour_X6_isGlass : GoodIn wsX6_pour wsX6_isGlass := goodIn_r _ [7, 8, 9, 10, 6, 11, 34, 35, 36, 37, 38, 39, 40, 41, 42, 43, 44, 45, 46, 47, 48, 49, 50, 51, 52, 53, 54, 55, 56, 57, 58, 59] (by decide +kernel) (by decide +kernel)
set_option maxRecDepth 20000 in
theorem gX6_pour_X6_isGlass : GoodIn wsX6_pour (wsV RX6 121 RX6 yX6_isGlass wsX6_isGlass) := goodIn_app (goodIn_of _ (by decide +kernel)) ggX6_pour_X6_isGlass
set_option maxRecDepth 20000 in
theorem ggX6_pour_X6_isIn : GoodIn wsX6_pour wsX6_isIn := goodIn_r _ [11] (by decide +kernel) (by decide +kernel)
set_option maxRecDepth 20000 in
theorem gX6_pour_X6_isIn : GoodIn wsX6_pour (va_wsS RX6 66 yX6_isIn wsX6_isIn) := goodIn_app (goodIn_of _ (by decide +kernel)) ggX6_pour_X6_isIn
set_option maxRecDepth 20000 in
theorem ggX6_pour_X6_pourInto : GoodIn wsX6_pour wsX6_pourInto := goodIn_r _ [15, 16, 17, 18, 2, 19, 20, 21, 6, 22, 8, 23, 24, 25, 26, 27, 28, 29, 30, 31, 32, 33, 34, 35, 36, 37, 38, 39, 40, 41, 42, 43, 44, 45, 46, 47, 48, 49, 50, 51, 52, 53, 54, 55, 56, 57, 58, 59] (by decide +kernel) (by decide +kernel)
set_option maxRecDepth 20000 in
theorem gX6_pour_X6_pourInto : GoodIn wsX6_pour (wsV RX6 139 RX6 yX6_pourInto wsX6_pourInto) := goodIn_app (goodIn_of _ (by decide +kernel)) ggX6_pour_X6_pourInto
theorem dX6_pour_0 : decode cX6_pour 0 = .ok (.aload_n 0, 1) := by decide +kernel
theorem dX6_pour_1 : decode cX6_pour 1 = .ok (.iload_n 1, 1) := by decide +kernel
theorem dX6_pour_2 : decode cX6_pour 2 = .ok (.invokevirtual 121, 3) := by decide +kernel
theorem dX6_pour_5 : decode cX6_pour 5 = .ok (.ifCond .ne 6, 3) := by decide +kernel
theorem dX6_pour_8 : decode cX6_pour 8 = .ok (.bipush (-101), 2) := by decide +kernel
theorem dX6_pour_10 : decode cX6_pour 10 = .ok (.ireturn, 1) := by decide +kernel
theorem dX6_pour_11 : decode cX6_pour 11 = .ok (.iload_n 2, 1) := by decide +kernel
theorem dX6_pour_12 : decode cX6_pour 12 = .ok (.i2l, 1) := by decide +kernel
theorem dX6_pour_13 : decode cX6_pour 13 = .ok (.lconst 1, 1) := by decide +kernel
theorem dX6_pour_14 : decode cX6_pour 14 = .ok (.ldc2_w 137, 3) := by decide +kernel
theorem dX6_pour_17 : decode cX6_pour 17 = .ok (.invokestatic 66, 3) := by decide +kernel
theorem dX6_pour_20 : decode cX6_pour 20 = .ok (.ifCond .ne 6, 3) := by decide +kernel
theorem dX6_pour_23 : decode cX6_pour 23 = .ok (.bipush (-102), 2) := by decide +kernel
theorem dX6_pour_25 : decode cX6_pour 25 = .ok (.ireturn, 1) := by decide +kernel
theorem dX6_pour_26 : decode cX6_pour 26 = .ok (.aload_n 0, 1) := by decide +kernel
theorem dX6_pour_27 : decode cX6_pour 27 = .ok (.getfield 110, 3) := by decide +kernel
theorem dX6_pour_30 : decode cX6_pour 30 = .ok (.iload_n 2, 1) := by decide +kernel
theorem dX6_pour_31 : decode cX6_pour 31 = .ok (.iadd, 1) := by decide +kernel
theorem dX6_pour_32 : decode cX6_pour 32 = .ok (.sipush 9999, 3) := by decide +kernel
theorem dX6_pour_35 : decode cX6_pour 35 = .ok (.if_icmp .le 6, 3) := by decide +kernel
theorem dX6_pour_38 : decode cX6_pour 38 = .ok (.bipush (-103), 2) := by decide +kernel
theorem dX6_pour_40 : decode cX6_pour 40 = .ok (.ireturn, 1) := by decide +kernel
theorem dX6_pour_41 : decode cX6_pour 41 = .ok (.aload_n 0, 1) := by decide +kernel
theorem dX6_pour_42 : decode cX6_pour 42 = .ok (.iload_n 1, 1) := by decide +kernel
theorem dX6_pour_43 : decode cX6_pour 43 = .ok (.iload_n 2, 1) := by decide +kernel
theorem dX6_pour_44 : decode cX6_pour 44 = .ok (.invokevirtual 139, 3) := by decide +kernel
theorem dX6_pour_47 : decode cX6_pour 47 = .ok (.aload_n 0, 1) := by decide +kernel
theorem dX6_pour_48 : decode cX6_pour 48 = .ok (.getfield 110, 3) := by decide +kernel
theorem dX6_pour_51 : decode cX6_pour 51 = .ok (.ireturn, 1) := by decide +kernel
theorem dX6_term_0 : decode cX6_term 0 = .ok (.lload_n 0, 1) := by decide +kernel
theorem dX6_term_1 : decode cX6_term 1 = .ok (.lstore_n 3, 1) := by decide +kernel
theorem dX6_term_2 : decode cX6_term 2 = .ok (.ldc2_w 113, 3) := by decide +kernel
theorem dX6_term_5 : decode cX6_term 5 = .ok (.lstore 5, 2) := by decide +kernel
theorem dX6_term_7 : decode cX6_term 7 = .ok (.lload_n 3, 1) := by decide +kernel
theorem dX6_term_8 : decode cX6_term 8 = .ok (.lconst 0, 1) := by decide +kernel
theorem dX6_term_9 : decode cX6_term 9 = .ok (.lcmp, 1) := by decide +kernel
theorem dX6_term_10 : decode cX6_term 10 = .ok (.ifCond .eq 18, 3) := by decide +kernel
theorem dX6_term_13 : decode cX6_term 13 = .ok (.lload 5, 2) := by decide +kernel
theorem dX6_term_15 : decode cX6_term 15 = .ok (.lload_n 3, 1) := by decide +kernel
theorem dX6_term_16 : decode cX6_term 16 = .ok (.lrem, 1) := by decide +kernel
theorem dX6_term_17 : decode cX6_term 17 = .ok (.lstore 7, 2) := by decide +kernel
theorem dX6_term_19 : decode cX6_term 19 = .ok (.lload_n 3, 1) := by decide +kernel
theorem dX6_term_20 : decode cX6_term 20 = .ok (.lstore 5, 2) := by decide +kernel
theorem dX6_term_22 : decode cX6_term 22 = .ok (.lload 7, 2) := by decide +kernel
theorem dX6_term_24 : decode cX6_term 24 = .ok (.lstore_n 3, 1) := by decide +kernel
theorem dX6_term_25 : decode cX6_term 25 = .ok (.goto (-18), 3) := by decide +kernel
theorem dX6_term_28 : decode cX6_term 28 = .ok (.iload_n 2, 1) := by decide +kernel
theorem dX6_term_29 : decode cX6_term 29 = .ok (.ifCond .ne 10, 3) := by decide +kernel
theorem dX6_term_32 : decode cX6_term 32 = .ok (.lload_n 0, 1) := by decide +kernel
theorem dX6_term_33 : decode cX6_term 33 = .ok (.lload 5, 2) := by decide +kernel
theorem dX6_term_35 : decode cX6_term 35 = .ok (.ldiv, 1) := by decide +kernel
theorem dX6_term_36 : decode cX6_term 36 = .ok (.goto 9, 3) := by decide +kernel
theorem dX6_term_39 : decode cX6_term 39 = .ok (.ldc2_w 113, 3) := by decide +kernel
theorem dX6_term_42 : decode cX6_term 42 = .ok (.lload 5, 2) := by decide +kernel
theorem dX6_term_44 : decode cX6_term 44 = .ok (.ldiv, 1) := by decide +kernel
theorem dX6_term_45 : decode cX6_term 45 = .ok (.lreturn, 1) := by decide +kernel
set_option maxRecDepth 20000 in
theorem ggX6_isPart_X6_isIn : GoodIn wsX6_isPart wsX6_isIn := goodIn_r _ [4] (by decide +kernel) (by decide +kernel)
set_option maxRecDepth 20000 in
theorem gX6_isPart_X6_isIn : GoodIn wsX6_isPart (va_wsS RX6 66 yX6_isIn wsX6_isIn) := goodIn_app (goodIn_of _ (by decide +kernel)) ggX6_isPart_X6_isIn
theorem dX6_isPart_0 : decode cX6_isPart 0 = .ok (.iload_n 0, 1) := by decide +kernel
theorem dX6_isPart_1 : decode cX6_isPart 1 = .ok (.i2l, 1) := by decide +kernel
theorem dX6_isPart_2 : decode cX6_isPart 2 = .ok (.lconst 0, 1) := by decide +kernel
theorem dX6_isPart_3 : decode cX6_isPart 3 = .ok (.lconst 1, 1) := by decide +kernel
theorem dX6_isPart_4 : decode cX6_isPart 4 = .ok (.invokestatic 66, 3) := by decide +kernel
theorem dX6_isPart_7 : decode cX6_isPart 7 = .ok (.ireturn, 1) := by decide +kernel
set_option maxRecDepth 20000 in
theorem ggX6_in_X6_isGlass : GoodIn wsX6_in wsX6_isGlass := goodIn_r _ [8, 9, 10, 11, 7, 12, 20, 21, 22, 23, 24, 25, 26, 27, 28, 29, 30, 31, 32, 33, 34, 35, 36, 37, 38, 39, 40, 41, 42, 43, 44, 45] (by decide +kernel) (by decide +kernel)
set_option maxRecDepth 20000 in
theorem gX6_in_X6_isGlass : GoodIn wsX6_in (wsV RX6 121 RX6 yX6_isGlass wsX6_isGlass) := goodIn_app (goodIn_of _ (by decide +kernel)) ggX6_in_X6_isGlass
set_option maxRecDepth 20000 in
theorem ggX6_in_X6_isPart : GoodIn wsX6_in wsX6_isPart := goodIn_r _ [15, 10, 11, 7, 12] (by decide +kernel) (by decide +kernel)
set_option maxRecDepth 20000 in
theorem gX6_in_X6_isPart : GoodIn wsX6_in (va_wsS RX6 145 yX6_isPart wsX6_isPart) := goodIn_app (goodIn_of _ (by decide +kernel)) ggX6_in_X6_isPart
set_option maxRecDepth 20000 in
theorem ggX6_in_X6_term : GoodIn wsX6_in wsX6_term := goodIn_r _ [18, 19] (by decide +kernel) (by decide +kernel)
set_option maxRecDepth 20000 in
theorem gX6_in_X6_term : GoodIn wsX6_in (va_wsS RX6 148 yX6_term wsX6_term) := goodIn_app (goodIn_of _ (by decide +kernel)) ggX6_in_X6_term
theorem dX6_in_0 : decode cX6_in 0 = .ok (.aload_n 0, 1) := by decide +kernel
theorem dX6_in_1 : decode cX6_in 1 = .ok (.iload_n 1, 1) := by decide +kernel
theorem dX6_in_2 : decode cX6_in 2 = .ok (.invokevirtual 121, 3) := by decide +kernel
theorem dX6_in_5 : decode cX6_in 5 = .ok (.ifCond .ne 7, 3) := by decide +kernel
theorem dX6_in_8 : decode cX6_in 8 = .ok (.ldc2_w 143, 3) := by decide +kernel
theorem dX6_in_11 : decode cX6_in 11 = .ok (.lreturn, 1) := by decide +kernel
theorem dX6_in_12 : decode cX6_in 12 = .ok (.iload_n 2, 1) := by decide +kernel
theorem dX6_in_13 : decode cX6_in 13 = .ok (.invokestatic 145, 3) := by decide +kernel
theorem dX6_in_16 : decode cX6_in 16 = .ok (.ifCond .eq 16, 3) := by decide +kernel
theorem dX6_in_19 : decode cX6_in 19 = .ok (.aload_n 0, 1) := by decide +kernel
theorem dX6_in_20 : decode cX6_in 20 = .ok (.getfield 22, 3) := by decide +kernel
theorem dX6_in_23 : decode cX6_in 23 = .ok (.iload_n 1, 1) := by decide +kernel
theorem dX6_in_24 : decode cX6_in 24 = .ok (.laload, 1) := by decide +kernel
theorem dX6_in_25 : decode cX6_in 25 = .ok (.iload_n 2, 1) := by decide +kernel
theorem dX6_in_26 : decode cX6_in 26 = .ok (.invokestatic 148, 3) := by decide +kernel
theorem dX6_in_29 : decode cX6_in 29 = .ok (.goto 6, 3) := by decide +kernel
theorem dX6_in_32 : decode cX6_in 32 = .ok (.ldc2_w 152, 3) := by decide +kernel
theorem dX6_in_35 : decode cX6_in 35 = .ok (.lreturn, 1) := by decide +kernel
theorem dX6_together_0 : decode cX6_together 0 = .ok (.lconst 0, 1) := by decide +kernel
theorem dX6_together_1 : decode cX6_together 1 = .ok (.lstore_n 1, 1) := by decide +kernel
theorem dX6_together_2 : decode cX6_together 2 = .ok (.iconst 0, 1) := by decide +kernel
theorem dX6_together_3 : decode cX6_together 3 = .ok (.istore_n 3, 1) := by decide +kernel
theorem dX6_together_4 : decode cX6_together 4 = .ok (.iload_n 3, 1) := by decide +kernel
theorem dX6_together_5 : decode cX6_together 5 = .ok (.aload_n 0, 1) := by decide +kernel
theorem dX6_together_6 : decode cX6_together 6 = .ok (.getfield 97, 3) := by decide +kernel
theorem dX6_together_9 : decode cX6_together 9 = .ok (.if_icmp .ge 18, 3) := by decide +kernel
theorem dX6_together_12 : decode cX6_together 12 = .ok (.lload_n 1, 1) := by decide +kernel
theorem dX6_together_13 : decode cX6_together 13 = .ok (.aload_n 0, 1) := by decide +kernel
theorem dX6_together_14 : decode cX6_together 14 = .ok (.getfield 22, 3) := by decide +kernel
theorem dX6_together_17 : decode cX6_together 17 = .ok (.iload_n 3, 1) := by decide +kernel
theorem dX6_together_18 : decode cX6_together 18 = .ok (.laload, 1) := by decide +kernel
theorem dX6_together_19 : decode cX6_together 19 = .ok (.ladd, 1) := by decide +kernel
theorem dX6_together_20 : decode cX6_together 20 = .ok (.lstore_n 1, 1) := by decide +kernel
theorem dX6_together_21 : decode cX6_together 21 = .ok (.iinc 3 1, 3) := by decide +kernel
theorem dX6_together_24 : decode cX6_together 24 = .ok (.goto (-20), 3) := by decide +kernel
theorem dX6_together_27 : decode cX6_together 27 = .ok (.lload_n 1, 1) := by decide +kernel
theorem dX6_together_28 : decode cX6_together 28 = .ok (.lreturn, 1) := by decide +kernel
set_option maxRecDepth 20000 in
theorem ggX6_all_X6_isPart : GoodIn wsX6_all wsX6_isPart := goodIn_r _ [6, 7, 8, 5, 9] (by decide +kernel) (by decide +kernel)
set_option maxRecDepth 20000 in
theorem gX6_all_X6_isPart : GoodIn wsX6_all (va_wsS RX6 145 yX6_isPart wsX6_isPart) := goodIn_app (goodIn_of _ (by decide +kernel)) ggX6_all_X6_isPart
set_option maxRecDepth 20000 in
theorem ggX6_all_X6_together : GoodIn wsX6_all wsX6_together := goodIn_r _ [13, 14, 15, 20, 21, 22, 23, 24, 25, 26, 27, 28, 29, 30, 31, 32, 33, 34, 35, 36, 37, 38, 39, 40, 41, 42, 43, 44, 45] (by decide +kernel) (by decide +kernel)
set_option maxRecDepth 20000 in
theorem gX6_all_X6_together : GoodIn wsX6_all (wsV RX6 154 RX6 yX6_together wsX6_together) := goodIn_app (goodIn_of _ (by decide +kernel)) ggX6_all_X6_together
set_option maxRecDepth 20000 in
theorem ggX6_all_X6_term : GoodIn wsX6_all wsX6_term := goodIn_r _ [18, 19] (by decide +kernel) (by decide +kernel)
set_option maxRecDepth 20000 in
theorem gX6_all_X6_term : GoodIn wsX6_all (va_wsS RX6 148 yX6_term wsX6_term) := goodIn_app (goodIn_of _ (by decide +kernel)) ggX6_all_X6_term
theorem dX6_all_0 : decode cX6_all 0 = .ok (.iload_n 1, 1) := by decide +kernel
theorem dX6_all_1 : decode cX6_all 1 = .ok (.invokestatic 145, 3) := by decide +kernel
theorem dX6_all_4 : decode cX6_all 4 = .ok (.ifCond .eq 32, 3) := by decide +kernel
theorem dX6_all_7 : decode cX6_all 7 = .ok (.iload_n 2, 1) := by decide +kernel
theorem dX6_all_8 : decode cX6_all 8 = .ok (.invokestatic 145, 3) := by decide +kernel
theorem dX6_all_11 : decode cX6_all 11 = .ok (.ifCond .eq 25, 3) := by decide +kernel
theorem dX6_all_14 : decode cX6_all 14 = .ok (.iload_n 1, 1) := by decide +kernel
theorem dX6_all_15 : decode cX6_all 15 = .ok (.ifCond .ne 10, 3) := by decide +kernel
theorem dX6_all_18 : decode cX6_all 18 = .ok (.aload_n 0, 1) := by decide +kernel
theorem dX6_all_19 : decode cX6_all 19 = .ok (.getfield 106, 3) := by decide +kernel
theorem dX6_all_22 : decode cX6_all 22 = .ok (.goto 7, 3) := by decide +kernel
theorem dX6_all_25 : decode cX6_all 25 = .ok (.aload_n 0, 1) := by decide +kernel
theorem dX6_all_26 : decode cX6_all 26 = .ok (.invokevirtual 154, 3) := by decide +kernel
theorem dX6_all_29 : decode cX6_all 29 = .ok (.iload_n 2, 1) := by decide +kernel
theorem dX6_all_30 : decode cX6_all 30 = .ok (.invokestatic 148, 3) := by decide +kernel
theorem dX6_all_33 : decode cX6_all 33 = .ok (.goto 6, 3) := by decide +kernel
theorem dX6_all_36 : decode cX6_all 36 = .ok (.ldc2_w 152, 3) := by decide +kernel
theorem dX6_all_39 : decode cX6_all 39 = .ok (.lreturn, 1) := by decide +kernel
theorem dX6_emptyOne_0 : decode cX6_emptyOne 0 = .ok (.aload_n 0, 1) := by decide +kernel
theorem dX6_emptyOne_1 : decode cX6_emptyOne 1 = .ok (.getfield 22, 3) := by decide +kernel
theorem dX6_emptyOne_4 : decode cX6_emptyOne 4 = .ok (.iload_n 1, 1) := by decide +kernel
theorem dX6_emptyOne_5 : decode cX6_emptyOne 5 = .ok (.laload, 1) := by decide +kernel
theorem dX6_emptyOne_6 : decode cX6_emptyOne 6 = .ok (.lconst 0, 1) := by decide +kernel
theorem dX6_emptyOne_7 : decode cX6_emptyOne 7 = .ok (.lcmp, 1) := by decide +kernel
theorem dX6_emptyOne_8 : decode cX6_emptyOne 8 = .ok (.ifCond .le 7, 3) := by decide +kernel
theorem dX6_emptyOne_11 : decode cX6_emptyOne 11 = .ok (.iconst 1, 1) := by decide +kernel
theorem dX6_emptyOne_12 : decode cX6_emptyOne 12 = .ok (.goto 4, 3) := by decide +kernel
theorem dX6_emptyOne_15 : decode cX6_emptyOne 15 = .ok (.iconst 0, 1) := by decide +kernel
theorem dX6_emptyOne_16 : decode cX6_emptyOne 16 = .ok (.istore_n 2, 1) := by decide +kernel
theorem dX6_emptyOne_17 : decode cX6_emptyOne 17 = .ok (.aload_n 0, 1) := by decide +kernel
theorem dX6_emptyOne_18 : decode cX6_emptyOne 18 = .ok (.getfield 26, 3) := by decide +kernel
theorem dX6_emptyOne_21 : decode cX6_emptyOne 21 = .ok (.iload_n 1, 1) := by decide +kernel
theorem dX6_emptyOne_22 : decode cX6_emptyOne 22 = .ok (.dup2, 1) := by decide +kernel
theorem dX6_emptyOne_23 : decode cX6_emptyOne 23 = .ok (.laload, 1) := by decide +kernel
theorem dX6_emptyOne_24 : decode cX6_emptyOne 24 = .ok (.aload_n 0, 1) := by decide +kernel
theorem dX6_emptyOne_25 : decode cX6_emptyOne 25 = .ok (.getfield 22, 3) := by decide +kernel
theorem dX6_emptyOne_28 : decode cX6_emptyOne 28 = .ok (.iload_n 1, 1) := by decide +kernel
theorem dX6_emptyOne_29 : decode cX6_emptyOne 29 = .ok (.laload, 1) := by decide +kernel
theorem dX6_emptyOne_30 : decode cX6_emptyOne 30 = .ok (.ladd, 1) := by decide +kernel
theorem dX6_emptyOne_31 : decode cX6_emptyOne 31 = .ok (.lastore, 1) := by decide +kernel
theorem dX6_emptyOne_32 : decode cX6_emptyOne 32 = .ok (.aload_n 0, 1) := by decide +kernel
theorem dX6_emptyOne_33 : decode cX6_emptyOne 33 = .ok (.getfield 22, 3) := by decide +kernel
theorem dX6_emptyOne_36 : decode cX6_emptyOne 36 = .ok (.iload_n 1, 1) := by decide +kernel
theorem dX6_emptyOne_37 : decode cX6_emptyOne 37 = .ok (.lconst 0, 1) := by decide +kernel
theorem dX6_emptyOne_38 : decode cX6_emptyOne 38 = .ok (.lastore, 1) := by decide +kernel
theorem dX6_emptyOne_39 : decode cX6_emptyOne 39 = .ok (.iload_n 2, 1) := by decide +kernel
theorem dX6_emptyOne_40 : decode cX6_emptyOne 40 = .ok (.ireturn, 1) := by decide +kernel
set_option maxRecDepth 20000 in
theorem ggX6_drink_X6_isGlass : GoodIn wsX6_drink wsX6_isGlass := goodIn_r _ [6, 7, 8, 9, 5, 10, 17, 18, 19, 20, 21, 22, 23, 24, 25, 26, 27, 28, 29, 30, 31, 32, 33, 34, 35, 36, 37, 38, 39, 40, 41, 42] (by decide +kernel) (by decide +kernel)
set_option maxRecDepth 20000 in
theorem gX6_drink_X6_isGlass : GoodIn wsX6_drink (wsV RX6 121 RX6 yX6_isGlass wsX6_isGlass) := goodIn_app (goodIn_of _ (by decide +kernel)) ggX6_drink_X6_isGlass
set_option maxRecDepth 20000 in
theorem ggX6_drink_X6_emptyOne : GoodIn wsX6_drink wsX6_emptyOne := goodIn_r _ [14, 15, 16, 17, 18, 19, 20, 21, 22, 23, 24, 25, 26, 27, 28, 29, 30, 31, 32, 33, 34, 35, 36, 37, 38, 39, 40, 41, 42] (by decide +kernel) (by decide +kernel)
set_option maxRecDepth 20000 in
theorem gX6_drink_X6_emptyOne : GoodIn wsX6_drink (wsV RX6 158 RX6 yX6_emptyOne wsX6_emptyOne) := goodIn_app (goodIn_of _ (by decide +kernel)) ggX6_drink_X6_emptyOne
theorem dX6_drink_0 : decode cX6_drink 0 = .ok (.aload_n 0, 1) := by decide +kernel
theorem dX6_drink_1 : decode cX6_drink 1 = .ok (.iload_n 1, 1) := by decide +kernel
theorem dX6_drink_2 : decode cX6_drink 2 = .ok (.invokevirtual 121, 3) := by decide +kernel
theorem dX6_drink_5 : decode cX6_drink 5 = .ok (.ifCond .ne 6, 3) := by decide +kernel
theorem dX6_drink_8 : decode cX6_drink 8 = .ok (.bipush (-101), 2) := by decide +kernel
theorem dX6_drink_10 : decode cX6_drink 10 = .ok (.ireturn, 1) := by decide +kernel
theorem dX6_drink_11 : decode cX6_drink 11 = .ok (.aload_n 0, 1) := by decide +kernel
theorem dX6_drink_12 : decode cX6_drink 12 = .ok (.getfield 16, 3) := by decide +kernel
theorem dX6_drink_15 : decode cX6_drink 15 = .ok (.bipush 6, 2) := by decide +kernel
theorem dX6_drink_17 : decode cX6_drink 17 = .ok (.iload_n 1, 1) := by decide +kernel
theorem dX6_drink_18 : decode cX6_drink 18 = .ok (.imul, 1) := by decide +kernel
theorem dX6_drink_19 : decode cX6_drink 19 = .ok (.iaload, 1) := by decide +kernel
theorem dX6_drink_20 : decode cX6_drink 20 = .ok (.iconst 4, 1) := by decide +kernel
theorem dX6_drink_21 : decode cX6_drink 21 = .ok (.if_icmp .ne 8, 3) := by decide +kernel
theorem dX6_drink_24 : decode cX6_drink 24 = .ok (.bipush (-103), 2) := by decide +kernel
theorem dX6_drink_26 : decode cX6_drink 26 = .ok (.goto 8, 3) := by decide +kernel
theorem dX6_drink_29 : decode cX6_drink 29 = .ok (.aload_n 0, 1) := by decide +kernel
theorem dX6_drink_30 : decode cX6_drink 30 = .ok (.iload_n 1, 1) := by decide +kernel
theorem dX6_drink_31 : decode cX6_drink 31 = .ok (.invokevirtual 158, 3) := by decide +kernel
theorem dX6_drink_34 : decode cX6_drink 34 = .ok (.ireturn, 1) := by decide +kernel
set_option maxRecDepth 20000 in
theorem ggX6_drunk_X6_isGlass : GoodIn wsX6_drunk wsX6_isGlass := goodIn_r _ [8, 9, 10, 11, 7, 12, 20, 21, 22, 23, 24, 25, 26, 27, 28, 29, 30, 31, 32, 33, 34, 35, 36, 37, 38, 39, 40, 41, 42, 43, 44, 45] (by decide +kernel) (by decide +kernel)
set_option maxRecDepth 20000 in
theorem gX6_drunk_X6_isGlass : GoodIn wsX6_drunk (wsV RX6 121 RX6 yX6_isGlass wsX6_isGlass) := goodIn_app (goodIn_of _ (by decide +kernel)) ggX6_drunk_X6_isGlass
set_option maxRecDepth 20000 in
theorem ggX6_drunk_X6_isPart : GoodIn wsX6_drunk wsX6_isPart := goodIn_r _ [15, 10, 11, 7, 12] (by decide +kernel) (by decide +kernel)
set_option maxRecDepth 20000 in
theorem gX6_drunk_X6_isPart : GoodIn wsX6_drunk (va_wsS RX6 145 yX6_isPart wsX6_isPart) := goodIn_app (goodIn_of _ (by decide +kernel)) ggX6_drunk_X6_isPart
set_option maxRecDepth 20000 in
theorem ggX6_drunk_X6_term : GoodIn wsX6_drunk wsX6_term := goodIn_r _ [18, 19] (by decide +kernel) (by decide +kernel)
set_option maxRecDepth 20000 in
theorem gX6_drunk_X6_term : GoodIn wsX6_drunk (va_wsS RX6 148 yX6_term wsX6_term) := goodIn_app (goodIn_of _ (by decide +kernel)) ggX6_drunk_X6_term
theorem dX6_drunk_0 : decode cX6_drunk 0 = .ok (.aload_n 0, 1) := by decide +kernel
theorem dX6_drunk_1 : decode cX6_drunk 1 = .ok (.iload_n 1, 1) := by decide +kernel
theorem dX6_drunk_2 : decode cX6_drunk 2 = .ok (.invokevirtual 121, 3) := by decide +kernel
theorem dX6_drunk_5 : decode cX6_drunk 5 = .ok (.ifCond .ne 7, 3) := by decide +kernel
theorem dX6_drunk_8 : decode cX6_drunk 8 = .ok (.ldc2_w 143, 3) := by decide +kernel
theorem dX6_drunk_11 : decode cX6_drunk 11 = .ok (.lreturn, 1) := by decide +kernel
theorem dX6_drunk_12 : decode cX6_drunk 12 = .ok (.iload_n 2, 1) := by decide +kernel
theorem dX6_drunk_13 : decode cX6_drunk 13 = .ok (.invokestatic 145, 3) := by decide +kernel
theorem dX6_drunk_16 : decode cX6_drunk 16 = .ok (.ifCond .eq 16, 3) := by decide +kernel
theorem dX6_drunk_19 : decode cX6_drunk 19 = .ok (.aload_n 0, 1) := by decide +kernel
theorem dX6_drunk_20 : decode cX6_drunk 20 = .ok (.getfield 26, 3) := by decide +kernel
theorem dX6_drunk_23 : decode cX6_drunk 23 = .ok (.iload_n 1, 1) := by decide +kernel
theorem dX6_drunk_24 : decode cX6_drunk 24 = .ok (.laload, 1) := by decide +kernel
theorem dX6_drunk_25 : decode cX6_drunk 25 = .ok (.iload_n 2, 1) := by decide +kernel
theorem dX6_drunk_26 : decode cX6_drunk 26 = .ok (.invokestatic 148, 3) := by decide +kernel
theorem dX6_drunk_29 : decode cX6_drunk 29 = .ok (.goto 6, 3) := by decide +kernel
theorem dX6_drunk_32 : decode cX6_drunk 32 = .ok (.ldc2_w 152, 3) := by decide +kernel
theorem dX6_drunk_35 : decode cX6_drunk 35 = .ok (.lreturn, 1) := by decide +kernel
set_option maxRecDepth 20000 in
theorem ggX6_clear_X6_empty : GoodIn wsX6_clear wsX6_empty := goodIn_r _ [6, 7, 8, 9, 1, 10, 11, 12, 13, 14, 15, 16, 17, 18, 19, 20, 21, 22, 23, 24, 25, 26, 27, 28, 29, 30, 31, 32, 33, 34, 35] (by decide +kernel) (by decide +kernel)
set_option maxRecDepth 20000 in
theorem gX6_clear_X6_empty : GoodIn wsX6_clear (wsV RX6 100 RX6 yX6_empty wsX6_empty) := goodIn_app (goodIn_of _ (by decide +kernel)) ggX6_clear_X6_empty
theorem dX6_clear_0 : decode cX6_clear 0 = .ok (.aload_n 0, 1) := by decide +kernel
theorem dX6_clear_1 : decode cX6_clear 1 = .ok (.getfield 110, 3) := by decide +kernel
theorem dX6_clear_4 : decode cX6_clear 4 = .ok (.istore_n 1, 1) := by decide +kernel
theorem dX6_clear_5 : decode cX6_clear 5 = .ok (.aload_n 0, 1) := by decide +kernel
theorem dX6_clear_6 : decode cX6_clear 6 = .ok (.invokevirtual 100, 3) := by decide +kernel
theorem dX6_clear_9 : decode cX6_clear 9 = .ok (.iload_n 1, 1) := by decide +kernel
theorem dX6_clear_10 : decode cX6_clear 10 = .ok (.ireturn, 1) := by decide +kernel
set_option maxRecDepth 20000 in
theorem ggX6_beginWould_X6_layTakes : GoodIn wsX6_beginWould wsX6_layTakes := goodIn_r _ [7, 8, 9, 10, 11, 12, 13, 14, 15, 6, 16, 17, 18, 19, 20, 21, 22, 23, 24, 25, 26, 27, 28, 29, 30, 31, 32, 33, 34, 35, 36, 37, 38, 39, 40, 41, 42] (by decide +kernel) (by decide +kernel)
set_option maxRecDepth 20000 in
theorem gX6_beginWould_X6_layTakes : GoodIn wsX6_beginWould (wsV RX6 130 RX6 yX6_layTakes wsX6_layTakes) := goodIn_app (goodIn_of _ (by decide +kernel)) ggX6_beginWould_X6_layTakes
theorem dX6_beginWould_0 : decode cX6_beginWould 0 = .ok (.aload_n 0, 1) := by decide +kernel
theorem dX6_beginWould_1 : decode cX6_beginWould 1 = .ok (.invokevirtual 130, 3) := by decide +kernel
theorem dX6_beginWould_4 : decode cX6_beginWould 4 = .ok (.iconst 0, 1) := by decide +kernel
theorem dX6_beginWould_5 : decode cX6_beginWould 5 = .ok (.istore_n 2, 1) := by decide +kernel
theorem dX6_beginWould_6 : decode cX6_beginWould 6 = .ok (.iload_n 2, 1) := by decide +kernel
theorem dX6_beginWould_7 : decode cX6_beginWould 7 = .ok (.bipush 9, 2) := by decide +kernel
theorem dX6_beginWould_9 : decode cX6_beginWould 9 = .ok (.if_icmp .ge 29, 3) := by decide +kernel
theorem dX6_beginWould_12 : decode cX6_beginWould 12 = .ok (.aload_n 0, 1) := by decide +kernel
theorem dX6_beginWould_13 : decode cX6_beginWould 13 = .ok (.getfield 35, 3) := by decide +kernel
theorem dX6_beginWould_16 : decode cX6_beginWould 16 = .ok (.iload_n 2, 1) := by decide +kernel
theorem dX6_beginWould_17 : decode cX6_beginWould 17 = .ok (.iload_n 1, 1) := by decide +kernel
theorem dX6_beginWould_18 : decode cX6_beginWould 18 = .ok (.ifCond .eq 12, 3) := by decide +kernel
theorem dX6_beginWould_21 : decode cX6_beginWould 21 = .ok (.aload_n 0, 1) := by decide +kernel
theorem dX6_beginWould_22 : decode cX6_beginWould 22 = .ok (.getfield 22, 3) := by decide +kernel
theorem dX6_beginWould_25 : decode cX6_beginWould 25 = .ok (.iload_n 2, 1) := by decide +kernel
theorem dX6_beginWould_26 : decode cX6_beginWould 26 = .ok (.laload, 1) := by decide +kernel
theorem dX6_beginWould_27 : decode cX6_beginWould 27 = .ok (.goto 4, 3) := by decide +kernel
theorem dX6_beginWould_30 : decode cX6_beginWould 30 = .ok (.lconst 0, 1) := by decide +kernel
theorem dX6_beginWould_31 : decode cX6_beginWould 31 = .ok (.lastore, 1) := by decide +kernel
theorem dX6_beginWould_32 : decode cX6_beginWould 32 = .ok (.iinc 2 1, 3) := by decide +kernel
theorem dX6_beginWould_35 : decode cX6_beginWould 35 = .ok (.goto (-29), 3) := by decide +kernel
theorem dX6_beginWould_38 : decode cX6_beginWould 38 = .ok (.return_, 1) := by decide +kernel
set_option maxRecDepth 20000 in
theorem ggX6_needOf_X6_beginWould : GoodIn wsX6_needOf wsX6_beginWould := goodIn_r _ [9, 2, 10, 11, 12, 13, 8, 14, 1, 3, 4, 15, 16, 17, 18, 19, 20, 25, 26, 27, 28, 29, 30, 31, 32, 33, 34, 35, 36, 37, 38, 39, 40, 41, 42, 43, 44, 45, 46, 47, 48, 49, 50] (by decide +kernel) (by decide +kernel)
set_option maxRecDepth 20000 in
theorem gX6_needOf_X6_beginWould : GoodIn wsX6_needOf (wsV RX6 161 RX6 yX6_beginWould wsX6_beginWould) := goodIn_app (goodIn_of _ (by decide +kernel)) ggX6_needOf_X6_beginWould
set_option maxRecDepth 20000 in
theorem ggX6_needOf_X6_runOver : GoodIn wsX6_needOf wsX6_runOver := goodIn_r _ [24, 1, 3, 16, 15, 25, 26, 27, 28, 29, 30, 31, 32, 33, 34, 35, 36, 37, 38, 39, 40, 41, 42, 43, 44, 45, 46, 47, 48, 49, 50] (by decide +kernel) (by decide +kernel)
set_option maxRecDepth 20000 in
theorem gX6_needOf_X6_runOver : GoodIn wsX6_needOf (wsV RX6 133 RX6 yX6_runOver wsX6_runOver) := goodIn_app (goodIn_of _ (by decide +kernel)) ggX6_needOf_X6_runOver
theorem dX6_needOf_0 : decode cX6_needOf 0 = .ok (.aload_n 0, 1) := by decide +kernel
theorem dX6_needOf_1 : decode cX6_needOf 1 = .ok (.iconst 1, 1) := by decide +kernel
theorem dX6_needOf_2 : decode cX6_needOf 2 = .ok (.invokevirtual 161, 3) := by decide +kernel
theorem dX6_needOf_5 : decode cX6_needOf 5 = .ok (.iconst 0, 1) := by decide +kernel
theorem dX6_needOf_6 : decode cX6_needOf 6 = .ok (.istore_n 3, 1) := by decide +kernel
theorem dX6_needOf_7 : decode cX6_needOf 7 = .ok (.iload_n 3, 1) := by decide +kernel
theorem dX6_needOf_8 : decode cX6_needOf 8 = .ok (.sipush 1000, 3) := by decide +kernel
theorem dX6_needOf_11 : decode cX6_needOf 11 = .ok (.if_icmp .ge 98, 3) := by decide +kernel
theorem dX6_needOf_14 : decode cX6_needOf 14 = .ok (.iconst 1, 1) := by decide +kernel
theorem dX6_needOf_15 : decode cX6_needOf 15 = .ok (.istore 4, 2) := by decide +kernel
theorem dX6_needOf_17 : decode cX6_needOf 17 = .ok (.iconst 0, 1) := by decide +kernel
theorem dX6_needOf_18 : decode cX6_needOf 18 = .ok (.istore 5, 2) := by decide +kernel
theorem dX6_needOf_20 : decode cX6_needOf 20 = .ok (.iload 5, 2) := by decide +kernel
theorem dX6_needOf_22 : decode cX6_needOf 22 = .ok (.aload_n 0, 1) := by decide +kernel
theorem dX6_needOf_23 : decode cX6_needOf 23 = .ok (.getfield 97, 3) := by decide +kernel
theorem dX6_needOf_26 : decode cX6_needOf 26 = .ok (.if_icmp .ge 48, 3) := by decide +kernel
theorem dX6_needOf_29 : decode cX6_needOf 29 = .ok (.iload 4, 2) := by decide +kernel
theorem dX6_needOf_31 : decode cX6_needOf 31 = .ok (.ifCond .eq 34, 3) := by decide +kernel
theorem dX6_needOf_34 : decode cX6_needOf 34 = .ok (.iload_n 1, 1) := by decide +kernel
theorem dX6_needOf_35 : decode cX6_needOf 35 = .ok (.iload 5, 2) := by decide +kernel
theorem dX6_needOf_37 : decode cX6_needOf 37 = .ok (.ishr, 1) := by decide +kernel
theorem dX6_needOf_38 : decode cX6_needOf 38 = .ok (.iconst 1, 1) := by decide +kernel
theorem dX6_needOf_39 : decode cX6_needOf 39 = .ok (.iand, 1) := by decide +kernel
theorem dX6_needOf_40 : decode cX6_needOf 40 = .ok (.ifCond .eq 21, 3) := by decide +kernel
theorem dX6_needOf_43 : decode cX6_needOf 43 = .ok (.aload_n 0, 1) := by decide +kernel
theorem dX6_needOf_44 : decode cX6_needOf 44 = .ok (.getfield 35, 3) := by decide +kernel
theorem dX6_needOf_47 : decode cX6_needOf 47 = .ok (.iload 5, 2) := by decide +kernel
theorem dX6_needOf_49 : decode cX6_needOf 49 = .ok (.laload, 1) := by decide +kernel
theorem dX6_needOf_50 : decode cX6_needOf 50 = .ok (.aload_n 0, 1) := by decide +kernel
theorem dX6_needOf_51 : decode cX6_needOf 51 = .ok (.getfield 29, 3) := by decide +kernel
theorem dX6_needOf_54 : decode cX6_needOf 54 = .ok (.iload 5, 2) := by decide +kernel
theorem dX6_needOf_56 : decode cX6_needOf 56 = .ok (.laload, 1) := by decide +kernel
theorem dX6_needOf_57 : decode cX6_needOf 57 = .ok (.lcmp, 1) := by decide +kernel
theorem dX6_needOf_58 : decode cX6_needOf 58 = .ok (.ifCond .ne 7, 3) := by decide +kernel
theorem dX6_needOf_61 : decode cX6_needOf 61 = .ok (.iconst 1, 1) := by decide +kernel
theorem dX6_needOf_62 : decode cX6_needOf 62 = .ok (.goto 4, 3) := by decide +kernel
theorem dX6_needOf_65 : decode cX6_needOf 65 = .ok (.iconst 0, 1) := by decide +kernel
theorem dX6_needOf_66 : decode cX6_needOf 66 = .ok (.istore 4, 2) := by decide +kernel
theorem dX6_needOf_68 : decode cX6_needOf 68 = .ok (.iinc 5 1, 3) := by decide +kernel
theorem dX6_needOf_71 : decode cX6_needOf 71 = .ok (.goto (-51), 3) := by decide +kernel
theorem dX6_needOf_74 : decode cX6_needOf 74 = .ok (.iload 4, 2) := by decide +kernel
theorem dX6_needOf_76 : decode cX6_needOf 76 = .ok (.ifCond .eq 5, 3) := by decide +kernel
theorem dX6_needOf_79 : decode cX6_needOf 79 = .ok (.iload_n 3, 1) := by decide +kernel
theorem dX6_needOf_80 : decode cX6_needOf 80 = .ok (.ireturn, 1) := by decide +kernel
theorem dX6_needOf_81 : decode cX6_needOf 81 = .ok (.aload_n 0, 1) := by decide +kernel
theorem dX6_needOf_82 : decode cX6_needOf 82 = .ok (.getfield 35, 3) := by decide +kernel
theorem dX6_needOf_85 : decode cX6_needOf 85 = .ok (.iload_n 2, 1) := by decide +kernel
theorem dX6_needOf_86 : decode cX6_needOf 86 = .ok (.dup2, 1) := by decide +kernel
theorem dX6_needOf_87 : decode cX6_needOf 87 = .ok (.laload, 1) := by decide +kernel
theorem dX6_needOf_88 : decode cX6_needOf 88 = .ok (.ldc2_w 113, 3) := by decide +kernel
theorem dX6_needOf_91 : decode cX6_needOf 91 = .ok (.ladd, 1) := by decide +kernel
theorem dX6_needOf_92 : decode cX6_needOf 92 = .ok (.lastore, 1) := by decide +kernel
theorem dX6_needOf_93 : decode cX6_needOf 93 = .ok (.aload_n 0, 1) := by decide +kernel
theorem dX6_needOf_94 : decode cX6_needOf 94 = .ok (.aload_n 0, 1) := by decide +kernel
theorem dX6_needOf_95 : decode cX6_needOf 95 = .ok (.getfield 35, 3) := by decide +kernel
theorem dX6_needOf_98 : decode cX6_needOf 98 = .ok (.invokevirtual 133, 3) := by decide +kernel
theorem dX6_needOf_101 : decode cX6_needOf 101 = .ok (.lstore 5, 2) := by decide +kernel
theorem dX6_needOf_103 : decode cX6_needOf 103 = .ok (.iinc 3 1, 3) := by decide +kernel
theorem dX6_needOf_106 : decode cX6_needOf 106 = .ok (.goto (-99), 3) := by decide +kernel
theorem dX6_needOf_109 : decode cX6_needOf 109 = .ok (.iconst (-1), 1) := by decide +kernel
theorem dX6_needOf_110 : decode cX6_needOf 110 = .ok (.ireturn, 1) := by decide +kernel
set_option maxRecDepth 20000 in
theorem ggX6_need_X6_isGlass : GoodIn wsX6_need wsX6_isGlass := goodIn_r _ [5, 6, 7, 8, 4, 9, 36, 37, 38, 39, 40, 41, 42, 43, 44, 45, 46, 47, 48, 49, 50, 51, 52, 53, 54, 55, 56, 57, 58, 59, 60, 61] (by decide +kernel) (by decide +kernel)
set_option maxRecDepth 20000 in
theorem gX6_need_X6_isGlass : GoodIn wsX6_need (wsV RX6 121 RX6 yX6_isGlass wsX6_isGlass) := goodIn_app (goodIn_of _ (by decide +kernel)) ggX6_need_X6_isGlass
set_option maxRecDepth 20000 in
theorem ggX6_need_X6_needOf : GoodIn wsX6_need wsX6_needOf := goodIn_r _ [13, 6, 14, 15, 16, 17, 18, 19, 4, 20, 21, 22, 23, 24, 25, 26, 27, 28, 29, 30, 31, 32, 33, 34, 35, 36, 37, 38, 39, 40, 41, 42, 43, 44, 45, 46, 47, 48, 49, 50, 51, 52, 53, 54, 55, 56, 57, 58, 59, 60, 61] (by decide +kernel) (by decide +kernel)
set_option maxRecDepth 20000 in
theorem gX6_need_X6_needOf : GoodIn wsX6_need (wsV RX6 165 RX6 yX6_needOf wsX6_needOf) := goodIn_app (goodIn_of _ (by decide +kernel)) ggX6_need_X6_needOf
theorem dX6_need_0 : decode cX6_need 0 = .ok (.aload_n 0, 1) := by decide +kernel
theorem dX6_need_1 : decode cX6_need 1 = .ok (.iload_n 1, 1) := by decide +kernel
theorem dX6_need_2 : decode cX6_need 2 = .ok (.invokevirtual 121, 3) := by decide +kernel
theorem dX6_need_5 : decode cX6_need 5 = .ok (.ifCond .eq 22, 3) := by decide +kernel
theorem dX6_need_8 : decode cX6_need 8 = .ok (.aload_n 0, 1) := by decide +kernel
theorem dX6_need_9 : decode cX6_need 9 = .ok (.iload_n 2, 1) := by decide +kernel
theorem dX6_need_10 : decode cX6_need 10 = .ok (.invokevirtual 121, 3) := by decide +kernel
theorem dX6_need_13 : decode cX6_need 13 = .ok (.ifCond .eq 14, 3) := by decide +kernel
theorem dX6_need_16 : decode cX6_need 16 = .ok (.aload_n 0, 1) := by decide +kernel
theorem dX6_need_17 : decode cX6_need 17 = .ok (.iconst 1, 1) := by decide +kernel
theorem dX6_need_18 : decode cX6_need 18 = .ok (.iload_n 1, 1) := by decide +kernel
theorem dX6_need_19 : decode cX6_need 19 = .ok (.ishl, 1) := by decide +kernel
theorem dX6_need_20 : decode cX6_need 20 = .ok (.iload_n 2, 1) := by decide +kernel
theorem dX6_need_21 : decode cX6_need 21 = .ok (.invokevirtual 165, 3) := by decide +kernel
theorem dX6_need_24 : decode cX6_need 24 = .ok (.goto 5, 3) := by decide +kernel
theorem dX6_need_27 : decode cX6_need 27 = .ok (.bipush (-101), 2) := by decide +kernel
theorem dX6_need_29 : decode cX6_need 29 = .ok (.ireturn, 1) := by decide +kernel
set_option maxRecDepth 20000 in
theorem ggX6_needAll_X6_lacks : GoodIn wsX6_needAll wsX6_lacks := goodIn_r _ [6, 1, 36, 37, 38, 39, 40, 41, 42, 43, 44, 45, 46, 47, 48, 49, 50, 51, 52, 53, 54, 55, 56, 57, 58, 59, 60, 61] (by decide +kernel) (by decide +kernel)
set_option maxRecDepth 20000 in
theorem gX6_needAll_X6_lacks : GoodIn wsX6_needAll (wsV RX6 168 RX6 yX6_lacks wsX6_lacks) := goodIn_app (goodIn_of _ (by decide +kernel)) ggX6_needAll_X6_lacks
set_option maxRecDepth 20000 in
theorem ggX6_needAll_X6_isIn : GoodIn wsX6_needAll wsX6_isIn := goodIn_r _ [9] (by decide +kernel) (by decide +kernel)
set_option maxRecDepth 20000 in
theorem gX6_needAll_X6_isIn : GoodIn wsX6_needAll (va_wsS RX6 66 yX6_isIn wsX6_isIn) := goodIn_app (goodIn_of _ (by decide +kernel)) ggX6_needAll_X6_isIn
set_option maxRecDepth 20000 in
theorem ggX6_needAll_X6_needOf : GoodIn wsX6_needAll wsX6_needOf := goodIn_r _ [13, 1, 14, 15, 16, 17, 18, 19, 5, 20, 21, 22, 23, 24, 25, 26, 27, 28, 29, 30, 31, 32, 33, 34, 35, 36, 37, 38, 39, 40, 41, 42, 43, 44, 45, 46, 47, 48, 49, 50, 51, 52, 53, 54, 55, 56, 57, 58, 59, 60, 61] (by decide +kernel) (by decide +kernel)
set_option maxRecDepth 20000 in
theorem gX6_needAll_X6_needOf : GoodIn wsX6_needAll (wsV RX6 165 RX6 yX6_needOf wsX6_needOf) := goodIn_app (goodIn_of _ (by decide +kernel)) ggX6_needAll_X6_needOf
theorem dX6_needAll_0 : decode cX6_needAll 0 = .ok (.aload_n 0, 1) := by decide +kernel
theorem dX6_needAll_1 : decode cX6_needAll 1 = .ok (.invokevirtual 168, 3) := by decide +kernel
theorem dX6_needAll_4 : decode cX6_needAll 4 = .ok (.ifCond .eq 6, 3) := by decide +kernel
theorem dX6_needAll_7 : decode cX6_needAll 7 = .ok (.bipush (-103), 2) := by decide +kernel
theorem dX6_needAll_9 : decode cX6_needAll 9 = .ok (.ireturn, 1) := by decide +kernel
theorem dX6_needAll_10 : decode cX6_needAll 10 = .ok (.iload_n 1, 1) := by decide +kernel
theorem dX6_needAll_11 : decode cX6_needAll 11 = .ok (.i2l, 1) := by decide +kernel
theorem dX6_needAll_12 : decode cX6_needAll 12 = .ok (.lconst 0, 1) := by decide +kernel
theorem dX6_needAll_13 : decode cX6_needAll 13 = .ok (.iconst 1, 1) := by decide +kernel
theorem dX6_needAll_14 : decode cX6_needAll 14 = .ok (.aload_n 0, 1) := by decide +kernel
theorem dX6_needAll_15 : decode cX6_needAll 15 = .ok (.getfield 97, 3) := by decide +kernel
theorem dX6_needAll_18 : decode cX6_needAll 18 = .ok (.ishl, 1) := by decide +kernel
theorem dX6_needAll_19 : decode cX6_needAll 19 = .ok (.iconst 1, 1) := by decide +kernel
theorem dX6_needAll_20 : decode cX6_needAll 20 = .ok (.isub, 1) := by decide +kernel
theorem dX6_needAll_21 : decode cX6_needAll 21 = .ok (.i2l, 1) := by decide +kernel
theorem dX6_needAll_22 : decode cX6_needAll 22 = .ok (.invokestatic 66, 3) := by decide +kernel
theorem dX6_needAll_25 : decode cX6_needAll 25 = .ok (.ifCond .eq 12, 3) := by decide +kernel
theorem dX6_needAll_28 : decode cX6_needAll 28 = .ok (.aload_n 0, 1) := by decide +kernel
theorem dX6_needAll_29 : decode cX6_needAll 29 = .ok (.iload_n 1, 1) := by decide +kernel
theorem dX6_needAll_30 : decode cX6_needAll 30 = .ok (.iconst 0, 1) := by decide +kernel
theorem dX6_needAll_31 : decode cX6_needAll 31 = .ok (.invokevirtual 165, 3) := by decide +kernel
theorem dX6_needAll_34 : decode cX6_needAll 34 = .ok (.goto 5, 3) := by decide +kernel
theorem dX6_needAll_37 : decode cX6_needAll 37 = .ok (.bipush (-102), 2) := by decide +kernel
theorem dX6_needAll_39 : decode cX6_needAll 39 = .ok (.ireturn, 1) := by decide +kernel
set_option maxRecDepth 20000 in
theorem ggX6_spiltBy_X6_beginWould : GoodIn wsX6_spiltBy wsX6_beginWould := goodIn_r _ [9, 3, 10, 11, 12, 13, 8, 14, 15, 1, 4, 2, 16, 17, 18, 19, 20, 25, 26, 27, 28, 29, 30, 31, 32, 33, 34, 35, 36, 37, 38, 39, 40, 41, 42, 43, 44, 45, 46, 47, 48, 49, 50] (by decide +kernel) (by decide +kernel)
set_option maxRecDepth 20000 in
theorem gX6_spiltBy_X6_beginWould : GoodIn wsX6_spiltBy (wsV RX6 161 RX6 yX6_beginWould wsX6_beginWould) := goodIn_app (goodIn_of _ (by decide +kernel)) ggX6_spiltBy_X6_beginWould
set_option maxRecDepth 20000 in
theorem ggX6_spiltBy_X6_runOver : GoodIn wsX6_spiltBy wsX6_runOver := goodIn_r _ [24, 15, 1, 16, 2, 25, 26, 27, 28, 29, 30, 31, 32, 33, 34, 35, 36, 37, 38, 39, 40, 41, 42, 43, 44, 45, 46, 47, 48, 49, 50] (by decide +kernel) (by decide +kernel)
set_option maxRecDepth 20000 in
theorem gX6_spiltBy_X6_runOver : GoodIn wsX6_spiltBy (wsV RX6 133 RX6 yX6_runOver wsX6_runOver) := goodIn_app (goodIn_of _ (by decide +kernel)) ggX6_spiltBy_X6_runOver
theorem dX6_spiltBy_0 : decode cX6_spiltBy 0 = .ok (.aload_n 0, 1) := by decide +kernel
theorem dX6_spiltBy_1 : decode cX6_spiltBy 1 = .ok (.iconst 1, 1) := by decide +kernel
theorem dX6_spiltBy_2 : decode cX6_spiltBy 2 = .ok (.invokevirtual 161, 3) := by decide +kernel
theorem dX6_spiltBy_5 : decode cX6_spiltBy 5 = .ok (.aload_n 0, 1) := by decide +kernel
theorem dX6_spiltBy_6 : decode cX6_spiltBy 6 = .ok (.getfield 29, 3) := by decide +kernel
theorem dX6_spiltBy_9 : decode cX6_spiltBy 9 = .ok (.iload_n 1, 1) := by decide +kernel
theorem dX6_spiltBy_10 : decode cX6_spiltBy 10 = .ok (.laload, 1) := by decide +kernel
theorem dX6_spiltBy_11 : decode cX6_spiltBy 11 = .ok (.lstore 4, 2) := by decide +kernel
theorem dX6_spiltBy_13 : decode cX6_spiltBy 13 = .ok (.aload_n 0, 1) := by decide +kernel
theorem dX6_spiltBy_14 : decode cX6_spiltBy 14 = .ok (.getfield 29, 3) := by decide +kernel
theorem dX6_spiltBy_17 : decode cX6_spiltBy 17 = .ok (.iload_n 1, 1) := by decide +kernel
theorem dX6_spiltBy_18 : decode cX6_spiltBy 18 = .ok (.aload_n 0, 1) := by decide +kernel
theorem dX6_spiltBy_19 : decode cX6_spiltBy 19 = .ok (.getfield 29, 3) := by decide +kernel
theorem dX6_spiltBy_22 : decode cX6_spiltBy 22 = .ok (.iload_n 2, 1) := by decide +kernel
theorem dX6_spiltBy_23 : decode cX6_spiltBy 23 = .ok (.laload, 1) := by decide +kernel
theorem dX6_spiltBy_24 : decode cX6_spiltBy 24 = .ok (.lastore, 1) := by decide +kernel
theorem dX6_spiltBy_25 : decode cX6_spiltBy 25 = .ok (.aload_n 0, 1) := by decide +kernel
theorem dX6_spiltBy_26 : decode cX6_spiltBy 26 = .ok (.getfield 29, 3) := by decide +kernel
theorem dX6_spiltBy_29 : decode cX6_spiltBy 29 = .ok (.iload_n 2, 1) := by decide +kernel
theorem dX6_spiltBy_30 : decode cX6_spiltBy 30 = .ok (.lload 4, 2) := by decide +kernel
theorem dX6_spiltBy_32 : decode cX6_spiltBy 32 = .ok (.lastore, 1) := by decide +kernel
theorem dX6_spiltBy_33 : decode cX6_spiltBy 33 = .ok (.aload_n 0, 1) := by decide +kernel
theorem dX6_spiltBy_34 : decode cX6_spiltBy 34 = .ok (.getfield 32, 3) := by decide +kernel
theorem dX6_spiltBy_37 : decode cX6_spiltBy 37 = .ok (.iload_n 1, 1) := by decide +kernel
theorem dX6_spiltBy_38 : decode cX6_spiltBy 38 = .ok (.iaload, 1) := by decide +kernel
theorem dX6_spiltBy_39 : decode cX6_spiltBy 39 = .ok (.istore 6, 2) := by decide +kernel
theorem dX6_spiltBy_41 : decode cX6_spiltBy 41 = .ok (.aload_n 0, 1) := by decide +kernel
theorem dX6_spiltBy_42 : decode cX6_spiltBy 42 = .ok (.getfield 32, 3) := by decide +kernel
theorem dX6_spiltBy_45 : decode cX6_spiltBy 45 = .ok (.iload_n 1, 1) := by decide +kernel
theorem dX6_spiltBy_46 : decode cX6_spiltBy 46 = .ok (.aload_n 0, 1) := by decide +kernel
theorem dX6_spiltBy_47 : decode cX6_spiltBy 47 = .ok (.getfield 32, 3) := by decide +kernel
theorem dX6_spiltBy_50 : decode cX6_spiltBy 50 = .ok (.iload_n 2, 1) := by decide +kernel
theorem dX6_spiltBy_51 : decode cX6_spiltBy 51 = .ok (.iaload, 1) := by decide +kernel
theorem dX6_spiltBy_52 : decode cX6_spiltBy 52 = .ok (.iastore, 1) := by decide +kernel
theorem dX6_spiltBy_53 : decode cX6_spiltBy 53 = .ok (.aload_n 0, 1) := by decide +kernel
theorem dX6_spiltBy_54 : decode cX6_spiltBy 54 = .ok (.getfield 32, 3) := by decide +kernel
theorem dX6_spiltBy_57 : decode cX6_spiltBy 57 = .ok (.iload_n 2, 1) := by decide +kernel
theorem dX6_spiltBy_58 : decode cX6_spiltBy 58 = .ok (.iload 6, 2) := by decide +kernel
theorem dX6_spiltBy_60 : decode cX6_spiltBy 60 = .ok (.iastore, 1) := by decide +kernel
theorem dX6_spiltBy_61 : decode cX6_spiltBy 61 = .ok (.aload_n 0, 1) := by decide +kernel
theorem dX6_spiltBy_62 : decode cX6_spiltBy 62 = .ok (.aload_n 0, 1) := by decide +kernel
theorem dX6_spiltBy_63 : decode cX6_spiltBy 63 = .ok (.getfield 35, 3) := by decide +kernel
theorem dX6_spiltBy_66 : decode cX6_spiltBy 66 = .ok (.invokevirtual 133, 3) := by decide +kernel
theorem dX6_spiltBy_69 : decode cX6_spiltBy 69 = .ok (.lstore 7, 2) := by decide +kernel
theorem dX6_spiltBy_71 : decode cX6_spiltBy 71 = .ok (.aload_n 0, 1) := by decide +kernel
theorem dX6_spiltBy_72 : decode cX6_spiltBy 72 = .ok (.getfield 35, 3) := by decide +kernel
theorem dX6_spiltBy_75 : decode cX6_spiltBy 75 = .ok (.iconst 0, 1) := by decide +kernel
theorem dX6_spiltBy_76 : decode cX6_spiltBy 76 = .ok (.dup2, 1) := by decide +kernel
theorem dX6_spiltBy_77 : decode cX6_spiltBy 77 = .ok (.laload, 1) := by decide +kernel
theorem dX6_spiltBy_78 : decode cX6_spiltBy 78 = .ok (.ldc2_w 113, 3) := by decide +kernel
theorem dX6_spiltBy_81 : decode cX6_spiltBy 81 = .ok (.iload_n 3, 1) := by decide +kernel
theorem dX6_spiltBy_82 : decode cX6_spiltBy 82 = .ok (.i2l, 1) := by decide +kernel
theorem dX6_spiltBy_83 : decode cX6_spiltBy 83 = .ok (.lmul, 1) := by decide +kernel
theorem dX6_spiltBy_84 : decode cX6_spiltBy 84 = .ok (.ladd, 1) := by decide +kernel
theorem dX6_spiltBy_85 : decode cX6_spiltBy 85 = .ok (.lastore, 1) := by decide +kernel
theorem dX6_spiltBy_86 : decode cX6_spiltBy 86 = .ok (.lload 7, 2) := by decide +kernel
theorem dX6_spiltBy_88 : decode cX6_spiltBy 88 = .ok (.aload_n 0, 1) := by decide +kernel
theorem dX6_spiltBy_89 : decode cX6_spiltBy 89 = .ok (.aload_n 0, 1) := by decide +kernel
theorem dX6_spiltBy_90 : decode cX6_spiltBy 90 = .ok (.getfield 35, 3) := by decide +kernel
theorem dX6_spiltBy_93 : decode cX6_spiltBy 93 = .ok (.invokevirtual 133, 3) := by decide +kernel
theorem dX6_spiltBy_96 : decode cX6_spiltBy 96 = .ok (.ladd, 1) := by decide +kernel
theorem dX6_spiltBy_97 : decode cX6_spiltBy 97 = .ok (.lreturn, 1) := by decide +kernel
set_option maxRecDepth 20000 in
theorem ggX6_change_X6_lacks : GoodIn wsX6_change wsX6_lacks := goodIn_r _ [8, 3, 41, 42, 43, 44, 45, 46, 47, 48, 49, 50, 51, 52, 53, 54, 55, 56, 57, 58, 59, 60, 61, 62, 63, 64, 65, 66] (by decide +kernel) (by decide +kernel)
set_option maxRecDepth 20000 in
theorem gX6_change_X6_lacks : GoodIn wsX6_change (wsV RX6 168 RX6 yX6_lacks wsX6_lacks) := goodIn_app (goodIn_of _ (by decide +kernel)) ggX6_change_X6_lacks
set_option maxRecDepth 20000 in
theorem ggX6_change_X6_isIn : GoodIn wsX6_change wsX6_isIn := goodIn_r _ [11] (by decide +kernel) (by decide +kernel)
set_option maxRecDepth 20000 in
theorem gX6_change_X6_isIn : GoodIn wsX6_change (va_wsS RX6 66 yX6_isIn wsX6_isIn) := goodIn_app (goodIn_of _ (by decide +kernel)) ggX6_change_X6_isIn
set_option maxRecDepth 20000 in
theorem ggX6_change_X6_isPart : GoodIn wsX6_change wsX6_isPart := goodIn_r _ [14, 9, 10, 7, 11] (by decide +kernel) (by decide +kernel)
set_option maxRecDepth 20000 in
theorem gX6_change_X6_isPart : GoodIn wsX6_change (va_wsS RX6 145 yX6_isPart wsX6_isPart) := goodIn_app (goodIn_of _ (by decide +kernel)) ggX6_change_X6_isPart
set_option maxRecDepth 20000 in
theorem ggX6_change_X6_spiltBy : GoodIn wsX6_change wsX6_spiltBy := goodIn_r _ [18, 19, 20, 21, 22, 23, 24, 25, 7, 26, 27, 28, 29, 30, 31, 3, 32, 33, 34, 35, 36, 37, 38, 39, 40, 41, 42, 43, 44, 45, 46, 47, 48, 49, 50, 51, 52, 53, 54, 55, 56, 57, 58, 59, 60, 61, 62, 63, 64, 65, 66] (by decide +kernel) (by decide +kernel)
set_option maxRecDepth 20000 in
theorem gX6_change_X6_spiltBy : GoodIn wsX6_change (wsV RX6 174 RX6 yX6_spiltBy wsX6_spiltBy) := goodIn_app (goodIn_of _ (by decide +kernel)) ggX6_change_X6_spiltBy
theorem dX6_change_0 : decode cX6_change 0 = .ok (.aload_n 0, 1) := by decide +kernel
theorem dX6_change_1 : decode cX6_change 1 = .ok (.invokevirtual 168, 3) := by decide +kernel
theorem dX6_change_4 : decode cX6_change 4 = .ok (.ifCond .eq 6, 3) := by decide +kernel
theorem dX6_change_7 : decode cX6_change 7 = .ok (.bipush (-103), 2) := by decide +kernel
theorem dX6_change_9 : decode cX6_change 9 = .ok (.ireturn, 1) := by decide +kernel
theorem dX6_change_10 : decode cX6_change 10 = .ok (.iload_n 1, 1) := by decide +kernel
theorem dX6_change_11 : decode cX6_change 11 = .ok (.i2l, 1) := by decide +kernel
theorem dX6_change_12 : decode cX6_change 12 = .ok (.lconst 1, 1) := by decide +kernel
theorem dX6_change_13 : decode cX6_change 13 = .ok (.ldc2_w 137, 3) := by decide +kernel
theorem dX6_change_16 : decode cX6_change 16 = .ok (.invokestatic 66, 3) := by decide +kernel
theorem dX6_change_19 : decode cX6_change 19 = .ok (.ifCond .eq 10, 3) := by decide +kernel
theorem dX6_change_22 : decode cX6_change 22 = .ok (.iload_n 2, 1) := by decide +kernel
theorem dX6_change_23 : decode cX6_change 23 = .ok (.invokestatic 145, 3) := by decide +kernel
theorem dX6_change_26 : decode cX6_change 26 = .ok (.ifCond .ne 6, 3) := by decide +kernel
theorem dX6_change_29 : decode cX6_change 29 = .ok (.bipush (-102), 2) := by decide +kernel
theorem dX6_change_31 : decode cX6_change 31 = .ok (.ireturn, 1) := by decide +kernel
theorem dX6_change_32 : decode cX6_change 32 = .ok (.aload_n 0, 1) := by decide +kernel
theorem dX6_change_33 : decode cX6_change 33 = .ok (.getfield 171, 3) := by decide +kernel
theorem dX6_change_36 : decode cX6_change 36 = .ok (.bipush 30, 2) := by decide +kernel
theorem dX6_change_38 : decode cX6_change 38 = .ok (.if_icmp .ne 6, 3) := by decide +kernel
theorem dX6_change_41 : decode cX6_change 41 = .ok (.bipush (-103), 2) := by decide +kernel
theorem dX6_change_43 : decode cX6_change 43 = .ok (.ireturn, 1) := by decide +kernel
theorem dX6_change_44 : decode cX6_change 44 = .ok (.aload_n 0, 1) := by decide +kernel
theorem dX6_change_45 : decode cX6_change 45 = .ok (.dup, 1) := by decide +kernel
theorem dX6_change_46 : decode cX6_change 46 = .ok (.getfield 171, 3) := by decide +kernel
theorem dX6_change_49 : decode cX6_change 49 = .ok (.iconst 1, 1) := by decide +kernel
theorem dX6_change_50 : decode cX6_change 50 = .ok (.iadd, 1) := by decide +kernel
theorem dX6_change_51 : decode cX6_change 51 = .ok (.putfield 171, 3) := by decide +kernel
theorem dX6_change_54 : decode cX6_change 54 = .ok (.aload_n 0, 1) := by decide +kernel
theorem dX6_change_55 : decode cX6_change 55 = .ok (.iconst 0, 1) := by decide +kernel
theorem dX6_change_56 : decode cX6_change 56 = .ok (.iconst 0, 1) := by decide +kernel
theorem dX6_change_57 : decode cX6_change 57 = .ok (.iload_n 1, 1) := by decide +kernel
theorem dX6_change_58 : decode cX6_change 58 = .ok (.invokevirtual 174, 3) := by decide +kernel
theorem dX6_change_61 : decode cX6_change 61 = .ok (.lstore_n 3, 1) := by decide +kernel
theorem dX6_change_62 : decode cX6_change 62 = .ok (.iconst (-1), 1) := by decide +kernel
theorem dX6_change_63 : decode cX6_change 63 = .ok (.istore 5, 2) := by decide +kernel
theorem dX6_change_65 : decode cX6_change 65 = .ok (.iconst 0, 1) := by decide +kernel
theorem dX6_change_66 : decode cX6_change 66 = .ok (.istore 6, 2) := by decide +kernel
theorem dX6_change_68 : decode cX6_change 68 = .ok (.iload 6, 2) := by decide +kernel
theorem dX6_change_70 : decode cX6_change 70 = .ok (.aload_n 0, 1) := by decide +kernel
theorem dX6_change_71 : decode cX6_change 71 = .ok (.getfield 97, 3) := by decide +kernel
theorem dX6_change_74 : decode cX6_change 74 = .ok (.if_icmp .ge 77, 3) := by decide +kernel
theorem dX6_change_77 : decode cX6_change 77 = .ok (.iload 6, 2) := by decide +kernel
theorem dX6_change_79 : decode cX6_change 79 = .ok (.iconst 1, 1) := by decide +kernel
theorem dX6_change_80 : decode cX6_change 80 = .ok (.iadd, 1) := by decide +kernel
theorem dX6_change_81 : decode cX6_change 81 = .ok (.istore 7, 2) := by decide +kernel
theorem dX6_change_83 : decode cX6_change 83 = .ok (.iload 7, 2) := by decide +kernel
theorem dX6_change_85 : decode cX6_change 85 = .ok (.aload_n 0, 1) := by decide +kernel
theorem dX6_change_86 : decode cX6_change 86 = .ok (.getfield 97, 3) := by decide +kernel
theorem dX6_change_89 : decode cX6_change 89 = .ok (.if_icmp .ge 56, 3) := by decide +kernel
theorem dX6_change_92 : decode cX6_change 92 = .ok (.aload_n 0, 1) := by decide +kernel
theorem dX6_change_93 : decode cX6_change 93 = .ok (.iload 6, 2) := by decide +kernel
theorem dX6_change_95 : decode cX6_change 95 = .ok (.iload 7, 2) := by decide +kernel
theorem dX6_change_97 : decode cX6_change 97 = .ok (.iload_n 1, 1) := by decide +kernel
theorem dX6_change_98 : decode cX6_change 98 = .ok (.invokevirtual 174, 3) := by decide +kernel
theorem dX6_change_101 : decode cX6_change 101 = .ok (.lstore 8, 2) := by decide +kernel
theorem dX6_change_103 : decode cX6_change 103 = .ok (.lload 8, 2) := by decide +kernel
theorem dX6_change_105 : decode cX6_change 105 = .ok (.lload_n 3, 1) := by decide +kernel
theorem dX6_change_106 : decode cX6_change 106 = .ok (.lcmp, 1) := by decide +kernel
theorem dX6_change_107 : decode cX6_change 107 = .ok (.ifCond .ge 14, 3) := by decide +kernel
theorem dX6_change_110 : decode cX6_change 110 = .ok (.bipush 9, 2) := by decide +kernel
theorem dX6_change_112 : decode cX6_change 112 = .ok (.iload 6, 2) := by decide +kernel
theorem dX6_change_114 : decode cX6_change 114 = .ok (.imul, 1) := by decide +kernel
theorem dX6_change_115 : decode cX6_change 115 = .ok (.iload 7, 2) := by decide +kernel
theorem dX6_change_117 : decode cX6_change 117 = .ok (.iadd, 1) := by decide +kernel
theorem dX6_change_118 : decode cX6_change 118 = .ok (.goto 5, 3) := by decide +kernel
theorem dX6_change_121 : decode cX6_change 121 = .ok (.iload 5, 2) := by decide +kernel
theorem dX6_change_123 : decode cX6_change 123 = .ok (.istore 5, 2) := by decide +kernel
theorem dX6_change_125 : decode cX6_change 125 = .ok (.lload 8, 2) := by decide +kernel
theorem dX6_change_127 : decode cX6_change 127 = .ok (.lload_n 3, 1) := by decide +kernel
theorem dX6_change_128 : decode cX6_change 128 = .ok (.lcmp, 1) := by decide +kernel
theorem dX6_change_129 : decode cX6_change 129 = .ok (.ifCond .ge 8, 3) := by decide +kernel
theorem dX6_change_132 : decode cX6_change 132 = .ok (.lload 8, 2) := by decide +kernel
theorem dX6_change_134 : decode cX6_change 134 = .ok (.goto 4, 3) := by decide +kernel
theorem dX6_change_137 : decode cX6_change 137 = .ok (.lload_n 3, 1) := by decide +kernel
theorem dX6_change_138 : decode cX6_change 138 = .ok (.lstore_n 3, 1) := by decide +kernel
theorem dX6_change_139 : decode cX6_change 139 = .ok (.iinc 7 1, 3) := by decide +kernel
theorem dX6_change_142 : decode cX6_change 142 = .ok (.goto (-59), 3) := by decide +kernel
theorem dX6_change_145 : decode cX6_change 145 = .ok (.iinc 6 1, 3) := by decide +kernel
theorem dX6_change_148 : decode cX6_change 148 = .ok (.goto (-80), 3) := by decide +kernel
theorem dX6_change_151 : decode cX6_change 151 = .ok (.iload 5, 2) := by decide +kernel
theorem dX6_change_153 : decode cX6_change 153 = .ok (.iconst (-1), 1) := by decide +kernel
theorem dX6_change_154 : decode cX6_change 154 = .ok (.if_icmp .ne 7, 3) := by decide +kernel
theorem dX6_change_157 : decode cX6_change 157 = .ok (.iconst (-1), 1) := by decide +kernel
theorem dX6_change_158 : decode cX6_change 158 = .ok (.goto 20, 3) := by decide +kernel
theorem dX6_change_161 : decode cX6_change 161 = .ok (.iload_n 2, 1) := by decide +kernel
theorem dX6_change_162 : decode cX6_change 162 = .ok (.ifCond .ne 11, 3) := by decide +kernel
theorem dX6_change_165 : decode cX6_change 165 = .ok (.iload 5, 2) := by decide +kernel
theorem dX6_change_167 : decode cX6_change 167 = .ok (.bipush 9, 2) := by decide +kernel
theorem dX6_change_169 : decode cX6_change 169 = .ok (.idiv, 1) := by decide +kernel
theorem dX6_change_170 : decode cX6_change 170 = .ok (.goto 8, 3) := by decide +kernel
theorem dX6_change_173 : decode cX6_change 173 = .ok (.iload 5, 2) := by decide +kernel
theorem dX6_change_175 : decode cX6_change 175 = .ok (.bipush 9, 2) := by decide +kernel
theorem dX6_change_177 : decode cX6_change 177 = .ok (.irem, 1) := by decide +kernel
theorem dX6_change_178 : decode cX6_change 178 = .ok (.ireturn, 1) := by decide +kernel
set_option maxRecDepth 20000 in
theorem ggX6_othersBy_X6_beginWould : GoodIn wsX6_othersBy wsX6_beginWould := goodIn_r _ [9, 2, 10, 11, 12, 13, 8, 14, 4, 1, 3, 15, 16, 17, 18, 19, 20, 25, 26, 27, 28, 29, 30, 31, 32, 33, 34, 35, 36, 37, 38, 39, 40, 41, 42, 43, 44, 45, 46, 47, 48, 49, 50] (by decide +kernel) (by decide +kernel)
set_option maxRecDepth 20000 in
theorem gX6_othersBy_X6_beginWould : GoodIn wsX6_othersBy (wsV RX6 161 RX6 yX6_beginWould wsX6_beginWould) := goodIn_app (goodIn_of _ (by decide +kernel)) ggX6_othersBy_X6_beginWould
set_option maxRecDepth 20000 in
theorem ggX6_othersBy_X6_runOver : GoodIn wsX6_othersBy wsX6_runOver := goodIn_r _ [24, 4, 1, 16, 15, 25, 26, 27, 28, 29, 30, 31, 32, 33, 34, 35, 36, 37, 38, 39, 40, 41, 42, 43, 44, 45, 46, 47, 48, 49, 50] (by decide +kernel) (by decide +kernel)
set_option maxRecDepth 20000 in
theorem gX6_othersBy_X6_runOver : GoodIn wsX6_othersBy (wsV RX6 133 RX6 yX6_runOver wsX6_runOver) := goodIn_app (goodIn_of _ (by decide +kernel)) ggX6_othersBy_X6_runOver
theorem dX6_othersBy_0 : decode cX6_othersBy 0 = .ok (.aload_n 0, 1) := by decide +kernel
theorem dX6_othersBy_1 : decode cX6_othersBy 1 = .ok (.iconst 0, 1) := by decide +kernel
theorem dX6_othersBy_2 : decode cX6_othersBy 2 = .ok (.invokevirtual 161, 3) := by decide +kernel
theorem dX6_othersBy_5 : decode cX6_othersBy 5 = .ok (.aload_n 0, 1) := by decide +kernel
theorem dX6_othersBy_6 : decode cX6_othersBy 6 = .ok (.getfield 29, 3) := by decide +kernel
theorem dX6_othersBy_9 : decode cX6_othersBy 9 = .ok (.iload_n 1, 1) := by decide +kernel
theorem dX6_othersBy_10 : decode cX6_othersBy 10 = .ok (.iload_n 3, 1) := by decide +kernel
theorem dX6_othersBy_11 : decode cX6_othersBy 11 = .ok (.ifCond .eq 7, 3) := by decide +kernel
theorem dX6_othersBy_14 : decode cX6_othersBy 14 = .ok (.lconst 0, 1) := by decide +kernel
theorem dX6_othersBy_15 : decode cX6_othersBy 15 = .ok (.goto 9, 3) := by decide +kernel
theorem dX6_othersBy_18 : decode cX6_othersBy 18 = .ok (.aload_n 0, 1) := by decide +kernel
theorem dX6_othersBy_19 : decode cX6_othersBy 19 = .ok (.getfield 29, 3) := by decide +kernel
theorem dX6_othersBy_22 : decode cX6_othersBy 22 = .ok (.iload_n 1, 1) := by decide +kernel
theorem dX6_othersBy_23 : decode cX6_othersBy 23 = .ok (.laload, 1) := by decide +kernel
theorem dX6_othersBy_24 : decode cX6_othersBy 24 = .ok (.lastore, 1) := by decide +kernel
theorem dX6_othersBy_25 : decode cX6_othersBy 25 = .ok (.aload_n 0, 1) := by decide +kernel
theorem dX6_othersBy_26 : decode cX6_othersBy 26 = .ok (.getfield 35, 3) := by decide +kernel
theorem dX6_othersBy_29 : decode cX6_othersBy 29 = .ok (.iconst 0, 1) := by decide +kernel
theorem dX6_othersBy_30 : decode cX6_othersBy 30 = .ok (.ldc2_w 113, 3) := by decide +kernel
theorem dX6_othersBy_33 : decode cX6_othersBy 33 = .ok (.iload_n 2, 1) := by decide +kernel
theorem dX6_othersBy_34 : decode cX6_othersBy 34 = .ok (.i2l, 1) := by decide +kernel
theorem dX6_othersBy_35 : decode cX6_othersBy 35 = .ok (.lmul, 1) := by decide +kernel
theorem dX6_othersBy_36 : decode cX6_othersBy 36 = .ok (.lastore, 1) := by decide +kernel
theorem dX6_othersBy_37 : decode cX6_othersBy 37 = .ok (.aload_n 0, 1) := by decide +kernel
theorem dX6_othersBy_38 : decode cX6_othersBy 38 = .ok (.aload_n 0, 1) := by decide +kernel
theorem dX6_othersBy_39 : decode cX6_othersBy 39 = .ok (.getfield 35, 3) := by decide +kernel
theorem dX6_othersBy_42 : decode cX6_othersBy 42 = .ok (.invokevirtual 133, 3) := by decide +kernel
theorem dX6_othersBy_45 : decode cX6_othersBy 45 = .ok (.lstore 4, 2) := by decide +kernel
theorem dX6_othersBy_47 : decode cX6_othersBy 47 = .ok (.lconst 0, 1) := by decide +kernel
theorem dX6_othersBy_48 : decode cX6_othersBy 48 = .ok (.lstore 6, 2) := by decide +kernel
theorem dX6_othersBy_50 : decode cX6_othersBy 50 = .ok (.iconst 0, 1) := by decide +kernel
theorem dX6_othersBy_51 : decode cX6_othersBy 51 = .ok (.istore 8, 2) := by decide +kernel
theorem dX6_othersBy_53 : decode cX6_othersBy 53 = .ok (.iload 8, 2) := by decide +kernel
theorem dX6_othersBy_55 : decode cX6_othersBy 55 = .ok (.aload_n 0, 1) := by decide +kernel
theorem dX6_othersBy_56 : decode cX6_othersBy 56 = .ok (.getfield 97, 3) := by decide +kernel
theorem dX6_othersBy_59 : decode cX6_othersBy 59 = .ok (.if_icmp .ge 31, 3) := by decide +kernel
theorem dX6_othersBy_62 : decode cX6_othersBy 62 = .ok (.lload 6, 2) := by decide +kernel
theorem dX6_othersBy_64 : decode cX6_othersBy 64 = .ok (.iload 8, 2) := by decide +kernel
theorem dX6_othersBy_66 : decode cX6_othersBy 66 = .ok (.iload_n 1, 1) := by decide +kernel
theorem dX6_othersBy_67 : decode cX6_othersBy 67 = .ok (.if_icmp .ne 7, 3) := by decide +kernel
theorem dX6_othersBy_70 : decode cX6_othersBy 70 = .ok (.lconst 0, 1) := by decide +kernel
theorem dX6_othersBy_71 : decode cX6_othersBy 71 = .ok (.goto 10, 3) := by decide +kernel
theorem dX6_othersBy_74 : decode cX6_othersBy 74 = .ok (.aload_n 0, 1) := by decide +kernel
theorem dX6_othersBy_75 : decode cX6_othersBy 75 = .ok (.getfield 35, 3) := by decide +kernel
theorem dX6_othersBy_78 : decode cX6_othersBy 78 = .ok (.iload 8, 2) := by decide +kernel
theorem dX6_othersBy_80 : decode cX6_othersBy 80 = .ok (.laload, 1) := by decide +kernel
theorem dX6_othersBy_81 : decode cX6_othersBy 81 = .ok (.ladd, 1) := by decide +kernel
theorem dX6_othersBy_82 : decode cX6_othersBy 82 = .ok (.lstore 6, 2) := by decide +kernel
theorem dX6_othersBy_84 : decode cX6_othersBy 84 = .ok (.iinc 8 1, 3) := by decide +kernel
theorem dX6_othersBy_87 : decode cX6_othersBy 87 = .ok (.goto (-34), 3) := by decide +kernel
theorem dX6_othersBy_90 : decode cX6_othersBy 90 = .ok (.lload 6, 2) := by decide +kernel
theorem dX6_othersBy_92 : decode cX6_othersBy 92 = .ok (.lreturn, 1) := by decide +kernel
set_option maxRecDepth 20000 in
theorem ggX6_costs_X6_isGlass : GoodIn wsX6_costs wsX6_isGlass := goodIn_r _ [8, 9, 10, 11, 7, 12, 45, 46, 47, 48, 49, 50, 51, 52, 53, 54, 55, 56, 57, 58, 59, 60, 61, 62, 63, 64, 65, 66, 67, 68, 69, 70] (by decide +kernel) (by decide +kernel)
set_option maxRecDepth 20000 in
theorem gX6_costs_X6_isGlass : GoodIn wsX6_costs (wsV RX6 121 RX6 yX6_isGlass wsX6_isGlass) := goodIn_app (goodIn_of _ (by decide +kernel)) ggX6_costs_X6_isGlass
set_option maxRecDepth 20000 in
theorem ggX6_costs_X6_isIn : GoodIn wsX6_costs wsX6_isIn := goodIn_r _ [12] (by decide +kernel) (by decide +kernel)
set_option maxRecDepth 20000 in
theorem gX6_costs_X6_isIn : GoodIn wsX6_costs (va_wsS RX6 66 yX6_isIn wsX6_isIn) := goodIn_app (goodIn_of _ (by decide +kernel)) ggX6_costs_X6_isIn
set_option maxRecDepth 20000 in
theorem ggX6_costs_X6_isPart : GoodIn wsX6_costs wsX6_isPart := goodIn_r _ [15, 10, 11, 7, 12] (by decide +kernel) (by decide +kernel)
set_option maxRecDepth 20000 in
theorem gX6_costs_X6_isPart : GoodIn wsX6_costs (va_wsS RX6 145 yX6_isPart wsX6_isPart) := goodIn_app (goodIn_of _ (by decide +kernel)) ggX6_costs_X6_isPart
set_option maxRecDepth 20000 in
theorem ggX6_costs_X6_othersBy : GoodIn wsX6_costs wsX6_othersBy := goodIn_r _ [19, 20, 21, 22, 9, 23, 24, 25, 7, 26, 27, 28, 29, 30, 31, 32, 33, 34, 35, 36, 37, 38, 39, 40, 41, 45, 46, 47, 48, 49, 50, 51, 52, 53, 54, 55, 56, 57, 58, 59, 60, 61, 62, 63, 64, 65, 66, 67, 68, 69, 70] (by decide +kernel) (by decide +kernel)
set_option maxRecDepth 20000 in
theorem gX6_costs_X6_othersBy : GoodIn wsX6_costs (wsV RX6 178 RX6 yX6_othersBy wsX6_othersBy) := goodIn_app (goodIn_of _ (by decide +kernel)) ggX6_costs_X6_othersBy
set_option maxRecDepth 20000 in
theorem ggX6_costs_X6_term : GoodIn wsX6_costs wsX6_term := goodIn_r _ [44, 22] (by decide +kernel) (by decide +kernel)
set_option maxRecDepth 20000 in
theorem gX6_costs_X6_term : GoodIn wsX6_costs (va_wsS RX6 148 yX6_term wsX6_term) := goodIn_app (goodIn_of _ (by decide +kernel)) ggX6_costs_X6_term
theorem dX6_costs_0 : decode cX6_costs 0 = .ok (.aload_n 0, 1) := by decide +kernel
theorem dX6_costs_1 : decode cX6_costs 1 = .ok (.iload_n 1, 1) := by decide +kernel
theorem dX6_costs_2 : decode cX6_costs 2 = .ok (.invokevirtual 121, 3) := by decide +kernel
theorem dX6_costs_5 : decode cX6_costs 5 = .ok (.ifCond .ne 7, 3) := by decide +kernel
theorem dX6_costs_8 : decode cX6_costs 8 = .ok (.ldc2_w 143, 3) := by decide +kernel
theorem dX6_costs_11 : decode cX6_costs 11 = .ok (.lreturn, 1) := by decide +kernel
theorem dX6_costs_12 : decode cX6_costs 12 = .ok (.iload_n 2, 1) := by decide +kernel
theorem dX6_costs_13 : decode cX6_costs 13 = .ok (.i2l, 1) := by decide +kernel
theorem dX6_costs_14 : decode cX6_costs 14 = .ok (.lconst 1, 1) := by decide +kernel
theorem dX6_costs_15 : decode cX6_costs 15 = .ok (.ldc2_w 137, 3) := by decide +kernel
theorem dX6_costs_18 : decode cX6_costs 18 = .ok (.invokestatic 66, 3) := by decide +kernel
theorem dX6_costs_21 : decode cX6_costs 21 = .ok (.ifCond .eq 10, 3) := by decide +kernel
theorem dX6_costs_24 : decode cX6_costs 24 = .ok (.iload_n 3, 1) := by decide +kernel
theorem dX6_costs_25 : decode cX6_costs 25 = .ok (.invokestatic 145, 3) := by decide +kernel
theorem dX6_costs_28 : decode cX6_costs 28 = .ok (.ifCond .ne 7, 3) := by decide +kernel
theorem dX6_costs_31 : decode cX6_costs 31 = .ok (.ldc2_w 152, 3) := by decide +kernel
theorem dX6_costs_34 : decode cX6_costs 34 = .ok (.lreturn, 1) := by decide +kernel
theorem dX6_costs_35 : decode cX6_costs 35 = .ok (.aload_n 0, 1) := by decide +kernel
theorem dX6_costs_36 : decode cX6_costs 36 = .ok (.iload_n 1, 1) := by decide +kernel
theorem dX6_costs_37 : decode cX6_costs 37 = .ok (.iload_n 2, 1) := by decide +kernel
theorem dX6_costs_38 : decode cX6_costs 38 = .ok (.iconst 1, 1) := by decide +kernel
theorem dX6_costs_39 : decode cX6_costs 39 = .ok (.invokevirtual 178, 3) := by decide +kernel
theorem dX6_costs_42 : decode cX6_costs 42 = .ok (.aload_n 0, 1) := by decide +kernel
theorem dX6_costs_43 : decode cX6_costs 43 = .ok (.iload_n 1, 1) := by decide +kernel
theorem dX6_costs_44 : decode cX6_costs 44 = .ok (.iload_n 2, 1) := by decide +kernel
theorem dX6_costs_45 : decode cX6_costs 45 = .ok (.iconst 0, 1) := by decide +kernel
theorem dX6_costs_46 : decode cX6_costs 46 = .ok (.invokevirtual 178, 3) := by decide +kernel
theorem dX6_costs_49 : decode cX6_costs 49 = .ok (.lsub, 1) := by decide +kernel
theorem dX6_costs_50 : decode cX6_costs 50 = .ok (.iload_n 3, 1) := by decide +kernel
theorem dX6_costs_51 : decode cX6_costs 51 = .ok (.invokestatic 148, 3) := by decide +kernel
theorem dX6_costs_54 : decode cX6_costs 54 = .ok (.lreturn, 1) := by decide +kernel
set_option maxRecDepth 20000 in
theorem ggX6_turn_X6_isGlass : GoodIn wsX6_turn wsX6_isGlass := goodIn_r _ [8, 9, 10, 11, 7, 12, 13, 14, 15, 16, 17, 18, 19, 20, 21, 22, 23, 24, 25, 26, 27, 28, 29, 30, 31, 32, 33, 34, 35, 36, 37, 38] (by decide +kernel) (by decide +kernel)
set_option maxRecDepth 20000 in
theorem gX6_turn_X6_isGlass : GoodIn wsX6_turn (wsV RX6 121 RX6 yX6_isGlass wsX6_isGlass) := goodIn_app (goodIn_of _ (by decide +kernel)) ggX6_turn_X6_isGlass
set_option maxRecDepth 20000 in
theorem ggX6_turn_X6_isIn : GoodIn wsX6_turn wsX6_isIn := goodIn_r _ [12] (by decide +kernel) (by decide +kernel)
set_option maxRecDepth 20000 in
theorem gX6_turn_X6_isIn : GoodIn wsX6_turn (va_wsS RX6 66 yX6_isIn wsX6_isIn) := goodIn_app (goodIn_of _ (by decide +kernel)) ggX6_turn_X6_isIn
theorem dX6_turn_0 : decode cX6_turn 0 = .ok (.aload_n 0, 1) := by decide +kernel
theorem dX6_turn_1 : decode cX6_turn 1 = .ok (.iload_n 1, 1) := by decide +kernel
theorem dX6_turn_2 : decode cX6_turn 2 = .ok (.invokevirtual 121, 3) := by decide +kernel
theorem dX6_turn_5 : decode cX6_turn 5 = .ok (.ifCond .ne 6, 3) := by decide +kernel
theorem dX6_turn_8 : decode cX6_turn 8 = .ok (.bipush (-101), 2) := by decide +kernel
theorem dX6_turn_10 : decode cX6_turn 10 = .ok (.ireturn, 1) := by decide +kernel
theorem dX6_turn_11 : decode cX6_turn 11 = .ok (.iload_n 2, 1) := by decide +kernel
theorem dX6_turn_12 : decode cX6_turn 12 = .ok (.i2l, 1) := by decide +kernel
theorem dX6_turn_13 : decode cX6_turn 13 = .ok (.lconst 0, 1) := by decide +kernel
theorem dX6_turn_14 : decode cX6_turn 14 = .ok (.ldc2_w 182, 3) := by decide +kernel
theorem dX6_turn_17 : decode cX6_turn 17 = .ok (.invokestatic 66, 3) := by decide +kernel
theorem dX6_turn_20 : decode cX6_turn 20 = .ok (.ifCond .ne 6, 3) := by decide +kernel
theorem dX6_turn_23 : decode cX6_turn 23 = .ok (.bipush (-102), 2) := by decide +kernel
theorem dX6_turn_25 : decode cX6_turn 25 = .ok (.ireturn, 1) := by decide +kernel
theorem dX6_turn_26 : decode cX6_turn 26 = .ok (.aload_n 0, 1) := by decide +kernel
theorem dX6_turn_27 : decode cX6_turn 27 = .ok (.getfield 16, 3) := by decide +kernel
theorem dX6_turn_30 : decode cX6_turn 30 = .ok (.bipush 6, 2) := by decide +kernel
theorem dX6_turn_32 : decode cX6_turn 32 = .ok (.iload_n 1, 1) := by decide +kernel
theorem dX6_turn_33 : decode cX6_turn 33 = .ok (.imul, 1) := by decide +kernel
theorem dX6_turn_34 : decode cX6_turn 34 = .ok (.iaload, 1) := by decide +kernel
theorem dX6_turn_35 : decode cX6_turn 35 = .ok (.iconst 4, 1) := by decide +kernel
theorem dX6_turn_36 : decode cX6_turn 36 = .ok (.if_icmp .ne 10, 3) := by decide +kernel
theorem dX6_turn_39 : decode cX6_turn 39 = .ok (.iload_n 2, 1) := by decide +kernel
theorem dX6_turn_40 : decode cX6_turn 40 = .ok (.ifCond .le 6, 3) := by decide +kernel
theorem dX6_turn_43 : decode cX6_turn 43 = .ok (.bipush (-103), 2) := by decide +kernel
theorem dX6_turn_45 : decode cX6_turn 45 = .ok (.ireturn, 1) := by decide +kernel
theorem dX6_turn_46 : decode cX6_turn 46 = .ok (.aload_n 0, 1) := by decide +kernel
theorem dX6_turn_47 : decode cX6_turn 47 = .ok (.getfield 19, 3) := by decide +kernel
theorem dX6_turn_50 : decode cX6_turn 50 = .ok (.iload_n 1, 1) := by decide +kernel
theorem dX6_turn_51 : decode cX6_turn 51 = .ok (.iaload, 1) := by decide +kernel
theorem dX6_turn_52 : decode cX6_turn 52 = .ok (.istore_n 3, 1) := by decide +kernel
theorem dX6_turn_53 : decode cX6_turn 53 = .ok (.aload_n 0, 1) := by decide +kernel
theorem dX6_turn_54 : decode cX6_turn 54 = .ok (.getfield 19, 3) := by decide +kernel
theorem dX6_turn_57 : decode cX6_turn 57 = .ok (.iload_n 1, 1) := by decide +kernel
theorem dX6_turn_58 : decode cX6_turn 58 = .ok (.iload_n 2, 1) := by decide +kernel
theorem dX6_turn_59 : decode cX6_turn 59 = .ok (.iastore, 1) := by decide +kernel
theorem dX6_turn_60 : decode cX6_turn 60 = .ok (.iload_n 3, 1) := by decide +kernel
theorem dX6_turn_61 : decode cX6_turn 61 = .ok (.ireturn, 1) := by decide +kernel
set_option maxRecDepth 20000 in
theorem ggX6_evening_X6_lacks : GoodIn wsX6_evening wsX6_lacks := goodIn_r _ [10, 4, 41, 42, 43, 44, 45, 46, 47, 48, 49, 50, 51, 52, 53, 54, 55, 56, 57, 58, 59, 60, 61, 62, 63, 64, 65, 66] (by decide +kernel) (by decide +kernel)
set_option maxRecDepth 20000 in
theorem gX6_evening_X6_lacks : GoodIn wsX6_evening (wsV RX6 168 RX6 yX6_lacks wsX6_lacks) := goodIn_app (goodIn_of _ (by decide +kernel)) ggX6_evening_X6_lacks
set_option maxRecDepth 20000 in
theorem ggX6_evening_X6_isIn : GoodIn wsX6_evening wsX6_isIn := goodIn_r _ [13] (by decide +kernel) (by decide +kernel)
set_option maxRecDepth 20000 in
theorem gX6_evening_X6_isIn : GoodIn wsX6_evening (va_wsS RX6 66 yX6_isIn wsX6_isIn) := goodIn_app (goodIn_of _ (by decide +kernel)) ggX6_evening_X6_isIn
set_option maxRecDepth 20000 in
theorem ggX6_evening_X6_pourInto : GoodIn wsX6_evening wsX6_pourInto := goodIn_r _ [17, 18, 19, 20, 3, 21, 22, 23, 9, 24, 4, 25, 26, 27, 28, 29, 30, 31, 32, 33, 34, 35, 41, 42, 43, 44, 45, 46, 47, 48, 49, 50, 51, 52, 53, 54, 55, 56, 57, 58, 59, 60, 61, 62, 63, 64, 65, 66] (by decide +kernel) (by decide +kernel)
set_option maxRecDepth 20000 in
theorem gX6_evening_X6_pourInto : GoodIn wsX6_evening (wsV RX6 139 RX6 yX6_pourInto wsX6_pourInto) := goodIn_app (goodIn_of _ (by decide +kernel)) ggX6_evening_X6_pourInto
set_option maxRecDepth 20000 in
theorem ggX6_evening_X6_emptyOne : GoodIn wsX6_evening wsX6_emptyOne := goodIn_r _ [39, 18, 40, 41, 42, 43, 44, 45, 46, 47, 48, 49, 50, 51, 52, 53, 54, 55, 56, 57, 58, 59, 60, 61, 62, 63, 64, 65, 66] (by decide +kernel) (by decide +kernel)
set_option maxRecDepth 20000 in
theorem gX6_evening_X6_emptyOne : GoodIn wsX6_evening (wsV RX6 158 RX6 yX6_emptyOne wsX6_emptyOne) := goodIn_app (goodIn_of _ (by decide +kernel)) ggX6_evening_X6_emptyOne
theorem dX6_evening_0 : decode cX6_evening 0 = .ok (.aload_n 0, 1) := by decide +kernel
theorem dX6_evening_1 : decode cX6_evening 1 = .ok (.invokevirtual 168, 3) := by decide +kernel
theorem dX6_evening_4 : decode cX6_evening 4 = .ok (.ifCond .eq 6, 3) := by decide +kernel
theorem dX6_evening_7 : decode cX6_evening 7 = .ok (.bipush (-103), 2) := by decide +kernel
theorem dX6_evening_9 : decode cX6_evening 9 = .ok (.ireturn, 1) := by decide +kernel
theorem dX6_evening_10 : decode cX6_evening 10 = .ok (.iload_n 1, 1) := by decide +kernel
theorem dX6_evening_11 : decode cX6_evening 11 = .ok (.i2l, 1) := by decide +kernel
theorem dX6_evening_12 : decode cX6_evening 12 = .ok (.lconst 1, 1) := by decide +kernel
theorem dX6_evening_13 : decode cX6_evening 13 = .ok (.ldc2_w 184, 3) := by decide +kernel
theorem dX6_evening_16 : decode cX6_evening 16 = .ok (.invokestatic 66, 3) := by decide +kernel
theorem dX6_evening_19 : decode cX6_evening 19 = .ok (.ifCond .eq 15, 3) := by decide +kernel
theorem dX6_evening_22 : decode cX6_evening 22 = .ok (.iload_n 2, 1) := by decide +kernel
theorem dX6_evening_23 : decode cX6_evening 23 = .ok (.i2l, 1) := by decide +kernel
theorem dX6_evening_24 : decode cX6_evening 24 = .ok (.lconst 1, 1) := by decide +kernel
theorem dX6_evening_25 : decode cX6_evening 25 = .ok (.ldc2_w 182, 3) := by decide +kernel
theorem dX6_evening_28 : decode cX6_evening 28 = .ok (.invokestatic 66, 3) := by decide +kernel
theorem dX6_evening_31 : decode cX6_evening 31 = .ok (.ifCond .ne 6, 3) := by decide +kernel
theorem dX6_evening_34 : decode cX6_evening 34 = .ok (.bipush (-102), 2) := by decide +kernel
theorem dX6_evening_36 : decode cX6_evening 36 = .ok (.ireturn, 1) := by decide +kernel
theorem dX6_evening_37 : decode cX6_evening 37 = .ok (.aload_n 0, 1) := by decide +kernel
theorem dX6_evening_38 : decode cX6_evening 38 = .ok (.getfield 110, 3) := by decide +kernel
theorem dX6_evening_41 : decode cX6_evening 41 = .ok (.iload_n 1, 1) := by decide +kernel
theorem dX6_evening_42 : decode cX6_evening 42 = .ok (.iload_n 2, 1) := by decide +kernel
theorem dX6_evening_43 : decode cX6_evening 43 = .ok (.imul, 1) := by decide +kernel
theorem dX6_evening_44 : decode cX6_evening 44 = .ok (.iadd, 1) := by decide +kernel
theorem dX6_evening_45 : decode cX6_evening 45 = .ok (.sipush 9999, 3) := by decide +kernel
theorem dX6_evening_48 : decode cX6_evening 48 = .ok (.if_icmp .le 6, 3) := by decide +kernel
theorem dX6_evening_51 : decode cX6_evening 51 = .ok (.bipush (-103), 2) := by decide +kernel
theorem dX6_evening_53 : decode cX6_evening 53 = .ok (.ireturn, 1) := by decide +kernel
theorem dX6_evening_54 : decode cX6_evening 54 = .ok (.iconst 1, 1) := by decide +kernel
theorem dX6_evening_55 : decode cX6_evening 55 = .ok (.istore_n 3, 1) := by decide +kernel
theorem dX6_evening_56 : decode cX6_evening 56 = .ok (.iload_n 3, 1) := by decide +kernel
theorem dX6_evening_57 : decode cX6_evening 57 = .ok (.iload_n 1, 1) := by decide +kernel
theorem dX6_evening_58 : decode cX6_evening 58 = .ok (.if_icmp .gt 63, 3) := by decide +kernel
theorem dX6_evening_61 : decode cX6_evening 61 = .ok (.aload_n 0, 1) := by decide +kernel
theorem dX6_evening_62 : decode cX6_evening 62 = .ok (.iconst 0, 1) := by decide +kernel
theorem dX6_evening_63 : decode cX6_evening 63 = .ok (.iload_n 2, 1) := by decide +kernel
theorem dX6_evening_64 : decode cX6_evening 64 = .ok (.invokevirtual 139, 3) := by decide +kernel
theorem dX6_evening_67 : decode cX6_evening 67 = .ok (.iconst 0, 1) := by decide +kernel
theorem dX6_evening_68 : decode cX6_evening 68 = .ok (.istore 4, 2) := by decide +kernel
theorem dX6_evening_70 : decode cX6_evening 70 = .ok (.iload 4, 2) := by decide +kernel
theorem dX6_evening_72 : decode cX6_evening 72 = .ok (.aload_n 0, 1) := by decide +kernel
theorem dX6_evening_73 : decode cX6_evening 73 = .ok (.getfield 97, 3) := by decide +kernel
theorem dX6_evening_76 : decode cX6_evening 76 = .ok (.if_icmp .ge 39, 3) := by decide +kernel
theorem dX6_evening_79 : decode cX6_evening 79 = .ok (.aload_n 0, 1) := by decide +kernel
theorem dX6_evening_80 : decode cX6_evening 80 = .ok (.getfield 19, 3) := by decide +kernel
theorem dX6_evening_83 : decode cX6_evening 83 = .ok (.iload 4, 2) := by decide +kernel
theorem dX6_evening_85 : decode cX6_evening 85 = .ok (.iaload, 1) := by decide +kernel
theorem dX6_evening_86 : decode cX6_evening 86 = .ok (.ifCond .le 23, 3) := by decide +kernel
theorem dX6_evening_89 : decode cX6_evening 89 = .ok (.iload_n 3, 1) := by decide +kernel
theorem dX6_evening_90 : decode cX6_evening 90 = .ok (.aload_n 0, 1) := by decide +kernel
theorem dX6_evening_91 : decode cX6_evening 91 = .ok (.getfield 19, 3) := by decide +kernel
theorem dX6_evening_94 : decode cX6_evening 94 = .ok (.iload 4, 2) := by decide +kernel
theorem dX6_evening_96 : decode cX6_evening 96 = .ok (.iaload, 1) := by decide +kernel
theorem dX6_evening_97 : decode cX6_evening 97 = .ok (.irem, 1) := by decide +kernel
theorem dX6_evening_98 : decode cX6_evening 98 = .ok (.ifCond .ne 11, 3) := by decide +kernel
theorem dX6_evening_101 : decode cX6_evening 101 = .ok (.aload_n 0, 1) := by decide +kernel
theorem dX6_evening_102 : decode cX6_evening 102 = .ok (.iload 4, 2) := by decide +kernel
theorem dX6_evening_104 : decode cX6_evening 104 = .ok (.invokevirtual 158, 3) := by decide +kernel
theorem dX6_evening_107 : decode cX6_evening 107 = .ok (.istore 5, 2) := by decide +kernel
theorem dX6_evening_109 : decode cX6_evening 109 = .ok (.iinc 4 1, 3) := by decide +kernel
theorem dX6_evening_112 : decode cX6_evening 112 = .ok (.goto (-42), 3) := by decide +kernel
theorem dX6_evening_115 : decode cX6_evening 115 = .ok (.iinc 3 1, 3) := by decide +kernel
theorem dX6_evening_118 : decode cX6_evening 118 = .ok (.goto (-62), 3) := by decide +kernel
theorem dX6_evening_121 : decode cX6_evening 121 = .ok (.aload_n 0, 1) := by decide +kernel
theorem dX6_evening_122 : decode cX6_evening 122 = .ok (.getfield 110, 3) := by decide +kernel
theorem dX6_evening_125 : decode cX6_evening 125 = .ok (.ireturn, 1) := by decide +kernel
set_option maxRecDepth 20000 in
theorem ggX6_leaves_X6_beginWould : GoodIn wsX6_leaves wsX6_beginWould := goodIn_r _ [10, 3, 5, 11, 12, 13, 9, 14, 4, 1, 2, 15, 16, 17, 18, 19, 20, 25, 26, 27, 28, 29, 30, 31, 32, 33, 34, 35, 36, 37, 38, 39, 40, 41, 42, 43, 44, 45, 46, 47, 48, 49, 50] (by decide +kernel) (by decide +kernel)
set_option maxRecDepth 20000 in
theorem gX6_leaves_X6_beginWould : GoodIn wsX6_leaves (wsV RX6 161 RX6 yX6_beginWould wsX6_beginWould) := goodIn_app (goodIn_of _ (by decide +kernel)) ggX6_leaves_X6_beginWould
set_option maxRecDepth 20000 in
theorem ggX6_leaves_X6_runOver : GoodIn wsX6_leaves wsX6_runOver := goodIn_r _ [24, 4, 1, 16, 15, 25, 26, 27, 28, 29, 30, 31, 32, 33, 34, 35, 36, 37, 38, 39, 40, 41, 42, 43, 44, 45, 46, 47, 48, 49, 50] (by decide +kernel) (by decide +kernel)
set_option maxRecDepth 20000 in
theorem gX6_leaves_X6_runOver : GoodIn wsX6_leaves (wsV RX6 133 RX6 yX6_runOver wsX6_runOver) := goodIn_app (goodIn_of _ (by decide +kernel)) ggX6_leaves_X6_runOver
theorem dX6_leaves_0 : decode cX6_leaves 0 = .ok (.aload_n 0, 1) := by decide +kernel
theorem dX6_leaves_1 : decode cX6_leaves 1 = .ok (.iconst 0, 1) := by decide +kernel
theorem dX6_leaves_2 : decode cX6_leaves 2 = .ok (.invokevirtual 161, 3) := by decide +kernel
theorem dX6_leaves_5 : decode cX6_leaves 5 = .ok (.iload_n 2, 1) := by decide +kernel
theorem dX6_leaves_6 : decode cX6_leaves 6 = .ok (.iconst (-1), 1) := by decide +kernel
theorem dX6_leaves_7 : decode cX6_leaves 7 = .ok (.if_icmp .eq 15, 3) := by decide +kernel
theorem dX6_leaves_10 : decode cX6_leaves 10 = .ok (.aload_n 0, 1) := by decide +kernel
theorem dX6_leaves_11 : decode cX6_leaves 11 = .ok (.getfield 29, 3) := by decide +kernel
theorem dX6_leaves_14 : decode cX6_leaves 14 = .ok (.iload_n 2, 1) := by decide +kernel
theorem dX6_leaves_15 : decode cX6_leaves 15 = .ok (.dup2, 1) := by decide +kernel
theorem dX6_leaves_16 : decode cX6_leaves 16 = .ok (.laload, 1) := by decide +kernel
theorem dX6_leaves_17 : decode cX6_leaves 17 = .ok (.ldc2_w 113, 3) := by decide +kernel
theorem dX6_leaves_20 : decode cX6_leaves 20 = .ok (.lsub, 1) := by decide +kernel
theorem dX6_leaves_21 : decode cX6_leaves 21 = .ok (.lastore, 1) := by decide +kernel
theorem dX6_leaves_22 : decode cX6_leaves 22 = .ok (.aload_n 0, 1) := by decide +kernel
theorem dX6_leaves_23 : decode cX6_leaves 23 = .ok (.getfield 35, 3) := by decide +kernel
theorem dX6_leaves_26 : decode cX6_leaves 26 = .ok (.iconst 0, 1) := by decide +kernel
theorem dX6_leaves_27 : decode cX6_leaves 27 = .ok (.ldc2_w 113, 3) := by decide +kernel
theorem dX6_leaves_30 : decode cX6_leaves 30 = .ok (.iload_n 1, 1) := by decide +kernel
theorem dX6_leaves_31 : decode cX6_leaves 31 = .ok (.i2l, 1) := by decide +kernel
theorem dX6_leaves_32 : decode cX6_leaves 32 = .ok (.lmul, 1) := by decide +kernel
theorem dX6_leaves_33 : decode cX6_leaves 33 = .ok (.lastore, 1) := by decide +kernel
theorem dX6_leaves_34 : decode cX6_leaves 34 = .ok (.aload_n 0, 1) := by decide +kernel
theorem dX6_leaves_35 : decode cX6_leaves 35 = .ok (.aload_n 0, 1) := by decide +kernel
theorem dX6_leaves_36 : decode cX6_leaves 36 = .ok (.getfield 35, 3) := by decide +kernel
theorem dX6_leaves_39 : decode cX6_leaves 39 = .ok (.invokevirtual 133, 3) := by decide +kernel
theorem dX6_leaves_42 : decode cX6_leaves 42 = .ok (.lstore_n 3, 1) := by decide +kernel
theorem dX6_leaves_43 : decode cX6_leaves 43 = .ok (.iconst 1, 1) := by decide +kernel
theorem dX6_leaves_44 : decode cX6_leaves 44 = .ok (.istore 5, 2) := by decide +kernel
theorem dX6_leaves_46 : decode cX6_leaves 46 = .ok (.iconst 0, 1) := by decide +kernel
theorem dX6_leaves_47 : decode cX6_leaves 47 = .ok (.istore 6, 2) := by decide +kernel
theorem dX6_leaves_49 : decode cX6_leaves 49 = .ok (.iload 6, 2) := by decide +kernel
theorem dX6_leaves_51 : decode cX6_leaves 51 = .ok (.aload_n 0, 1) := by decide +kernel
theorem dX6_leaves_52 : decode cX6_leaves 52 = .ok (.getfield 97, 3) := by decide +kernel
theorem dX6_leaves_55 : decode cX6_leaves 55 = .ok (.if_icmp .ge 39, 3) := by decide +kernel
theorem dX6_leaves_58 : decode cX6_leaves 58 = .ok (.iload 5, 2) := by decide +kernel
theorem dX6_leaves_60 : decode cX6_leaves 60 = .ok (.ifCond .eq 25, 3) := by decide +kernel
theorem dX6_leaves_63 : decode cX6_leaves 63 = .ok (.aload_n 0, 1) := by decide +kernel
theorem dX6_leaves_64 : decode cX6_leaves 64 = .ok (.getfield 35, 3) := by decide +kernel
theorem dX6_leaves_67 : decode cX6_leaves 67 = .ok (.iload 6, 2) := by decide +kernel
theorem dX6_leaves_69 : decode cX6_leaves 69 = .ok (.laload, 1) := by decide +kernel
theorem dX6_leaves_70 : decode cX6_leaves 70 = .ok (.aload_n 0, 1) := by decide +kernel
theorem dX6_leaves_71 : decode cX6_leaves 71 = .ok (.getfield 22, 3) := by decide +kernel
theorem dX6_leaves_74 : decode cX6_leaves 74 = .ok (.iload 6, 2) := by decide +kernel
theorem dX6_leaves_76 : decode cX6_leaves 76 = .ok (.laload, 1) := by decide +kernel
theorem dX6_leaves_77 : decode cX6_leaves 77 = .ok (.lcmp, 1) := by decide +kernel
theorem dX6_leaves_78 : decode cX6_leaves 78 = .ok (.ifCond .ne 7, 3) := by decide +kernel
