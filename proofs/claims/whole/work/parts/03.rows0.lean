theorem dX0_init_0 : decode cX0_init 0 = .ok (.aload_n 0, 1) := by decide +kernel
theorem dX0_init_1 : decode cX0_init 1 = .ok (.invokespecial 3, 3) := by decide +kernel
theorem dX0_init_4 : decode cX0_init 4 = .ok (.aload_n 0, 1) := by decide +kernel
theorem dX0_init_5 : decode cX0_init 5 = .ok (.bipush 9, 2) := by decide +kernel
theorem dX0_init_7 : decode cX0_init 7 = .ok (.newarray .long, 2) := by decide +kernel
theorem dX0_init_9 : decode cX0_init 9 = .ok (.putfield 9, 3) := by decide +kernel
theorem dX0_init_12 : decode cX0_init 12 = .ok (.return_, 1) := by decide +kernel
set_option maxRecDepth 20000 in
theorem ggX0_makeEmpty_J7_fill_d0a16 : GoodIn wsX0_makeEmpty wsJ7_fill_d0a16 := goodIn_r _ [6] (by decide +kernel) (by decide +kernel)
set_option maxRecDepth 20000 in
theorem gX0_makeEmpty_J7_fill_d0a16 : GoodIn wsX0_makeEmpty (va_wsS RX0 15 yJ7_fill_d0a16 wsJ7_fill_d0a16) := goodIn_app (goodIn_of _ (by decide +kernel)) ggX0_makeEmpty_J7_fill_d0a16
theorem dX0_makeEmpty_0 : decode cX0_makeEmpty 0 = .ok (.aload_n 0, 1) := by decide +kernel
theorem dX0_makeEmpty_1 : decode cX0_makeEmpty 1 = .ok (.getfield 9, 3) := by decide +kernel
theorem dX0_makeEmpty_4 : decode cX0_makeEmpty 4 = .ok (.lconst 0, 1) := by decide +kernel
theorem dX0_makeEmpty_5 : decode cX0_makeEmpty 5 = .ok (.invokestatic 15, 3) := by decide +kernel
theorem dX0_makeEmpty_8 : decode cX0_makeEmpty 8 = .ok (.aload_n 0, 1) := by decide +kernel
theorem dX0_makeEmpty_9 : decode cX0_makeEmpty 9 = .ok (.lconst 0, 1) := by decide +kernel
theorem dX0_makeEmpty_10 : decode cX0_makeEmpty 10 = .ok (.putfield 21, 3) := by decide +kernel
theorem dX0_makeEmpty_13 : decode cX0_makeEmpty 13 = .ok (.return_, 1) := by decide +kernel
theorem dX0_copyFrom_0 : decode cX0_copyFrom 0 = .ok (.aload_n 1, 1) := by decide +kernel
theorem dX0_copyFrom_1 : decode cX0_copyFrom 1 = .ok (.getfield 9, 3) := by decide +kernel
theorem dX0_copyFrom_4 : decode cX0_copyFrom 4 = .ok (.iconst 0, 1) := by decide +kernel
theorem dX0_copyFrom_5 : decode cX0_copyFrom 5 = .ok (.aload_n 0, 1) := by decide +kernel
theorem dX0_copyFrom_6 : decode cX0_copyFrom 6 = .ok (.getfield 9, 3) := by decide +kernel
theorem dX0_copyFrom_9 : decode cX0_copyFrom 9 = .ok (.iconst 0, 1) := by decide +kernel
theorem dX0_copyFrom_10 : decode cX0_copyFrom 10 = .ok (.bipush 9, 2) := by decide +kernel
theorem dX0_copyFrom_12 : decode cX0_copyFrom 12 = .ok (.invokestatic 25, 3) := by decide +kernel
theorem dX0_copyFrom_15 : decode cX0_copyFrom 15 = .ok (.aload_n 0, 1) := by decide +kernel
theorem dX0_copyFrom_16 : decode cX0_copyFrom 16 = .ok (.aload_n 1, 1) := by decide +kernel
theorem dX0_copyFrom_17 : decode cX0_copyFrom 17 = .ok (.getfield 21, 3) := by decide +kernel
theorem dX0_copyFrom_20 : decode cX0_copyFrom 20 = .ok (.putfield 21, 3) := by decide +kernel
theorem dX0_copyFrom_23 : decode cX0_copyFrom 23 = .ok (.return_, 1) := by decide +kernel
set_option maxRecDepth 20000 in
theorem ggX0_addTo_X3_has : GoodIn wsX0_addTo wsX3_has := goodIn_r _ [7, 8, 32, 33, 34, 35, 36, 37] (by decide +kernel) (by decide +kernel)
set_option maxRecDepth 20000 in
theorem gX0_addTo_X3_has : GoodIn wsX0_addTo (wsV RX0 31 RX3 yX3_has wsX3_has) := goodIn_app (goodIn_of _ (by decide +kernel)) ggX0_addTo_X3_has
set_option maxRecDepth 20000 in
theorem ggX0_addTo_X0_runOver : GoodIn wsX0_addTo wsX0_runOver := goodIn_r _ [13, 14, 1, 15, 2, 16, 17, 18, 12, 19, 20, 21, 22, 23, 24, 25, 6, 26, 27, 28, 29, 4, 5, 7, 8, 3, 32, 33, 34, 35, 36, 37, 30, 31] (by decide +kernel) (by decide +kernel)
set_option maxRecDepth 20000 in
theorem gX0_addTo_X0_runOver : GoodIn wsX0_addTo (wsV RX0 39 RX0 yX0_runOver wsX0_runOver) := goodIn_app (goodIn_of _ (by decide +kernel)) ggX0_addTo_X0_runOver
theorem dX0_addTo_0 : decode cX0_addTo 0 = .ok (.aload_n 1, 1) := by decide +kernel
theorem dX0_addTo_1 : decode cX0_addTo 1 = .ok (.iload_n 2, 1) := by decide +kernel
theorem dX0_addTo_2 : decode cX0_addTo 2 = .ok (.invokevirtual 31, 3) := by decide +kernel
theorem dX0_addTo_5 : decode cX0_addTo 5 = .ok (.ifCond .eq 23, 3) := by decide +kernel
theorem dX0_addTo_8 : decode cX0_addTo 8 = .ok (.aload_n 0, 1) := by decide +kernel
theorem dX0_addTo_9 : decode cX0_addTo 9 = .ok (.getfield 9, 3) := by decide +kernel
theorem dX0_addTo_12 : decode cX0_addTo 12 = .ok (.iload_n 2, 1) := by decide +kernel
theorem dX0_addTo_13 : decode cX0_addTo 13 = .ok (.dup2, 1) := by decide +kernel
theorem dX0_addTo_14 : decode cX0_addTo 14 = .ok (.laload, 1) := by decide +kernel
theorem dX0_addTo_15 : decode cX0_addTo 15 = .ok (.iload_n 3, 1) := by decide +kernel
theorem dX0_addTo_16 : decode cX0_addTo 16 = .ok (.i2l, 1) := by decide +kernel
theorem dX0_addTo_17 : decode cX0_addTo 17 = .ok (.ldc2_w 37, 3) := by decide +kernel
theorem dX0_addTo_20 : decode cX0_addTo 20 = .ok (.lmul, 1) := by decide +kernel
theorem dX0_addTo_21 : decode cX0_addTo 21 = .ok (.ladd, 1) := by decide +kernel
theorem dX0_addTo_22 : decode cX0_addTo 22 = .ok (.lastore, 1) := by decide +kernel
theorem dX0_addTo_23 : decode cX0_addTo 23 = .ok (.aload_n 0, 1) := by decide +kernel
theorem dX0_addTo_24 : decode cX0_addTo 24 = .ok (.aload_n 1, 1) := by decide +kernel
theorem dX0_addTo_25 : decode cX0_addTo 25 = .ok (.invokevirtual 39, 3) := by decide +kernel
theorem dX0_addTo_28 : decode cX0_addTo 28 = .ok (.return_, 1) := by decide +kernel
set_option maxRecDepth 20000 in
theorem ggX0_runOver_X0_shareOut : GoodIn wsX0_runOver wsX0_shareOut := goodIn_r _ [9, 10, 11, 12, 2, 13, 14, 15, 16, 17, 18, 19, 20, 21, 22, 23, 24, 25, 32, 33, 26, 27, 28, 29, 30, 31] (by decide +kernel) (by decide +kernel)
set_option maxRecDepth 20000 in
theorem gX0_runOver_X0_shareOut : GoodIn wsX0_runOver (wsV RX0 51 RX0 yX0_shareOut wsX0_shareOut) := goodIn_app (goodIn_of _ (by decide +kernel)) ggX0_runOver_X0_shareOut
theorem dX0_runOver_0 : decode cX0_runOver 0 = .ok (.iconst 0, 1) := by decide +kernel
theorem dX0_runOver_1 : decode cX0_runOver 1 = .ok (.istore_n 2, 1) := by decide +kernel
theorem dX0_runOver_2 : decode cX0_runOver 2 = .ok (.iload_n 2, 1) := by decide +kernel
theorem dX0_runOver_3 : decode cX0_runOver 3 = .ok (.aload_n 1, 1) := by decide +kernel
theorem dX0_runOver_4 : decode cX0_runOver 4 = .ok (.getfield 43, 3) := by decide +kernel
theorem dX0_runOver_7 : decode cX0_runOver 7 = .ok (.if_icmp .ge 51, 3) := by decide +kernel
theorem dX0_runOver_10 : decode cX0_runOver 10 = .ok (.aload_n 0, 1) := by decide +kernel
theorem dX0_runOver_11 : decode cX0_runOver 11 = .ok (.getfield 9, 3) := by decide +kernel
theorem dX0_runOver_14 : decode cX0_runOver 14 = .ok (.iload_n 2, 1) := by decide +kernel
theorem dX0_runOver_15 : decode cX0_runOver 15 = .ok (.laload, 1) := by decide +kernel
theorem dX0_runOver_16 : decode cX0_runOver 16 = .ok (.aload_n 1, 1) := by decide +kernel
theorem dX0_runOver_17 : decode cX0_runOver 17 = .ok (.getfield 47, 3) := by decide +kernel
theorem dX0_runOver_20 : decode cX0_runOver 20 = .ok (.iload_n 2, 1) := by decide +kernel
theorem dX0_runOver_21 : decode cX0_runOver 21 = .ok (.iaload, 1) := by decide +kernel
theorem dX0_runOver_22 : decode cX0_runOver 22 = .ok (.i2l, 1) := by decide +kernel
theorem dX0_runOver_23 : decode cX0_runOver 23 = .ok (.ldc2_w 37, 3) := by decide +kernel
theorem dX0_runOver_26 : decode cX0_runOver 26 = .ok (.lmul, 1) := by decide +kernel
theorem dX0_runOver_27 : decode cX0_runOver 27 = .ok (.lsub, 1) := by decide +kernel
theorem dX0_runOver_28 : decode cX0_runOver 28 = .ok (.lstore_n 3, 1) := by decide +kernel
theorem dX0_runOver_29 : decode cX0_runOver 29 = .ok (.lload_n 3, 1) := by decide +kernel
theorem dX0_runOver_30 : decode cX0_runOver 30 = .ok (.lconst 0, 1) := by decide +kernel
theorem dX0_runOver_31 : decode cX0_runOver 31 = .ok (.lcmp, 1) := by decide +kernel
theorem dX0_runOver_32 : decode cX0_runOver 32 = .ok (.ifCond .le 20, 3) := by decide +kernel
theorem dX0_runOver_35 : decode cX0_runOver 35 = .ok (.aload_n 0, 1) := by decide +kernel
theorem dX0_runOver_36 : decode cX0_runOver 36 = .ok (.getfield 9, 3) := by decide +kernel
theorem dX0_runOver_39 : decode cX0_runOver 39 = .ok (.iload_n 2, 1) := by decide +kernel
theorem dX0_runOver_40 : decode cX0_runOver 40 = .ok (.dup2, 1) := by decide +kernel
theorem dX0_runOver_41 : decode cX0_runOver 41 = .ok (.laload, 1) := by decide +kernel
theorem dX0_runOver_42 : decode cX0_runOver 42 = .ok (.lload_n 3, 1) := by decide +kernel
theorem dX0_runOver_43 : decode cX0_runOver 43 = .ok (.lsub, 1) := by decide +kernel
theorem dX0_runOver_44 : decode cX0_runOver 44 = .ok (.lastore, 1) := by decide +kernel
theorem dX0_runOver_45 : decode cX0_runOver 45 = .ok (.aload_n 0, 1) := by decide +kernel
theorem dX0_runOver_46 : decode cX0_runOver 46 = .ok (.aload_n 1, 1) := by decide +kernel
theorem dX0_runOver_47 : decode cX0_runOver 47 = .ok (.iload_n 2, 1) := by decide +kernel
theorem dX0_runOver_48 : decode cX0_runOver 48 = .ok (.lload_n 3, 1) := by decide +kernel
theorem dX0_runOver_49 : decode cX0_runOver 49 = .ok (.invokevirtual 51, 3) := by decide +kernel
theorem dX0_runOver_52 : decode cX0_runOver 52 = .ok (.iinc 2 1, 3) := by decide +kernel
theorem dX0_runOver_55 : decode cX0_runOver 55 = .ok (.goto (-53), 3) := by decide +kernel
theorem dX0_runOver_58 : decode cX0_runOver 58 = .ok (.return_, 1) := by decide +kernel
set_option maxRecDepth 20000 in
theorem ggX0_shareOut_X3_partsOf : GoodIn wsX0_shareOut wsX3_partsOf := goodIn_r _ [9, 10, 11, 12, 13, 14, 8, 15, 16, 20, 21, 22, 23, 24, 25] (by decide +kernel) (by decide +kernel)
set_option maxRecDepth 20000 in
theorem gX0_shareOut_X3_partsOf : GoodIn wsX0_shareOut (wsV RX0 55 RX3 yX3_partsOf wsX3_partsOf) := goodIn_app (goodIn_of _ (by decide +kernel)) ggX0_shareOut_X3_partsOf
set_option maxRecDepth 20000 in
theorem ggX0_shareOut_X3_has : GoodIn wsX0_shareOut wsX3_has := goodIn_r _ [15, 16, 20, 21, 22, 23, 24, 25] (by decide +kernel) (by decide +kernel)
set_option maxRecDepth 20000 in
theorem gX0_shareOut_X3_has : GoodIn wsX0_shareOut (wsV RX0 31 RX3 yX3_has wsX3_has) := goodIn_app (goodIn_of _ (by decide +kernel)) ggX0_shareOut_X3_has
theorem dX0_shareOut_0 : decode cX0_shareOut 0 = .ok (.aload_n 1, 1) := by decide +kernel
theorem dX0_shareOut_1 : decode cX0_shareOut 1 = .ok (.iload_n 2, 1) := by decide +kernel
theorem dX0_shareOut_2 : decode cX0_shareOut 2 = .ok (.invokevirtual 55, 3) := by decide +kernel
theorem dX0_shareOut_5 : decode cX0_shareOut 5 = .ok (.istore 5, 2) := by decide +kernel
theorem dX0_shareOut_7 : decode cX0_shareOut 7 = .ok (.iload 5, 2) := by decide +kernel
theorem dX0_shareOut_9 : decode cX0_shareOut 9 = .ok (.ifCond .gt 14, 3) := by decide +kernel
theorem dX0_shareOut_12 : decode cX0_shareOut 12 = .ok (.aload_n 0, 1) := by decide +kernel
theorem dX0_shareOut_13 : decode cX0_shareOut 13 = .ok (.dup, 1) := by decide +kernel
theorem dX0_shareOut_14 : decode cX0_shareOut 14 = .ok (.getfield 21, 3) := by decide +kernel
theorem dX0_shareOut_17 : decode cX0_shareOut 17 = .ok (.lload_n 3, 1) := by decide +kernel
theorem dX0_shareOut_18 : decode cX0_shareOut 18 = .ok (.ladd, 1) := by decide +kernel
theorem dX0_shareOut_19 : decode cX0_shareOut 19 = .ok (.putfield 21, 3) := by decide +kernel
theorem dX0_shareOut_22 : decode cX0_shareOut 22 = .ok (.return_, 1) := by decide +kernel
theorem dX0_shareOut_23 : decode cX0_shareOut 23 = .ok (.aload_n 1, 1) := by decide +kernel
theorem dX0_shareOut_24 : decode cX0_shareOut 24 = .ok (.getfield 59, 3) := by decide +kernel
theorem dX0_shareOut_27 : decode cX0_shareOut 27 = .ok (.iload_n 2, 1) := by decide +kernel
theorem dX0_shareOut_28 : decode cX0_shareOut 28 = .ok (.iaload, 1) := by decide +kernel
theorem dX0_shareOut_29 : decode cX0_shareOut 29 = .ok (.istore 6, 2) := by decide +kernel
theorem dX0_shareOut_31 : decode cX0_shareOut 31 = .ok (.lload_n 3, 1) := by decide +kernel
theorem dX0_shareOut_32 : decode cX0_shareOut 32 = .ok (.iload 5, 2) := by decide +kernel
theorem dX0_shareOut_34 : decode cX0_shareOut 34 = .ok (.i2l, 1) := by decide +kernel
theorem dX0_shareOut_35 : decode cX0_shareOut 35 = .ok (.ldiv, 1) := by decide +kernel
theorem dX0_shareOut_36 : decode cX0_shareOut 36 = .ok (.lstore 7, 2) := by decide +kernel
theorem dX0_shareOut_38 : decode cX0_shareOut 38 = .ok (.iconst 0, 1) := by decide +kernel
theorem dX0_shareOut_39 : decode cX0_shareOut 39 = .ok (.istore 9, 2) := by decide +kernel
theorem dX0_shareOut_41 : decode cX0_shareOut 41 = .ok (.iload 9, 2) := by decide +kernel
theorem dX0_shareOut_43 : decode cX0_shareOut 43 = .ok (.iload 6, 2) := by decide +kernel
theorem dX0_shareOut_45 : decode cX0_shareOut 45 = .ok (.if_icmp .ge 79, 3) := by decide +kernel
theorem dX0_shareOut_48 : decode cX0_shareOut 48 = .ok (.aload_n 1, 1) := by decide +kernel
theorem dX0_shareOut_49 : decode cX0_shareOut 49 = .ok (.getfield 62, 3) := by decide +kernel
theorem dX0_shareOut_52 : decode cX0_shareOut 52 = .ok (.iload_n 2, 1) := by decide +kernel
theorem dX0_shareOut_53 : decode cX0_shareOut 53 = .ok (.iconst 3, 1) := by decide +kernel
theorem dX0_shareOut_54 : decode cX0_shareOut 54 = .ok (.imul, 1) := by decide +kernel
theorem dX0_shareOut_55 : decode cX0_shareOut 55 = .ok (.iload 9, 2) := by decide +kernel
theorem dX0_shareOut_57 : decode cX0_shareOut 57 = .ok (.iadd, 1) := by decide +kernel
theorem dX0_shareOut_58 : decode cX0_shareOut 58 = .ok (.iaload, 1) := by decide +kernel
theorem dX0_shareOut_59 : decode cX0_shareOut 59 = .ok (.istore 10, 2) := by decide +kernel
theorem dX0_shareOut_61 : decode cX0_shareOut 61 = .ok (.iload 9, 2) := by decide +kernel
theorem dX0_shareOut_63 : decode cX0_shareOut 63 = .ok (.ifCond .ne 16, 3) := by decide +kernel
theorem dX0_shareOut_66 : decode cX0_shareOut 66 = .ok (.lload_n 3, 1) := by decide +kernel
theorem dX0_shareOut_67 : decode cX0_shareOut 67 = .ok (.lload 7, 2) := by decide +kernel
theorem dX0_shareOut_69 : decode cX0_shareOut 69 = .ok (.iload 6, 2) := by decide +kernel
theorem dX0_shareOut_71 : decode cX0_shareOut 71 = .ok (.iconst 1, 1) := by decide +kernel
theorem dX0_shareOut_72 : decode cX0_shareOut 72 = .ok (.isub, 1) := by decide +kernel
theorem dX0_shareOut_73 : decode cX0_shareOut 73 = .ok (.i2l, 1) := by decide +kernel
theorem dX0_shareOut_74 : decode cX0_shareOut 74 = .ok (.lmul, 1) := by decide +kernel
theorem dX0_shareOut_75 : decode cX0_shareOut 75 = .ok (.lsub, 1) := by decide +kernel
theorem dX0_shareOut_76 : decode cX0_shareOut 76 = .ok (.goto 5, 3) := by decide +kernel
theorem dX0_shareOut_79 : decode cX0_shareOut 79 = .ok (.lload 7, 2) := by decide +kernel
theorem dX0_shareOut_81 : decode cX0_shareOut 81 = .ok (.lstore 11, 2) := by decide +kernel
theorem dX0_shareOut_83 : decode cX0_shareOut 83 = .ok (.aload_n 1, 1) := by decide +kernel
theorem dX0_shareOut_84 : decode cX0_shareOut 84 = .ok (.iload 10, 2) := by decide +kernel
theorem dX0_shareOut_86 : decode cX0_shareOut 86 = .ok (.invokevirtual 31, 3) := by decide +kernel
theorem dX0_shareOut_89 : decode cX0_shareOut 89 = .ok (.ifCond .eq 18, 3) := by decide +kernel
theorem dX0_shareOut_92 : decode cX0_shareOut 92 = .ok (.aload_n 0, 1) := by decide +kernel
theorem dX0_shareOut_93 : decode cX0_shareOut 93 = .ok (.getfield 9, 3) := by decide +kernel
theorem dX0_shareOut_96 : decode cX0_shareOut 96 = .ok (.iload 10, 2) := by decide +kernel
theorem dX0_shareOut_98 : decode cX0_shareOut 98 = .ok (.dup2, 1) := by decide +kernel
theorem dX0_shareOut_99 : decode cX0_shareOut 99 = .ok (.laload, 1) := by decide +kernel
theorem dX0_shareOut_100 : decode cX0_shareOut 100 = .ok (.lload 11, 2) := by decide +kernel
theorem dX0_shareOut_102 : decode cX0_shareOut 102 = .ok (.ladd, 1) := by decide +kernel
theorem dX0_shareOut_103 : decode cX0_shareOut 103 = .ok (.lastore, 1) := by decide +kernel
theorem dX0_shareOut_104 : decode cX0_shareOut 104 = .ok (.goto 14, 3) := by decide +kernel
theorem dX0_shareOut_107 : decode cX0_shareOut 107 = .ok (.aload_n 0, 1) := by decide +kernel
theorem dX0_shareOut_108 : decode cX0_shareOut 108 = .ok (.dup, 1) := by decide +kernel
theorem dX0_shareOut_109 : decode cX0_shareOut 109 = .ok (.getfield 21, 3) := by decide +kernel
theorem dX0_shareOut_112 : decode cX0_shareOut 112 = .ok (.lload 11, 2) := by decide +kernel
theorem dX0_shareOut_114 : decode cX0_shareOut 114 = .ok (.ladd, 1) := by decide +kernel
theorem dX0_shareOut_115 : decode cX0_shareOut 115 = .ok (.putfield 21, 3) := by decide +kernel
theorem dX0_shareOut_118 : decode cX0_shareOut 118 = .ok (.iinc 9 1, 3) := by decide +kernel
theorem dX0_shareOut_121 : decode cX0_shareOut 121 = .ok (.goto (-80), 3) := by decide +kernel
theorem dX0_shareOut_124 : decode cX0_shareOut 124 = .ok (.return_, 1) := by decide +kernel
theorem dX0_takeOut_0 : decode cX0_takeOut 0 = .ok (.iload_n 1, 1) := by decide +kernel
theorem dX0_takeOut_1 : decode cX0_takeOut 1 = .ok (.ifCond .lt 12, 3) := by decide +kernel
theorem dX0_takeOut_4 : decode cX0_takeOut 4 = .ok (.iload_n 1, 1) := by decide +kernel
theorem dX0_takeOut_5 : decode cX0_takeOut 5 = .ok (.aload_n 0, 1) := by decide +kernel
theorem dX0_takeOut_6 : decode cX0_takeOut 6 = .ok (.getfield 9, 3) := by decide +kernel
theorem dX0_takeOut_9 : decode cX0_takeOut 9 = .ok (.arraylength, 1) := by decide +kernel
theorem dX0_takeOut_10 : decode cX0_takeOut 10 = .ok (.if_icmp .lt 5, 3) := by decide +kernel
theorem dX0_takeOut_13 : decode cX0_takeOut 13 = .ok (.lconst 0, 1) := by decide +kernel
theorem dX0_takeOut_14 : decode cX0_takeOut 14 = .ok (.lreturn, 1) := by decide +kernel
theorem dX0_takeOut_15 : decode cX0_takeOut 15 = .ok (.aload_n 0, 1) := by decide +kernel
theorem dX0_takeOut_16 : decode cX0_takeOut 16 = .ok (.getfield 9, 3) := by decide +kernel
theorem dX0_takeOut_19 : decode cX0_takeOut 19 = .ok (.iload_n 1, 1) := by decide +kernel
theorem dX0_takeOut_20 : decode cX0_takeOut 20 = .ok (.laload, 1) := by decide +kernel
theorem dX0_takeOut_21 : decode cX0_takeOut 21 = .ok (.lstore_n 2, 1) := by decide +kernel
theorem dX0_takeOut_22 : decode cX0_takeOut 22 = .ok (.aload_n 0, 1) := by decide +kernel
theorem dX0_takeOut_23 : decode cX0_takeOut 23 = .ok (.getfield 9, 3) := by decide +kernel
theorem dX0_takeOut_26 : decode cX0_takeOut 26 = .ok (.iload_n 1, 1) := by decide +kernel
theorem dX0_takeOut_27 : decode cX0_takeOut 27 = .ok (.lconst 0, 1) := by decide +kernel
theorem dX0_takeOut_28 : decode cX0_takeOut 28 = .ok (.lastore, 1) := by decide +kernel
theorem dX0_takeOut_29 : decode cX0_takeOut 29 = .ok (.lload_n 2, 1) := by decide +kernel
theorem dX0_takeOut_30 : decode cX0_takeOut 30 = .ok (.lreturn, 1) := by decide +kernel
theorem dX0_together_0 : decode cX0_together 0 = .ok (.lconst 0, 1) := by decide +kernel
theorem dX0_together_1 : decode cX0_together 1 = .ok (.lstore_n 1, 1) := by decide +kernel
theorem dX0_together_2 : decode cX0_together 2 = .ok (.aload_n 0, 1) := by decide +kernel
theorem dX0_together_3 : decode cX0_together 3 = .ok (.getfield 9, 3) := by decide +kernel
theorem dX0_together_6 : decode cX0_together 6 = .ok (.astore_n 3, 1) := by decide +kernel
theorem dX0_together_7 : decode cX0_together 7 = .ok (.aload_n 3, 1) := by decide +kernel
theorem dX0_together_8 : decode cX0_together 8 = .ok (.arraylength, 1) := by decide +kernel
theorem dX0_together_9 : decode cX0_together 9 = .ok (.istore 4, 2) := by decide +kernel
theorem dX0_together_11 : decode cX0_together 11 = .ok (.iconst 0, 1) := by decide +kernel
theorem dX0_together_12 : decode cX0_together 12 = .ok (.istore 5, 2) := by decide +kernel
theorem dX0_together_14 : decode cX0_together 14 = .ok (.iload 5, 2) := by decide +kernel
theorem dX0_together_16 : decode cX0_together 16 = .ok (.iload 4, 2) := by decide +kernel
theorem dX0_together_18 : decode cX0_together 18 = .ok (.if_icmp .ge 20, 3) := by decide +kernel
theorem dX0_together_21 : decode cX0_together 21 = .ok (.aload_n 3, 1) := by decide +kernel
theorem dX0_together_22 : decode cX0_together 22 = .ok (.iload 5, 2) := by decide +kernel
theorem dX0_together_24 : decode cX0_together 24 = .ok (.laload, 1) := by decide +kernel
theorem dX0_together_25 : decode cX0_together 25 = .ok (.lstore 6, 2) := by decide +kernel
theorem dX0_together_27 : decode cX0_together 27 = .ok (.lload_n 1, 1) := by decide +kernel
theorem dX0_together_28 : decode cX0_together 28 = .ok (.lload 6, 2) := by decide +kernel
theorem dX0_together_30 : decode cX0_together 30 = .ok (.ladd, 1) := by decide +kernel
theorem dX0_together_31 : decode cX0_together 31 = .ok (.lstore_n 1, 1) := by decide +kernel
theorem dX0_together_32 : decode cX0_together 32 = .ok (.iinc 5 1, 3) := by decide +kernel
theorem dX0_together_35 : decode cX0_together 35 = .ok (.goto (-21), 3) := by decide +kernel
theorem dX0_together_38 : decode cX0_together 38 = .ok (.lload_n 1, 1) := by decide +kernel
theorem dX0_together_39 : decode cX0_together 39 = .ok (.lreturn, 1) := by decide +kernel
set_option maxRecDepth 20000 in
theorem ggX0_isFull_X3_has : GoodIn wsX0_isFull wsX3_has := goodIn_r _ [8, 9, 12, 13, 14, 15, 16, 17] (by decide +kernel) (by decide +kernel)
set_option maxRecDepth 20000 in
theorem gX0_isFull_X3_has : GoodIn wsX0_isFull (wsV RX0 31 RX3 yX3_has wsX3_has) := goodIn_app (goodIn_of _ (by decide +kernel)) ggX0_isFull_X3_has
theorem dX0_isFull_0 : decode cX0_isFull 0 = .ok (.aload_n 1, 1) := by decide +kernel
theorem dX0_isFull_1 : decode cX0_isFull 1 = .ok (.iload_n 2, 1) := by decide +kernel
theorem dX0_isFull_2 : decode cX0_isFull 2 = .ok (.invokevirtual 31, 3) := by decide +kernel
theorem dX0_isFull_5 : decode cX0_isFull 5 = .ok (.ifCond .eq 28, 3) := by decide +kernel
theorem dX0_isFull_8 : decode cX0_isFull 8 = .ok (.aload_n 0, 1) := by decide +kernel
theorem dX0_isFull_9 : decode cX0_isFull 9 = .ok (.getfield 9, 3) := by decide +kernel
theorem dX0_isFull_12 : decode cX0_isFull 12 = .ok (.iload_n 2, 1) := by decide +kernel
theorem dX0_isFull_13 : decode cX0_isFull 13 = .ok (.laload, 1) := by decide +kernel
theorem dX0_isFull_14 : decode cX0_isFull 14 = .ok (.aload_n 1, 1) := by decide +kernel
theorem dX0_isFull_15 : decode cX0_isFull 15 = .ok (.getfield 47, 3) := by decide +kernel
theorem dX0_isFull_18 : decode cX0_isFull 18 = .ok (.iload_n 2, 1) := by decide +kernel
theorem dX0_isFull_19 : decode cX0_isFull 19 = .ok (.iaload, 1) := by decide +kernel
theorem dX0_isFull_20 : decode cX0_isFull 20 = .ok (.i2l, 1) := by decide +kernel
theorem dX0_isFull_21 : decode cX0_isFull 21 = .ok (.ldc2_w 37, 3) := by decide +kernel
theorem dX0_isFull_24 : decode cX0_isFull 24 = .ok (.lmul, 1) := by decide +kernel
theorem dX0_isFull_25 : decode cX0_isFull 25 = .ok (.lcmp, 1) := by decide +kernel
theorem dX0_isFull_26 : decode cX0_isFull 26 = .ok (.ifCond .ne 7, 3) := by decide +kernel
theorem dX0_isFull_29 : decode cX0_isFull 29 = .ok (.iconst 1, 1) := by decide +kernel
theorem dX0_isFull_30 : decode cX0_isFull 30 = .ok (.goto 4, 3) := by decide +kernel
theorem dX0_isFull_33 : decode cX0_isFull 33 = .ok (.iconst 0, 1) := by decide +kernel
theorem dX0_isFull_34 : decode cX0_isFull 34 = .ok (.ireturn, 1) := by decide +kernel
set_option maxRecDepth 20000 in
theorem ggX0_areFull_X0_isFull : GoodIn wsX0_areFull wsX0_isFull := goodIn_r _ [6, 7, 8, 9, 10, 11, 12, 13, 14, 15, 22, 23, 16, 17, 18, 19, 20, 21] (by decide +kernel) (by decide +kernel)
set_option maxRecDepth 20000 in
theorem gX0_areFull_X0_isFull : GoodIn wsX0_areFull (wsV RX0 65 RX0 yX0_isFull wsX0_isFull) := goodIn_app (goodIn_of _ (by decide +kernel)) ggX0_areFull_X0_isFull
theorem dX0_areFull_0 : decode cX0_areFull 0 = .ok (.iconst 0, 1) := by decide +kernel
theorem dX0_areFull_1 : decode cX0_areFull 1 = .ok (.istore_n 3, 1) := by decide +kernel
theorem dX0_areFull_2 : decode cX0_areFull 2 = .ok (.iload_n 3, 1) := by decide +kernel
theorem dX0_areFull_3 : decode cX0_areFull 3 = .ok (.aload_n 1, 1) := by decide +kernel
theorem dX0_areFull_4 : decode cX0_areFull 4 = .ok (.getfield 43, 3) := by decide +kernel
theorem dX0_areFull_7 : decode cX0_areFull 7 = .ok (.if_icmp .ge 29, 3) := by decide +kernel
theorem dX0_areFull_10 : decode cX0_areFull 10 = .ok (.iload_n 2, 1) := by decide +kernel
theorem dX0_areFull_11 : decode cX0_areFull 11 = .ok (.iload_n 3, 1) := by decide +kernel
theorem dX0_areFull_12 : decode cX0_areFull 12 = .ok (.ishr, 1) := by decide +kernel
theorem dX0_areFull_13 : decode cX0_areFull 13 = .ok (.iconst 1, 1) := by decide +kernel
theorem dX0_areFull_14 : decode cX0_areFull 14 = .ok (.iand, 1) := by decide +kernel
theorem dX0_areFull_15 : decode cX0_areFull 15 = .ok (.iconst 1, 1) := by decide +kernel
theorem dX0_areFull_16 : decode cX0_areFull 16 = .ok (.if_icmp .ne 14, 3) := by decide +kernel
theorem dX0_areFull_19 : decode cX0_areFull 19 = .ok (.aload_n 0, 1) := by decide +kernel
theorem dX0_areFull_20 : decode cX0_areFull 20 = .ok (.aload_n 1, 1) := by decide +kernel
theorem dX0_areFull_21 : decode cX0_areFull 21 = .ok (.iload_n 3, 1) := by decide +kernel
theorem dX0_areFull_22 : decode cX0_areFull 22 = .ok (.invokevirtual 65, 3) := by decide +kernel
theorem dX0_areFull_25 : decode cX0_areFull 25 = .ok (.ifCond .ne 5, 3) := by decide +kernel
theorem dX0_areFull_28 : decode cX0_areFull 28 = .ok (.iconst 0, 1) := by decide +kernel
theorem dX0_areFull_29 : decode cX0_areFull 29 = .ok (.ireturn, 1) := by decide +kernel
theorem dX0_areFull_30 : decode cX0_areFull 30 = .ok (.iinc 3 1, 3) := by decide +kernel
theorem dX0_areFull_33 : decode cX0_areFull 33 = .ok (.goto (-31), 3) := by decide +kernel
theorem dX0_areFull_36 : decode cX0_areFull 36 = .ok (.iconst 1, 1) := by decide +kernel
theorem dX0_areFull_37 : decode cX0_areFull 37 = .ok (.ireturn, 1) := by decide +kernel
set_option maxRecDepth 20000 in
theorem ggX0_howManyFull_X0_isFull : GoodIn wsX0_howManyFull wsX0_isFull := goodIn_r _ [6, 7, 8, 9, 10, 11, 12, 13, 14, 15, 22, 23, 16, 17, 18, 19, 20, 21] (by decide +kernel) (by decide +kernel)
set_option maxRecDepth 20000 in
theorem gX0_howManyFull_X0_isFull : GoodIn wsX0_howManyFull (wsV RX0 65 RX0 yX0_isFull wsX0_isFull) := goodIn_app (goodIn_of _ (by decide +kernel)) ggX0_howManyFull_X0_isFull
theorem dX0_howManyFull_0 : decode cX0_howManyFull 0 = .ok (.iconst 0, 1) := by decide +kernel
theorem dX0_howManyFull_1 : decode cX0_howManyFull 1 = .ok (.istore_n 2, 1) := by decide +kernel
theorem dX0_howManyFull_2 : decode cX0_howManyFull 2 = .ok (.iconst 0, 1) := by decide +kernel
theorem dX0_howManyFull_3 : decode cX0_howManyFull 3 = .ok (.istore_n 3, 1) := by decide +kernel
theorem dX0_howManyFull_4 : decode cX0_howManyFull 4 = .ok (.iload_n 3, 1) := by decide +kernel
theorem dX0_howManyFull_5 : decode cX0_howManyFull 5 = .ok (.aload_n 1, 1) := by decide +kernel
theorem dX0_howManyFull_6 : decode cX0_howManyFull 6 = .ok (.getfield 43, 3) := by decide +kernel
theorem dX0_howManyFull_9 : decode cX0_howManyFull 9 = .ok (.if_icmp .ge 21, 3) := by decide +kernel
theorem dX0_howManyFull_12 : decode cX0_howManyFull 12 = .ok (.aload_n 0, 1) := by decide +kernel
theorem dX0_howManyFull_13 : decode cX0_howManyFull 13 = .ok (.aload_n 1, 1) := by decide +kernel
theorem dX0_howManyFull_14 : decode cX0_howManyFull 14 = .ok (.iload_n 3, 1) := by decide +kernel
theorem dX0_howManyFull_15 : decode cX0_howManyFull 15 = .ok (.invokevirtual 65, 3) := by decide +kernel
theorem dX0_howManyFull_18 : decode cX0_howManyFull 18 = .ok (.ifCond .eq 6, 3) := by decide +kernel
theorem dX0_howManyFull_21 : decode cX0_howManyFull 21 = .ok (.iinc 2 1, 3) := by decide +kernel
theorem dX0_howManyFull_24 : decode cX0_howManyFull 24 = .ok (.iinc 3 1, 3) := by decide +kernel
theorem dX0_howManyFull_27 : decode cX0_howManyFull 27 = .ok (.goto (-23), 3) := by decide +kernel
theorem dX0_howManyFull_30 : decode cX0_howManyFull 30 = .ok (.iload_n 2, 1) := by decide +kernel
theorem dX0_howManyFull_31 : decode cX0_howManyFull 31 = .ok (.ireturn, 1) := by decide +kernel
theorem dX0_howManyWithNothing_0 : decode cX0_howManyWithNothing 0 = .ok (.iconst 0, 1) := by decide +kernel
theorem dX0_howManyWithNothing_1 : decode cX0_howManyWithNothing 1 = .ok (.istore_n 2, 1) := by decide +kernel
theorem dX0_howManyWithNothing_2 : decode cX0_howManyWithNothing 2 = .ok (.iconst 0, 1) := by decide +kernel
theorem dX0_howManyWithNothing_3 : decode cX0_howManyWithNothing 3 = .ok (.istore_n 3, 1) := by decide +kernel
theorem dX0_howManyWithNothing_4 : decode cX0_howManyWithNothing 4 = .ok (.iload_n 3, 1) := by decide +kernel
theorem dX0_howManyWithNothing_5 : decode cX0_howManyWithNothing 5 = .ok (.aload_n 1, 1) := by decide +kernel
theorem dX0_howManyWithNothing_6 : decode cX0_howManyWithNothing 6 = .ok (.getfield 43, 3) := by decide +kernel
theorem dX0_howManyWithNothing_9 : decode cX0_howManyWithNothing 9 = .ok (.if_icmp .ge 23, 3) := by decide +kernel
theorem dX0_howManyWithNothing_12 : decode cX0_howManyWithNothing 12 = .ok (.aload_n 0, 1) := by decide +kernel
theorem dX0_howManyWithNothing_13 : decode cX0_howManyWithNothing 13 = .ok (.getfield 9, 3) := by decide +kernel
theorem dX0_howManyWithNothing_16 : decode cX0_howManyWithNothing 16 = .ok (.iload_n 3, 1) := by decide +kernel
theorem dX0_howManyWithNothing_17 : decode cX0_howManyWithNothing 17 = .ok (.laload, 1) := by decide +kernel
theorem dX0_howManyWithNothing_18 : decode cX0_howManyWithNothing 18 = .ok (.lconst 0, 1) := by decide +kernel
theorem dX0_howManyWithNothing_19 : decode cX0_howManyWithNothing 19 = .ok (.lcmp, 1) := by decide +kernel
theorem dX0_howManyWithNothing_20 : decode cX0_howManyWithNothing 20 = .ok (.ifCond .ne 6, 3) := by decide +kernel
theorem dX0_howManyWithNothing_23 : decode cX0_howManyWithNothing 23 = .ok (.iinc 2 1, 3) := by decide +kernel
theorem dX0_howManyWithNothing_26 : decode cX0_howManyWithNothing 26 = .ok (.iinc 3 1, 3) := by decide +kernel
theorem dX0_howManyWithNothing_29 : decode cX0_howManyWithNothing 29 = .ok (.goto (-25), 3) := by decide +kernel
theorem dX0_howManyWithNothing_32 : decode cX0_howManyWithNothing 32 = .ok (.iload_n 2, 1) := by decide +kernel
theorem dX0_howManyWithNothing_33 : decode cX0_howManyWithNothing 33 = .ok (.ireturn, 1) := by decide +kernel
theorem dX0_areAlike_0 : decode cX0_areAlike 0 = .ok (.lconst 0, 1) := by decide +kernel
theorem dX0_areAlike_1 : decode cX0_areAlike 1 = .ok (.lstore_n 2, 1) := by decide +kernel
theorem dX0_areAlike_2 : decode cX0_areAlike 2 = .ok (.iconst 0, 1) := by decide +kernel
theorem dX0_areAlike_3 : decode cX0_areAlike 3 = .ok (.istore 4, 2) := by decide +kernel
theorem dX0_areAlike_5 : decode cX0_areAlike 5 = .ok (.iload 4, 2) := by decide +kernel
theorem dX0_areAlike_7 : decode cX0_areAlike 7 = .ok (.aload_n 0, 1) := by decide +kernel
theorem dX0_areAlike_8 : decode cX0_areAlike 8 = .ok (.getfield 9, 3) := by decide +kernel
theorem dX0_areAlike_11 : decode cX0_areAlike 11 = .ok (.arraylength, 1) := by decide +kernel
theorem dX0_areAlike_12 : decode cX0_areAlike 12 = .ok (.if_icmp .ge 59, 3) := by decide +kernel
theorem dX0_areAlike_15 : decode cX0_areAlike 15 = .ok (.iload_n 1, 1) := by decide +kernel
theorem dX0_areAlike_16 : decode cX0_areAlike 16 = .ok (.iload 4, 2) := by decide +kernel
theorem dX0_areAlike_18 : decode cX0_areAlike 18 = .ok (.ishr, 1) := by decide +kernel
theorem dX0_areAlike_19 : decode cX0_areAlike 19 = .ok (.iconst 1, 1) := by decide +kernel
theorem dX0_areAlike_20 : decode cX0_areAlike 20 = .ok (.iand, 1) := by decide +kernel
theorem dX0_areAlike_21 : decode cX0_areAlike 21 = .ok (.iconst 1, 1) := by decide +kernel
theorem dX0_areAlike_22 : decode cX0_areAlike 22 = .ok (.if_icmp .ne 43, 3) := by decide +kernel
theorem dX0_areAlike_25 : decode cX0_areAlike 25 = .ok (.aload_n 0, 1) := by decide +kernel
theorem dX0_areAlike_26 : decode cX0_areAlike 26 = .ok (.getfield 9, 3) := by decide +kernel
theorem dX0_areAlike_29 : decode cX0_areAlike 29 = .ok (.iload 4, 2) := by decide +kernel
theorem dX0_areAlike_31 : decode cX0_areAlike 31 = .ok (.laload, 1) := by decide +kernel
theorem dX0_areAlike_32 : decode cX0_areAlike 32 = .ok (.lconst 0, 1) := by decide +kernel
theorem dX0_areAlike_33 : decode cX0_areAlike 33 = .ok (.lcmp, 1) := by decide +kernel
theorem dX0_areAlike_34 : decode cX0_areAlike 34 = .ok (.ifCond .eq 21, 3) := by decide +kernel
theorem dX0_areAlike_37 : decode cX0_areAlike 37 = .ok (.lload_n 2, 1) := by decide +kernel
theorem dX0_areAlike_38 : decode cX0_areAlike 38 = .ok (.lconst 0, 1) := by decide +kernel
theorem dX0_areAlike_39 : decode cX0_areAlike 39 = .ok (.lcmp, 1) := by decide +kernel
theorem dX0_areAlike_40 : decode cX0_areAlike 40 = .ok (.ifCond .eq 17, 3) := by decide +kernel
theorem dX0_areAlike_43 : decode cX0_areAlike 43 = .ok (.aload_n 0, 1) := by decide +kernel
theorem dX0_areAlike_44 : decode cX0_areAlike 44 = .ok (.getfield 9, 3) := by decide +kernel
theorem dX0_areAlike_47 : decode cX0_areAlike 47 = .ok (.iload 4, 2) := by decide +kernel
theorem dX0_areAlike_49 : decode cX0_areAlike 49 = .ok (.laload, 1) := by decide +kernel
theorem dX0_areAlike_50 : decode cX0_areAlike 50 = .ok (.lload_n 2, 1) := by decide +kernel
theorem dX0_areAlike_51 : decode cX0_areAlike 51 = .ok (.lcmp, 1) := by decide +kernel
theorem dX0_areAlike_52 : decode cX0_areAlike 52 = .ok (.ifCond .eq 5, 3) := by decide +kernel
theorem dX0_areAlike_55 : decode cX0_areAlike 55 = .ok (.iconst 0, 1) := by decide +kernel
theorem dX0_areAlike_56 : decode cX0_areAlike 56 = .ok (.ireturn, 1) := by decide +kernel
theorem dX0_areAlike_57 : decode cX0_areAlike 57 = .ok (.aload_n 0, 1) := by decide +kernel
theorem dX0_areAlike_58 : decode cX0_areAlike 58 = .ok (.getfield 9, 3) := by decide +kernel
theorem dX0_areAlike_61 : decode cX0_areAlike 61 = .ok (.iload 4, 2) := by decide +kernel
theorem dX0_areAlike_63 : decode cX0_areAlike 63 = .ok (.laload, 1) := by decide +kernel
theorem dX0_areAlike_64 : decode cX0_areAlike 64 = .ok (.lstore_n 2, 1) := by decide +kernel
theorem dX0_areAlike_65 : decode cX0_areAlike 65 = .ok (.iinc 4 1, 3) := by decide +kernel
theorem dX0_areAlike_68 : decode cX0_areAlike 68 = .ok (.goto (-63), 3) := by decide +kernel
theorem dX0_areAlike_71 : decode cX0_areAlike 71 = .ok (.iconst 1, 1) := by decide +kernel
theorem dX0_areAlike_72 : decode cX0_areAlike 72 = .ok (.ireturn, 1) := by decide +kernel
theorem dX0_standsAs_0 : decode cX0_standsAs 0 = .ok (.iconst 0, 1) := by decide +kernel
theorem dX0_standsAs_1 : decode cX0_standsAs 1 = .ok (.istore_n 2, 1) := by decide +kernel
theorem dX0_standsAs_2 : decode cX0_standsAs 2 = .ok (.iload_n 2, 1) := by decide +kernel
theorem dX0_standsAs_3 : decode cX0_standsAs 3 = .ok (.aload_n 0, 1) := by decide +kernel
theorem dX0_standsAs_4 : decode cX0_standsAs 4 = .ok (.getfield 9, 3) := by decide +kernel
theorem dX0_standsAs_7 : decode cX0_standsAs 7 = .ok (.arraylength, 1) := by decide +kernel
theorem dX0_standsAs_8 : decode cX0_standsAs 8 = .ok (.if_icmp .ge 27, 3) := by decide +kernel
theorem dX0_standsAs_11 : decode cX0_standsAs 11 = .ok (.aload_n 0, 1) := by decide +kernel
theorem dX0_standsAs_12 : decode cX0_standsAs 12 = .ok (.getfield 9, 3) := by decide +kernel
theorem dX0_standsAs_15 : decode cX0_standsAs 15 = .ok (.iload_n 2, 1) := by decide +kernel
theorem dX0_standsAs_16 : decode cX0_standsAs 16 = .ok (.laload, 1) := by decide +kernel
theorem dX0_standsAs_17 : decode cX0_standsAs 17 = .ok (.aload_n 1, 1) := by decide +kernel
theorem dX0_standsAs_18 : decode cX0_standsAs 18 = .ok (.getfield 9, 3) := by decide +kernel
theorem dX0_standsAs_21 : decode cX0_standsAs 21 = .ok (.iload_n 2, 1) := by decide +kernel
theorem dX0_standsAs_22 : decode cX0_standsAs 22 = .ok (.laload, 1) := by decide +kernel
theorem dX0_standsAs_23 : decode cX0_standsAs 23 = .ok (.lcmp, 1) := by decide +kernel
theorem dX0_standsAs_24 : decode cX0_standsAs 24 = .ok (.ifCond .eq 5, 3) := by decide +kernel
theorem dX0_standsAs_27 : decode cX0_standsAs 27 = .ok (.iconst 0, 1) := by decide +kernel
theorem dX0_standsAs_28 : decode cX0_standsAs 28 = .ok (.ireturn, 1) := by decide +kernel
theorem dX0_standsAs_29 : decode cX0_standsAs 29 = .ok (.iinc 2 1, 3) := by decide +kernel
theorem dX0_standsAs_32 : decode cX0_standsAs 32 = .ok (.goto (-30), 3) := by decide +kernel
theorem dX0_standsAs_35 : decode cX0_standsAs 35 = .ok (.iconst 1, 1) := by decide +kernel
theorem dX0_standsAs_36 : decode cX0_standsAs 36 = .ok (.ireturn, 1) := by decide +kernel
theorem dX1_init_0 : decode cX1_init 0 = .ok (.aload_n 0, 1) := by decide +kernel
theorem dX1_init_1 : decode cX1_init 1 = .ok (.invokespecial 3, 3) := by decide +kernel
theorem dX1_init_4 : decode cX1_init 4 = .ok (.aload_n 0, 1) := by decide +kernel
theorem dX1_init_5 : decode cX1_init 5 = .ok (.bipush 70, 2) := by decide +kernel
theorem dX1_init_7 : decode cX1_init 7 = .ok (.newarray .char, 2) := by decide +kernel
theorem dX1_init_9 : decode cX1_init 9 = .ok (.putfield 9, 3) := by decide +kernel
theorem dX1_init_12 : decode cX1_init 12 = .ok (.return_, 1) := by decide +kernel
theorem dX1_write_0 : decode cX1_write 0 = .ok (.aload_n 0, 1) := by decide +kernel
theorem dX1_write_1 : decode cX1_write 1 = .ok (.getfield 15, 3) := by decide +kernel
theorem dX1_write_4 : decode cX1_write 4 = .ok (.aload_n 0, 1) := by decide +kernel
theorem dX1_write_5 : decode cX1_write 5 = .ok (.getfield 9, 3) := by decide +kernel
theorem dX1_write_8 : decode cX1_write 8 = .ok (.arraylength, 1) := by decide +kernel
theorem dX1_write_9 : decode cX1_write 9 = .ok (.if_icmp .ge 24, 3) := by decide +kernel
theorem dX1_write_12 : decode cX1_write 12 = .ok (.aload_n 0, 1) := by decide +kernel
theorem dX1_write_13 : decode cX1_write 13 = .ok (.getfield 9, 3) := by decide +kernel
theorem dX1_write_16 : decode cX1_write 16 = .ok (.aload_n 0, 1) := by decide +kernel
theorem dX1_write_17 : decode cX1_write 17 = .ok (.getfield 15, 3) := by decide +kernel
theorem dX1_write_20 : decode cX1_write 20 = .ok (.iload_n 1, 1) := by decide +kernel
theorem dX1_write_21 : decode cX1_write 21 = .ok (.i2c, 1) := by decide +kernel
theorem dX1_write_22 : decode cX1_write 22 = .ok (.castore, 1) := by decide +kernel
theorem dX1_write_23 : decode cX1_write 23 = .ok (.aload_n 0, 1) := by decide +kernel
theorem dX1_write_24 : decode cX1_write 24 = .ok (.dup, 1) := by decide +kernel
theorem dX1_write_25 : decode cX1_write 25 = .ok (.getfield 15, 3) := by decide +kernel
theorem dX1_write_28 : decode cX1_write 28 = .ok (.iconst 1, 1) := by decide +kernel
theorem dX1_write_29 : decode cX1_write 29 = .ok (.iadd, 1) := by decide +kernel
theorem dX1_write_30 : decode cX1_write 30 = .ok (.putfield 15, 3) := by decide +kernel
theorem dX1_write_33 : decode cX1_write 33 = .ok (.return_, 1) := by decide +kernel
theorem dX1_codeAt_0 : decode cX1_codeAt 0 = .ok (.iload_n 1, 1) := by decide +kernel
theorem dX1_codeAt_1 : decode cX1_codeAt 1 = .ok (.ifCond .lt 20, 3) := by decide +kernel
theorem dX1_codeAt_4 : decode cX1_codeAt 4 = .ok (.iload_n 1, 1) := by decide +kernel
theorem dX1_codeAt_5 : decode cX1_codeAt 5 = .ok (.aload_n 0, 1) := by decide +kernel
theorem dX1_codeAt_6 : decode cX1_codeAt 6 = .ok (.getfield 15, 3) := by decide +kernel
theorem dX1_codeAt_9 : decode cX1_codeAt 9 = .ok (.if_icmp .ge 12, 3) := by decide +kernel
theorem dX1_codeAt_12 : decode cX1_codeAt 12 = .ok (.aload_n 0, 1) := by decide +kernel
theorem dX1_codeAt_13 : decode cX1_codeAt 13 = .ok (.getfield 9, 3) := by decide +kernel
theorem dX1_codeAt_16 : decode cX1_codeAt 16 = .ok (.iload_n 1, 1) := by decide +kernel
theorem dX1_codeAt_17 : decode cX1_codeAt 17 = .ok (.caload, 1) := by decide +kernel
theorem dX1_codeAt_18 : decode cX1_codeAt 18 = .ok (.goto 4, 3) := by decide +kernel
theorem dX1_codeAt_21 : decode cX1_codeAt 21 = .ok (.iconst 0, 1) := by decide +kernel
theorem dX1_codeAt_22 : decode cX1_codeAt 22 = .ok (.ireturn, 1) := by decide +kernel
set_option maxRecDepth 20000 in
theorem ggX2_init_X3_init : GoodIn wsX2_init wsX3_init := goodIn_r _ [9, 10, 2, 3, 11, 12, 13, 14, 15, 16, 17, 18, 19, 20, 21, 22] (by decide +kernel) (by decide +kernel)
set_option maxRecDepth 20000 in
theorem gX2_init_X3_init_n11 : GoodIn wsX2_init (wsX3_init) := ggX2_init_X3_init
theorem dX2_init_0 : decode cX2_init 0 = .ok (.aload_n 0, 1) := by decide +kernel
theorem dX2_init_1 : decode cX2_init 1 = .ok (.invokespecial 3, 3) := by decide +kernel
theorem dX2_init_4 : decode cX2_init 4 = .ok (.aload_n 0, 1) := by decide +kernel
theorem dX2_init_5 : decode cX2_init 5 = .ok (.new 9, 3) := by decide +kernel
theorem dX2_init_8 : decode cX2_init 8 = .ok (.dup, 1) := by decide +kernel
theorem dX2_init_9 : decode cX2_init 9 = .ok (.invokespecial 11, 3) := by decide +kernel
theorem dX2_init_12 : decode cX2_init 12 = .ok (.putfield 12, 3) := by decide +kernel
theorem dX2_init_15 : decode cX2_init 15 = .ok (.return_, 1) := by decide +kernel
set_option maxRecDepth 20000 in
theorem ggX2_start_X3_putGlass : GoodIn wsX2_start wsX3_putGlass := goodIn_r _ [8, 9, 10, 11, 14, 15, 16, 17, 18, 19] (by decide +kernel) (by decide +kernel)
set_option maxRecDepth 20000 in
theorem gX2_start_X3_putGlass : GoodIn wsX2_start (wsV RX2 22 RX3 yX3_putGlass wsX3_putGlass) := goodIn_app (goodIn_of _ (by decide +kernel)) ggX2_start_X3_putGlass
theorem dX2_start_0 : decode cX2_start 0 = .ok (.aload_n 0, 1) := by decide +kernel
theorem dX2_start_1 : decode cX2_start 1 = .ok (.getfield 12, 3) := by decide +kernel
theorem dX2_start_4 : decode cX2_start 4 = .ok (.iconst 0, 1) := by decide +kernel
theorem dX2_start_5 : decode cX2_start 5 = .ok (.putfield 18, 3) := by decide +kernel
theorem dX2_start_8 : decode cX2_start 8 = .ok (.aload_n 0, 1) := by decide +kernel
theorem dX2_start_9 : decode cX2_start 9 = .ok (.getfield 12, 3) := by decide +kernel
theorem dX2_start_12 : decode cX2_start 12 = .ok (.invokevirtual 22, 3) := by decide +kernel
theorem dX2_start_15 : decode cX2_start 15 = .ok (.pop, 1) := by decide +kernel
theorem dX2_start_16 : decode cX2_start 16 = .ok (.aload_n 0, 1) := by decide +kernel
theorem dX2_start_17 : decode cX2_start 17 = .ok (.iconst 0, 1) := by decide +kernel
theorem dX2_start_18 : decode cX2_start 18 = .ok (.putfield 26, 3) := by decide +kernel
theorem dX2_start_21 : decode cX2_start 21 = .ok (.return_, 1) := by decide +kernel
set_option maxRecDepth 20000 in
theorem ggX2_goesOnWith_X2_readsKind : GoodIn wsX2_goesOnWith wsX2_readsKind := goodIn_r _ [6, 7, 1, 8, 9, 10, 11, 12, 13, 14, 15, 16, 17, 18, 19, 20, 21, 22, 23, 24, 25, 26, 27, 28, 29, 30, 31, 32, 33, 34, 35, 36, 37, 38, 39, 40, 41, 42, 43, 44, 45, 46, 47, 48, 49, 50, 51, 52, 53, 54, 55, 56, 57, 58, 59, 60, 61, 62, 63, 64, 65, 66, 67, 68, 69, 70, 71, 72, 73, 74, 75, 76, 77, 78, 79, 80, 81, 82, 83, 84, 85, 86, 87, 88, 89, 90, 91, 92, 93, 94, 95, 96, 97, 98, 99, 100, 101, 102, 103, 149, 150, 151, 152, 153, 154, 155, 156] (by decide +kernel) (by decide +kernel)
set_option maxRecDepth 20000 in
theorem gX2_goesOnWith_X2_readsKind : GoodIn wsX2_goesOnWith (wsV RX2 29 RX2 yX2_readsKind wsX2_readsKind) := goodIn_app (goodIn_of _ (by decide +kernel)) ggX2_goesOnWith_X2_readsKind
set_option maxRecDepth 20000 in
theorem ggX2_goesOnWith_X2_readsHolds : GoodIn wsX2_goesOnWith wsX2_readsHolds := goodIn_r _ [107, 7, 1, 108, 109, 110, 100, 111, 102, 112, 113, 103, 114, 115, 116, 149, 150, 151, 152, 153, 154, 155, 156] (by decide +kernel) (by decide +kernel)
set_option maxRecDepth 20000 in
theorem gX2_goesOnWith_X2_readsHolds : GoodIn wsX2_goesOnWith (wsV RX2 33 RX2 yX2_readsHolds wsX2_readsHolds) := goodIn_app (goodIn_of _ (by decide +kernel)) ggX2_goesOnWith_X2_readsHolds
set_option maxRecDepth 20000 in
theorem ggX2_goesOnWith_X2_readsColon : GoodIn wsX2_goesOnWith wsX2_readsColon := goodIn_r _ [120, 1, 149, 150] (by decide +kernel) (by decide +kernel)
set_option maxRecDepth 20000 in
theorem gX2_goesOnWith_X2_readsColon : GoodIn wsX2_goesOnWith (wsV RX2 36 RX2 yX2_readsColon wsX2_readsColon) := goodIn_app (goodIn_of _ (by decide +kernel)) ggX2_goesOnWith_X2_readsColon
set_option maxRecDepth 20000 in
theorem ggX2_goesOnWith_X2_readsNext : GoodIn wsX2_goesOnWith wsX2_readsNext := goodIn_r _ [124, 7, 1, 125, 126, 127, 100, 128, 102, 103, 129, 149, 150, 151, 152, 153, 154, 155, 156] (by decide +kernel) (by decide +kernel)
set_option maxRecDepth 20000 in
theorem gX2_goesOnWith_X2_readsNext : GoodIn wsX2_goesOnWith (wsV RX2 39 RX2 yX2_readsNext wsX2_readsNext) := goodIn_app (goodIn_of _ (by decide +kernel)) ggX2_goesOnWith_X2_readsNext
set_option maxRecDepth 20000 in
theorem ggX2_goesOnWith_X2_readsShare : GoodIn wsX2_goesOnWith wsX2_readsShare := goodIn_r _ [133, 7, 134, 135, 136, 137, 100, 138, 102, 139, 129, 140, 141, 142, 143, 149, 150, 151, 152, 153, 154, 155, 156] (by decide +kernel) (by decide +kernel)
set_option maxRecDepth 20000 in
theorem gX2_goesOnWith_X2_readsShare : GoodIn wsX2_goesOnWith (wsV RX2 42 RX2 yX2_readsShare wsX2_readsShare) := goodIn_app (goodIn_of _ (by decide +kernel)) ggX2_goesOnWith_X2_readsShare
set_option maxRecDepth 20000 in
theorem ggX2_goesOnWith_X2_mayEndGlass : GoodIn wsX2_goesOnWith wsX2_mayEndGlass := goodIn_r _ [147, 1, 7, 148, 141, 142, 100, 143, 102, 129, 149, 150, 151, 152, 153, 154, 155, 156] (by decide +kernel) (by decide +kernel)
set_option maxRecDepth 20000 in
theorem gX2_goesOnWith_X2_mayEndGlass : GoodIn wsX2_goesOnWith (wsV RX2 45 RX2 yX2_mayEndGlass wsX2_mayEndGlass) := goodIn_app (goodIn_of _ (by decide +kernel)) ggX2_goesOnWith_X2_mayEndGlass
theorem dX2_goesOnWith_0 : decode cX2_goesOnWith 0 = .ok (.aload_n 0, 1) := by decide +kernel
theorem dX2_goesOnWith_1 : decode cX2_goesOnWith 1 = .ok (.getfield 26, 3) := by decide +kernel
theorem dX2_goesOnWith_4 : decode cX2_goesOnWith 4 = .ok (.tableswitch 78 0 2 #[28, 50, 56], 28) := by decide +kernel
theorem dX2_goesOnWith_32 : decode cX2_goesOnWith 32 = .ok (.aload_n 0, 1) := by decide +kernel
theorem dX2_goesOnWith_33 : decode cX2_goesOnWith 33 = .ok (.iload_n 1, 1) := by decide +kernel
theorem dX2_goesOnWith_34 : decode cX2_goesOnWith 34 = .ok (.invokevirtual 29, 3) := by decide +kernel
theorem dX2_goesOnWith_37 : decode cX2_goesOnWith 37 = .ok (.ifCond .ne 11, 3) := by decide +kernel
theorem dX2_goesOnWith_40 : decode cX2_goesOnWith 40 = .ok (.aload_n 0, 1) := by decide +kernel
theorem dX2_goesOnWith_41 : decode cX2_goesOnWith 41 = .ok (.iload_n 1, 1) := by decide +kernel
theorem dX2_goesOnWith_42 : decode cX2_goesOnWith 42 = .ok (.invokevirtual 33, 3) := by decide +kernel
theorem dX2_goesOnWith_45 : decode cX2_goesOnWith 45 = .ok (.ifCond .eq 7, 3) := by decide +kernel
theorem dX2_goesOnWith_48 : decode cX2_goesOnWith 48 = .ok (.iconst 1, 1) := by decide +kernel
theorem dX2_goesOnWith_49 : decode cX2_goesOnWith 49 = .ok (.goto 4, 3) := by decide +kernel
theorem dX2_goesOnWith_52 : decode cX2_goesOnWith 52 = .ok (.iconst 0, 1) := by decide +kernel
theorem dX2_goesOnWith_53 : decode cX2_goesOnWith 53 = .ok (.ireturn, 1) := by decide +kernel
theorem dX2_goesOnWith_54 : decode cX2_goesOnWith 54 = .ok (.aload_n 0, 1) := by decide +kernel
theorem dX2_goesOnWith_55 : decode cX2_goesOnWith 55 = .ok (.iload_n 1, 1) := by decide +kernel
theorem dX2_goesOnWith_56 : decode cX2_goesOnWith 56 = .ok (.invokevirtual 33, 3) := by decide +kernel
theorem dX2_goesOnWith_59 : decode cX2_goesOnWith 59 = .ok (.ireturn, 1) := by decide +kernel
theorem dX2_goesOnWith_60 : decode cX2_goesOnWith 60 = .ok (.aload_n 0, 1) := by decide +kernel
theorem dX2_goesOnWith_61 : decode cX2_goesOnWith 61 = .ok (.iload_n 1, 1) := by decide +kernel
theorem dX2_goesOnWith_62 : decode cX2_goesOnWith 62 = .ok (.invokevirtual 36, 3) := by decide +kernel
theorem dX2_goesOnWith_65 : decode cX2_goesOnWith 65 = .ok (.ifCond .ne 11, 3) := by decide +kernel
theorem dX2_goesOnWith_68 : decode cX2_goesOnWith 68 = .ok (.aload_n 0, 1) := by decide +kernel
theorem dX2_goesOnWith_69 : decode cX2_goesOnWith 69 = .ok (.iload_n 1, 1) := by decide +kernel
theorem dX2_goesOnWith_70 : decode cX2_goesOnWith 70 = .ok (.invokevirtual 39, 3) := by decide +kernel
theorem dX2_goesOnWith_73 : decode cX2_goesOnWith 73 = .ok (.ifCond .eq 7, 3) := by decide +kernel
theorem dX2_goesOnWith_76 : decode cX2_goesOnWith 76 = .ok (.iconst 1, 1) := by decide +kernel
theorem dX2_goesOnWith_77 : decode cX2_goesOnWith 77 = .ok (.goto 4, 3) := by decide +kernel
theorem dX2_goesOnWith_80 : decode cX2_goesOnWith 80 = .ok (.iconst 0, 1) := by decide +kernel
theorem dX2_goesOnWith_81 : decode cX2_goesOnWith 81 = .ok (.ireturn, 1) := by decide +kernel
theorem dX2_goesOnWith_82 : decode cX2_goesOnWith 82 = .ok (.aload_n 0, 1) := by decide +kernel
theorem dX2_goesOnWith_83 : decode cX2_goesOnWith 83 = .ok (.iload_n 1, 1) := by decide +kernel
theorem dX2_goesOnWith_84 : decode cX2_goesOnWith 84 = .ok (.invokevirtual 42, 3) := by decide +kernel
theorem dX2_goesOnWith_87 : decode cX2_goesOnWith 87 = .ok (.ifCond .ne 18, 3) := by decide +kernel
theorem dX2_goesOnWith_90 : decode cX2_goesOnWith 90 = .ok (.aload_n 0, 1) := by decide +kernel
theorem dX2_goesOnWith_91 : decode cX2_goesOnWith 91 = .ok (.invokevirtual 45, 3) := by decide +kernel
theorem dX2_goesOnWith_94 : decode cX2_goesOnWith 94 = .ok (.ifCond .eq 15, 3) := by decide +kernel
theorem dX2_goesOnWith_97 : decode cX2_goesOnWith 97 = .ok (.aload_n 0, 1) := by decide +kernel
theorem dX2_goesOnWith_98 : decode cX2_goesOnWith 98 = .ok (.iload_n 1, 1) := by decide +kernel
theorem dX2_goesOnWith_99 : decode cX2_goesOnWith 99 = .ok (.invokevirtual 39, 3) := by decide +kernel
theorem dX2_goesOnWith_102 : decode cX2_goesOnWith 102 = .ok (.ifCond .eq 7, 3) := by decide +kernel
theorem dX2_goesOnWith_105 : decode cX2_goesOnWith 105 = .ok (.iconst 1, 1) := by decide +kernel
theorem dX2_goesOnWith_106 : decode cX2_goesOnWith 106 = .ok (.goto 4, 3) := by decide +kernel
theorem dX2_goesOnWith_109 : decode cX2_goesOnWith 109 = .ok (.iconst 0, 1) := by decide +kernel
theorem dX2_goesOnWith_110 : decode cX2_goesOnWith 110 = .ok (.ireturn, 1) := by decide +kernel
set_option maxRecDepth 20000 in
theorem ggX2_mayEnd_X2_mayEndGlass : GoodIn wsX2_mayEnd wsX2_mayEndGlass := goodIn_r _ [6, 7, 1, 8, 9, 10, 11, 12, 13, 14, 28, 29, 30, 31, 32, 33, 34, 35] (by decide +kernel) (by decide +kernel)
set_option maxRecDepth 20000 in
theorem gX2_mayEnd_X2_mayEndGlass : GoodIn wsX2_mayEnd (wsV RX2 45 RX2 yX2_mayEndGlass wsX2_mayEndGlass) := goodIn_app (goodIn_of _ (by decide +kernel)) ggX2_mayEnd_X2_mayEndGlass
set_option maxRecDepth 20000 in
theorem ggX2_mayEnd_X3_hasAllShares : GoodIn wsX2_mayEnd wsX3_hasAllShares := goodIn_r _ [18, 13, 14, 19, 20, 21, 11, 22, 23, 24, 25, 26, 27, 30, 31, 32, 33, 34, 35] (by decide +kernel) (by decide +kernel)
set_option maxRecDepth 20000 in
theorem gX2_mayEnd_X3_hasAllShares : GoodIn wsX2_mayEnd (wsV RX2 48 RX3 yX3_hasAllShares wsX3_hasAllShares) := goodIn_app (goodIn_of _ (by decide +kernel)) ggX2_mayEnd_X3_hasAllShares
theorem dX2_mayEnd_0 : decode cX2_mayEnd 0 = .ok (.aload_n 0, 1) := by decide +kernel
theorem dX2_mayEnd_1 : decode cX2_mayEnd 1 = .ok (.invokevirtual 45, 3) := by decide +kernel
theorem dX2_mayEnd_4 : decode cX2_mayEnd 4 = .ok (.ifCond .eq 17, 3) := by decide +kernel
theorem dX2_mayEnd_7 : decode cX2_mayEnd 7 = .ok (.aload_n 0, 1) := by decide +kernel
theorem dX2_mayEnd_8 : decode cX2_mayEnd 8 = .ok (.getfield 12, 3) := by decide +kernel
theorem dX2_mayEnd_11 : decode cX2_mayEnd 11 = .ok (.invokevirtual 48, 3) := by decide +kernel
theorem dX2_mayEnd_14 : decode cX2_mayEnd 14 = .ok (.ifCond .eq 7, 3) := by decide +kernel
theorem dX2_mayEnd_17 : decode cX2_mayEnd 17 = .ok (.iconst 1, 1) := by decide +kernel
theorem dX2_mayEnd_18 : decode cX2_mayEnd 18 = .ok (.goto 4, 3) := by decide +kernel
theorem dX2_mayEnd_21 : decode cX2_mayEnd 21 = .ok (.iconst 0, 1) := by decide +kernel
theorem dX2_mayEnd_22 : decode cX2_mayEnd 22 = .ok (.ireturn, 1) := by decide +kernel
set_option maxRecDepth 20000 in
theorem ggX2_mayEndGlass_X3_lastShareCount : GoodIn wsX2_mayEndGlass wsX3_lastShareCount := goodIn_r _ [7, 8, 9, 12, 13, 14, 15, 16, 17] (by decide +kernel) (by decide +kernel)
set_option maxRecDepth 20000 in
theorem gX2_mayEndGlass_X3_lastShareCount : GoodIn wsX2_mayEndGlass (wsV RX2 51 RX3 yX3_lastShareCount wsX3_lastShareCount) := goodIn_app (goodIn_of _ (by decide +kernel)) ggX2_mayEndGlass_X3_lastShareCount
theorem dX2_mayEndGlass_0 : decode cX2_mayEndGlass 0 = .ok (.aload_n 0, 1) := by decide +kernel
theorem dX2_mayEndGlass_1 : decode cX2_mayEndGlass 1 = .ok (.getfield 26, 3) := by decide +kernel
theorem dX2_mayEndGlass_4 : decode cX2_mayEndGlass 4 = .ok (.iconst 2, 1) := by decide +kernel
theorem dX2_mayEndGlass_5 : decode cX2_mayEndGlass 5 = .ok (.if_icmp .eq 21, 3) := by decide +kernel
theorem dX2_mayEndGlass_8 : decode cX2_mayEndGlass 8 = .ok (.aload_n 0, 1) := by decide +kernel
theorem dX2_mayEndGlass_9 : decode cX2_mayEndGlass 9 = .ok (.getfield 26, 3) := by decide +kernel
theorem dX2_mayEndGlass_12 : decode cX2_mayEndGlass 12 = .ok (.iconst 3, 1) := by decide +kernel
theorem dX2_mayEndGlass_13 : decode cX2_mayEndGlass 13 = .ok (.if_icmp .ne 17, 3) := by decide +kernel
theorem dX2_mayEndGlass_16 : decode cX2_mayEndGlass 16 = .ok (.aload_n 0, 1) := by decide +kernel
theorem dX2_mayEndGlass_17 : decode cX2_mayEndGlass 17 = .ok (.getfield 12, 3) := by decide +kernel
theorem dX2_mayEndGlass_20 : decode cX2_mayEndGlass 20 = .ok (.invokevirtual 51, 3) := by decide +kernel
theorem dX2_mayEndGlass_23 : decode cX2_mayEndGlass 23 = .ok (.ifCond .le 7, 3) := by decide +kernel
theorem dX2_mayEndGlass_26 : decode cX2_mayEndGlass 26 = .ok (.iconst 1, 1) := by decide +kernel
theorem dX2_mayEndGlass_27 : decode cX2_mayEndGlass 27 = .ok (.goto 4, 3) := by decide +kernel
theorem dX2_mayEndGlass_30 : decode cX2_mayEndGlass 30 = .ok (.iconst 0, 1) := by decide +kernel
theorem dX2_mayEndGlass_31 : decode cX2_mayEndGlass 31 = .ok (.ireturn, 1) := by decide +kernel
set_option maxRecDepth 20000 in
theorem ggX2_readsKind_J0_indexOf_0f7a4 : GoodIn wsX2_readsKind wsJ0_indexOf_0f7a4 := goodIn_r _ [7, 8, 9, 10, 6, 11, 12, 13, 14, 15, 16, 17, 18, 19, 20, 21, 22, 23, 24, 25, 26, 27, 28, 29, 30, 31, 32, 33, 34, 35, 36, 37, 38, 39, 40, 41, 42, 43, 44, 45, 46, 47, 48, 49, 50, 51, 52, 53, 54, 55, 56, 57, 58, 59, 60, 61, 62, 63, 64, 65, 66, 67, 68, 69, 70, 71, 72, 73, 74, 75, 76, 77, 78, 79, 80, 81, 82, 83, 84, 85, 86, 87, 88, 89, 90, 91] (by decide +kernel) (by decide +kernel)
set_option maxRecDepth 20000 in
theorem gX2_readsKind_J0_indexOf_0f7a4 : GoodIn wsX2_readsKind (wsV RX2 57 RJ0 yJ0_indexOf_0f7a4 wsJ0_indexOf_0f7a4) := goodIn_app (goodIn_of _ (by decide +kernel)) ggX2_readsKind_J0_indexOf_0f7a4
set_option maxRecDepth 20000 in
theorem ggX2_readsKind_X3_tellKind : GoodIn wsX2_readsKind wsX3_tellKind := goodIn_r _ [96, 97, 98, 101, 102, 103, 104, 105, 106] (by decide +kernel) (by decide +kernel)
set_option maxRecDepth 20000 in
theorem gX2_readsKind_X3_tellKind : GoodIn wsX2_readsKind (wsV RX2 63 RX3 yX3_tellKind wsX3_tellKind) := goodIn_app (goodIn_of _ (by decide +kernel)) ggX2_readsKind_X3_tellKind
theorem dX2_readsKind_0 : decode cX2_readsKind 0 = .ok (.ldc 55, 2) := by decide +kernel
theorem dX2_readsKind_2 : decode cX2_readsKind 2 = .ok (.iload_n 1, 1) := by decide +kernel
theorem dX2_readsKind_3 : decode cX2_readsKind 3 = .ok (.invokevirtual 57, 3) := by decide +kernel
theorem dX2_readsKind_6 : decode cX2_readsKind 6 = .ok (.iconst 1, 1) := by decide +kernel
theorem dX2_readsKind_7 : decode cX2_readsKind 7 = .ok (.iadd, 1) := by decide +kernel
theorem dX2_readsKind_8 : decode cX2_readsKind 8 = .ok (.istore_n 2, 1) := by decide +kernel
theorem dX2_readsKind_9 : decode cX2_readsKind 9 = .ok (.iload_n 2, 1) := by decide +kernel
theorem dX2_readsKind_10 : decode cX2_readsKind 10 = .ok (.ifCond .ne 5, 3) := by decide +kernel
theorem dX2_readsKind_13 : decode cX2_readsKind 13 = .ok (.iconst 0, 1) := by decide +kernel
theorem dX2_readsKind_14 : decode cX2_readsKind 14 = .ok (.ireturn, 1) := by decide +kernel
theorem dX2_readsKind_15 : decode cX2_readsKind 15 = .ok (.aload_n 0, 1) := by decide +kernel
theorem dX2_readsKind_16 : decode cX2_readsKind 16 = .ok (.getfield 12, 3) := by decide +kernel
theorem dX2_readsKind_19 : decode cX2_readsKind 19 = .ok (.iload_n 2, 1) := by decide +kernel
theorem dX2_readsKind_20 : decode cX2_readsKind 20 = .ok (.invokevirtual 63, 3) := by decide +kernel
theorem dX2_readsKind_23 : decode cX2_readsKind 23 = .ok (.aload_n 0, 1) := by decide +kernel
theorem dX2_readsKind_24 : decode cX2_readsKind 24 = .ok (.iconst 1, 1) := by decide +kernel
theorem dX2_readsKind_25 : decode cX2_readsKind 25 = .ok (.putfield 26, 3) := by decide +kernel
theorem dX2_readsKind_28 : decode cX2_readsKind 28 = .ok (.iconst 1, 1) := by decide +kernel
theorem dX2_readsKind_29 : decode cX2_readsKind 29 = .ok (.ireturn, 1) := by decide +kernel
set_option maxRecDepth 20000 in
theorem ggX2_readsHolds_X3_tellHolds : GoodIn wsX2_readsHolds wsX3_tellHolds := goodIn_r _ [7, 8, 9, 10, 11, 12, 13, 14, 17, 18, 19, 20, 21, 22] (by decide +kernel) (by decide +kernel)
set_option maxRecDepth 20000 in
theorem gX2_readsHolds_X3_tellHolds : GoodIn wsX2_readsHolds (wsV RX2 67 RX3 yX3_tellHolds wsX3_tellHolds) := goodIn_app (goodIn_of _ (by decide +kernel)) ggX2_readsHolds_X3_tellHolds
theorem dX2_readsHolds_0 : decode cX2_readsHolds 0 = .ok (.iload_n 1, 1) := by decide +kernel
theorem dX2_readsHolds_1 : decode cX2_readsHolds 1 = .ok (.bipush 49, 2) := by decide +kernel
theorem dX2_readsHolds_3 : decode cX2_readsHolds 3 = .ok (.if_icmp .lt 9, 3) := by decide +kernel
theorem dX2_readsHolds_6 : decode cX2_readsHolds 6 = .ok (.iload_n 1, 1) := by decide +kernel
theorem dX2_readsHolds_7 : decode cX2_readsHolds 7 = .ok (.bipush 57, 2) := by decide +kernel
theorem dX2_readsHolds_9 : decode cX2_readsHolds 9 = .ok (.if_icmp .le 5, 3) := by decide +kernel
theorem dX2_readsHolds_12 : decode cX2_readsHolds 12 = .ok (.iconst 0, 1) := by decide +kernel
theorem dX2_readsHolds_13 : decode cX2_readsHolds 13 = .ok (.ireturn, 1) := by decide +kernel
theorem dX2_readsHolds_14 : decode cX2_readsHolds 14 = .ok (.aload_n 0, 1) := by decide +kernel
theorem dX2_readsHolds_15 : decode cX2_readsHolds 15 = .ok (.getfield 12, 3) := by decide +kernel
theorem dX2_readsHolds_18 : decode cX2_readsHolds 18 = .ok (.iload_n 1, 1) := by decide +kernel
theorem dX2_readsHolds_19 : decode cX2_readsHolds 19 = .ok (.bipush 48, 2) := by decide +kernel
theorem dX2_readsHolds_21 : decode cX2_readsHolds 21 = .ok (.isub, 1) := by decide +kernel
theorem dX2_readsHolds_22 : decode cX2_readsHolds 22 = .ok (.invokevirtual 67, 3) := by decide +kernel
theorem dX2_readsHolds_25 : decode cX2_readsHolds 25 = .ok (.aload_n 0, 1) := by decide +kernel
theorem dX2_readsHolds_26 : decode cX2_readsHolds 26 = .ok (.iconst 2, 1) := by decide +kernel
theorem dX2_readsHolds_27 : decode cX2_readsHolds 27 = .ok (.putfield 26, 3) := by decide +kernel
theorem dX2_readsHolds_30 : decode cX2_readsHolds 30 = .ok (.iconst 1, 1) := by decide +kernel
theorem dX2_readsHolds_31 : decode cX2_readsHolds 31 = .ok (.ireturn, 1) := by decide +kernel
theorem dX2_readsColon_0 : decode cX2_readsColon 0 = .ok (.iload_n 1, 1) := by decide +kernel
theorem dX2_readsColon_1 : decode cX2_readsColon 1 = .ok (.bipush 58, 2) := by decide +kernel
theorem dX2_readsColon_3 : decode cX2_readsColon 3 = .ok (.if_icmp .eq 5, 3) := by decide +kernel
theorem dX2_readsColon_6 : decode cX2_readsColon 6 = .ok (.iconst 0, 1) := by decide +kernel
theorem dX2_readsColon_7 : decode cX2_readsColon 7 = .ok (.ireturn, 1) := by decide +kernel
theorem dX2_readsColon_8 : decode cX2_readsColon 8 = .ok (.aload_n 0, 1) := by decide +kernel
theorem dX2_readsColon_9 : decode cX2_readsColon 9 = .ok (.iconst 3, 1) := by decide +kernel
theorem dX2_readsColon_10 : decode cX2_readsColon 10 = .ok (.putfield 26, 3) := by decide +kernel
theorem dX2_readsColon_13 : decode cX2_readsColon 13 = .ok (.iconst 1, 1) := by decide +kernel
theorem dX2_readsColon_14 : decode cX2_readsColon 14 = .ok (.ireturn, 1) := by decide +kernel
set_option maxRecDepth 20000 in
theorem ggX2_readsShare_X3_tellShare : GoodIn wsX2_readsShare wsX3_tellShare := goodIn_r _ [7, 8, 9, 10, 11, 12, 13, 6, 14, 17, 18, 19, 20, 21, 22] (by decide +kernel) (by decide +kernel)
set_option maxRecDepth 20000 in
theorem gX2_readsShare_X3_tellShare : GoodIn wsX2_readsShare (wsV RX2 70 RX3 yX3_tellShare wsX3_tellShare) := goodIn_app (goodIn_of _ (by decide +kernel)) ggX2_readsShare_X3_tellShare
theorem dX2_readsShare_0 : decode cX2_readsShare 0 = .ok (.iload_n 1, 1) := by decide +kernel
theorem dX2_readsShare_1 : decode cX2_readsShare 1 = .ok (.bipush 45, 2) := by decide +kernel
theorem dX2_readsShare_3 : decode cX2_readsShare 3 = .ok (.if_icmp .ne 13, 3) := by decide +kernel
theorem dX2_readsShare_6 : decode cX2_readsShare 6 = .ok (.aload_n 0, 1) := by decide +kernel
theorem dX2_readsShare_7 : decode cX2_readsShare 7 = .ok (.getfield 12, 3) := by decide +kernel
theorem dX2_readsShare_10 : decode cX2_readsShare 10 = .ok (.bipush 9, 2) := by decide +kernel
theorem dX2_readsShare_12 : decode cX2_readsShare 12 = .ok (.invokevirtual 70, 3) := by decide +kernel
theorem dX2_readsShare_15 : decode cX2_readsShare 15 = .ok (.ireturn, 1) := by decide +kernel
theorem dX2_readsShare_16 : decode cX2_readsShare 16 = .ok (.iload_n 1, 1) := by decide +kernel
theorem dX2_readsShare_17 : decode cX2_readsShare 17 = .ok (.bipush 48, 2) := by decide +kernel
theorem dX2_readsShare_19 : decode cX2_readsShare 19 = .ok (.isub, 1) := by decide +kernel
theorem dX2_readsShare_20 : decode cX2_readsShare 20 = .ok (.istore_n 2, 1) := by decide +kernel
theorem dX2_readsShare_21 : decode cX2_readsShare 21 = .ok (.iload_n 2, 1) := by decide +kernel
theorem dX2_readsShare_22 : decode cX2_readsShare 22 = .ok (.aload_n 0, 1) := by decide +kernel
theorem dX2_readsShare_23 : decode cX2_readsShare 23 = .ok (.getfield 12, 3) := by decide +kernel
theorem dX2_readsShare_26 : decode cX2_readsShare 26 = .ok (.getfield 18, 3) := by decide +kernel
theorem dX2_readsShare_29 : decode cX2_readsShare 29 = .ok (.if_icmp .lt 24, 3) := by decide +kernel
theorem dX2_readsShare_32 : decode cX2_readsShare 32 = .ok (.iload_n 2, 1) := by decide +kernel
theorem dX2_readsShare_33 : decode cX2_readsShare 33 = .ok (.bipush 9, 2) := by decide +kernel
theorem dX2_readsShare_35 : decode cX2_readsShare 35 = .ok (.if_icmp .ge 18, 3) := by decide +kernel
theorem dX2_readsShare_38 : decode cX2_readsShare 38 = .ok (.aload_n 0, 1) := by decide +kernel
theorem dX2_readsShare_39 : decode cX2_readsShare 39 = .ok (.getfield 12, 3) := by decide +kernel
theorem dX2_readsShare_42 : decode cX2_readsShare 42 = .ok (.iload_n 2, 1) := by decide +kernel
theorem dX2_readsShare_43 : decode cX2_readsShare 43 = .ok (.invokevirtual 70, 3) := by decide +kernel
theorem dX2_readsShare_46 : decode cX2_readsShare 46 = .ok (.ifCond .eq 7, 3) := by decide +kernel
theorem dX2_readsShare_49 : decode cX2_readsShare 49 = .ok (.iconst 1, 1) := by decide +kernel
theorem dX2_readsShare_50 : decode cX2_readsShare 50 = .ok (.goto 4, 3) := by decide +kernel
theorem dX2_readsShare_53 : decode cX2_readsShare 53 = .ok (.iconst 0, 1) := by decide +kernel
theorem dX2_readsShare_54 : decode cX2_readsShare 54 = .ok (.ireturn, 1) := by decide +kernel
set_option maxRecDepth 20000 in
theorem ggX2_readsNext_X3_putGlass : GoodIn wsX2_readsNext wsX3_putGlass := goodIn_r _ [7, 8, 9, 10, 13, 14, 15, 16, 17, 18] (by decide +kernel) (by decide +kernel)
set_option maxRecDepth 20000 in
theorem gX2_readsNext_X3_putGlass : GoodIn wsX2_readsNext (wsV RX2 22 RX3 yX3_putGlass wsX3_putGlass) := goodIn_app (goodIn_of _ (by decide +kernel)) ggX2_readsNext_X3_putGlass
theorem dX2_readsNext_0 : decode cX2_readsNext 0 = .ok (.iload_n 1, 1) := by decide +kernel
theorem dX2_readsNext_1 : decode cX2_readsNext 1 = .ok (.bipush 47, 2) := by decide +kernel
theorem dX2_readsNext_3 : decode cX2_readsNext 3 = .ok (.if_icmp .ne 13, 3) := by decide +kernel
theorem dX2_readsNext_6 : decode cX2_readsNext 6 = .ok (.aload_n 0, 1) := by decide +kernel
theorem dX2_readsNext_7 : decode cX2_readsNext 7 = .ok (.getfield 12, 3) := by decide +kernel
theorem dX2_readsNext_10 : decode cX2_readsNext 10 = .ok (.invokevirtual 22, 3) := by decide +kernel
theorem dX2_readsNext_13 : decode cX2_readsNext 13 = .ok (.ifCond .ne 5, 3) := by decide +kernel
theorem dX2_readsNext_16 : decode cX2_readsNext 16 = .ok (.iconst 0, 1) := by decide +kernel
theorem dX2_readsNext_17 : decode cX2_readsNext 17 = .ok (.ireturn, 1) := by decide +kernel
theorem dX2_readsNext_18 : decode cX2_readsNext 18 = .ok (.aload_n 0, 1) := by decide +kernel
theorem dX2_readsNext_19 : decode cX2_readsNext 19 = .ok (.iconst 0, 1) := by decide +kernel
theorem dX2_readsNext_20 : decode cX2_readsNext 20 = .ok (.putfield 26, 3) := by decide +kernel
theorem dX2_readsNext_23 : decode cX2_readsNext 23 = .ok (.iconst 1, 1) := by decide +kernel
theorem dX2_readsNext_24 : decode cX2_readsNext 24 = .ok (.ireturn, 1) := by decide +kernel
theorem dX3_init_0 : decode cX3_init 0 = .ok (.aload_n 0, 1) := by decide +kernel
theorem dX3_init_1 : decode cX3_init 1 = .ok (.invokespecial 3, 3) := by decide +kernel
theorem dX3_init_4 : decode cX3_init 4 = .ok (.aload_n 0, 1) := by decide +kernel
theorem dX3_init_5 : decode cX3_init 5 = .ok (.bipush 9, 2) := by decide +kernel
theorem dX3_init_7 : decode cX3_init 7 = .ok (.newarray .int, 2) := by decide +kernel
theorem dX3_init_9 : decode cX3_init 9 = .ok (.putfield 9, 3) := by decide +kernel
theorem dX3_init_12 : decode cX3_init 12 = .ok (.aload_n 0, 1) := by decide +kernel
theorem dX3_init_13 : decode cX3_init 13 = .ok (.bipush 9, 2) := by decide +kernel
theorem dX3_init_15 : decode cX3_init 15 = .ok (.newarray .int, 2) := by decide +kernel
theorem dX3_init_17 : decode cX3_init 17 = .ok (.putfield 15, 3) := by decide +kernel
theorem dX3_init_20 : decode cX3_init 20 = .ok (.aload_n 0, 1) := by decide +kernel
theorem dX3_init_21 : decode cX3_init 21 = .ok (.bipush 9, 2) := by decide +kernel
theorem dX3_init_23 : decode cX3_init 23 = .ok (.newarray .int, 2) := by decide +kernel
theorem dX3_init_25 : decode cX3_init 25 = .ok (.putfield 18, 3) := by decide +kernel
theorem dX3_init_28 : decode cX3_init 28 = .ok (.aload_n 0, 1) := by decide +kernel
theorem dX3_init_29 : decode cX3_init 29 = .ok (.bipush 9, 2) := by decide +kernel
theorem dX3_init_31 : decode cX3_init 31 = .ok (.newarray .int, 2) := by decide +kernel
theorem dX3_init_33 : decode cX3_init 33 = .ok (.putfield 21, 3) := by decide +kernel
theorem dX3_init_36 : decode cX3_init 36 = .ok (.aload_n 0, 1) := by decide +kernel
theorem dX3_init_37 : decode cX3_init 37 = .ok (.bipush 27, 2) := by decide +kernel
theorem dX3_init_39 : decode cX3_init 39 = .ok (.newarray .int, 2) := by decide +kernel
theorem dX3_init_41 : decode cX3_init 41 = .ok (.putfield 24, 3) := by decide +kernel
theorem dX3_init_44 : decode cX3_init 44 = .ok (.return_, 1) := by decide +kernel
theorem dX3_copyFrom_0 : decode cX3_copyFrom 0 = .ok (.aload_n 1, 1) := by decide +kernel
theorem dX3_copyFrom_1 : decode cX3_copyFrom 1 = .ok (.getfield 9, 3) := by decide +kernel
theorem dX3_copyFrom_4 : decode cX3_copyFrom 4 = .ok (.iconst 0, 1) := by decide +kernel
theorem dX3_copyFrom_5 : decode cX3_copyFrom 5 = .ok (.aload_n 0, 1) := by decide +kernel
theorem dX3_copyFrom_6 : decode cX3_copyFrom 6 = .ok (.getfield 9, 3) := by decide +kernel
theorem dX3_copyFrom_9 : decode cX3_copyFrom 9 = .ok (.iconst 0, 1) := by decide +kernel
theorem dX3_copyFrom_10 : decode cX3_copyFrom 10 = .ok (.bipush 9, 2) := by decide +kernel
theorem dX3_copyFrom_12 : decode cX3_copyFrom 12 = .ok (.invokestatic 27, 3) := by decide +kernel
theorem dX3_copyFrom_15 : decode cX3_copyFrom 15 = .ok (.aload_n 1, 1) := by decide +kernel
theorem dX3_copyFrom_16 : decode cX3_copyFrom 16 = .ok (.getfield 15, 3) := by decide +kernel
theorem dX3_copyFrom_19 : decode cX3_copyFrom 19 = .ok (.iconst 0, 1) := by decide +kernel
theorem dX3_copyFrom_20 : decode cX3_copyFrom 20 = .ok (.aload_n 0, 1) := by decide +kernel
theorem dX3_copyFrom_21 : decode cX3_copyFrom 21 = .ok (.getfield 15, 3) := by decide +kernel
theorem dX3_copyFrom_24 : decode cX3_copyFrom 24 = .ok (.iconst 0, 1) := by decide +kernel
theorem dX3_copyFrom_25 : decode cX3_copyFrom 25 = .ok (.bipush 9, 2) := by decide +kernel
theorem dX3_copyFrom_27 : decode cX3_copyFrom 27 = .ok (.invokestatic 27, 3) := by decide +kernel
theorem dX3_copyFrom_30 : decode cX3_copyFrom 30 = .ok (.aload_n 1, 1) := by decide +kernel
theorem dX3_copyFrom_31 : decode cX3_copyFrom 31 = .ok (.getfield 18, 3) := by decide +kernel
theorem dX3_copyFrom_34 : decode cX3_copyFrom 34 = .ok (.iconst 0, 1) := by decide +kernel
theorem dX3_copyFrom_35 : decode cX3_copyFrom 35 = .ok (.aload_n 0, 1) := by decide +kernel
theorem dX3_copyFrom_36 : decode cX3_copyFrom 36 = .ok (.getfield 18, 3) := by decide +kernel
theorem dX3_copyFrom_39 : decode cX3_copyFrom 39 = .ok (.iconst 0, 1) := by decide +kernel
theorem dX3_copyFrom_40 : decode cX3_copyFrom 40 = .ok (.bipush 9, 2) := by decide +kernel
theorem dX3_copyFrom_42 : decode cX3_copyFrom 42 = .ok (.invokestatic 27, 3) := by decide +kernel
theorem dX3_copyFrom_45 : decode cX3_copyFrom 45 = .ok (.aload_n 1, 1) := by decide +kernel
theorem dX3_copyFrom_46 : decode cX3_copyFrom 46 = .ok (.getfield 21, 3) := by decide +kernel
theorem dX3_copyFrom_49 : decode cX3_copyFrom 49 = .ok (.iconst 0, 1) := by decide +kernel
theorem dX3_copyFrom_50 : decode cX3_copyFrom 50 = .ok (.aload_n 0, 1) := by decide +kernel
theorem dX3_copyFrom_51 : decode cX3_copyFrom 51 = .ok (.getfield 21, 3) := by decide +kernel
theorem dX3_copyFrom_54 : decode cX3_copyFrom 54 = .ok (.iconst 0, 1) := by decide +kernel
theorem dX3_copyFrom_55 : decode cX3_copyFrom 55 = .ok (.bipush 9, 2) := by decide +kernel
theorem dX3_copyFrom_57 : decode cX3_copyFrom 57 = .ok (.invokestatic 27, 3) := by decide +kernel
theorem dX3_copyFrom_60 : decode cX3_copyFrom 60 = .ok (.aload_n 1, 1) := by decide +kernel
theorem dX3_copyFrom_61 : decode cX3_copyFrom 61 = .ok (.getfield 24, 3) := by decide +kernel
theorem dX3_copyFrom_64 : decode cX3_copyFrom 64 = .ok (.iconst 0, 1) := by decide +kernel
theorem dX3_copyFrom_65 : decode cX3_copyFrom 65 = .ok (.aload_n 0, 1) := by decide +kernel
theorem dX3_copyFrom_66 : decode cX3_copyFrom 66 = .ok (.getfield 24, 3) := by decide +kernel
theorem dX3_copyFrom_69 : decode cX3_copyFrom 69 = .ok (.iconst 0, 1) := by decide +kernel
theorem dX3_copyFrom_70 : decode cX3_copyFrom 70 = .ok (.bipush 27, 2) := by decide +kernel
theorem dX3_copyFrom_72 : decode cX3_copyFrom 72 = .ok (.invokestatic 27, 3) := by decide +kernel
theorem dX3_copyFrom_75 : decode cX3_copyFrom 75 = .ok (.aload_n 0, 1) := by decide +kernel
theorem dX3_copyFrom_76 : decode cX3_copyFrom 76 = .ok (.aload_n 1, 1) := by decide +kernel
theorem dX3_copyFrom_77 : decode cX3_copyFrom 77 = .ok (.getfield 33, 3) := by decide +kernel
theorem dX3_copyFrom_80 : decode cX3_copyFrom 80 = .ok (.putfield 33, 3) := by decide +kernel
theorem dX3_copyFrom_83 : decode cX3_copyFrom 83 = .ok (.return_, 1) := by decide +kernel
theorem dX3_has_0 : decode cX3_has 0 = .ok (.iload_n 1, 1) := by decide +kernel
theorem dX3_has_1 : decode cX3_has 1 = .ok (.ifCond .lt 15, 3) := by decide +kernel
theorem dX3_has_4 : decode cX3_has 4 = .ok (.iload_n 1, 1) := by decide +kernel
theorem dX3_has_5 : decode cX3_has 5 = .ok (.aload_n 0, 1) := by decide +kernel
theorem dX3_has_6 : decode cX3_has 6 = .ok (.getfield 33, 3) := by decide +kernel
theorem dX3_has_9 : decode cX3_has 9 = .ok (.if_icmp .ge 7, 3) := by decide +kernel
theorem dX3_has_12 : decode cX3_has 12 = .ok (.iconst 1, 1) := by decide +kernel
theorem dX3_has_13 : decode cX3_has 13 = .ok (.goto 4, 3) := by decide +kernel
theorem dX3_has_16 : decode cX3_has 16 = .ok (.iconst 0, 1) := by decide +kernel
theorem dX3_has_17 : decode cX3_has 17 = .ok (.ireturn, 1) := by decide +kernel
theorem dX3_isSet_0 : decode cX3_isSet 0 = .ok (.iload_n 1, 1) := by decide +kernel
theorem dX3_isSet_1 : decode cX3_isSet 1 = .ok (.ifCond .lt 17, 3) := by decide +kernel
theorem dX3_isSet_4 : decode cX3_isSet 4 = .ok (.iload_n 1, 1) := by decide +kernel
theorem dX3_isSet_5 : decode cX3_isSet 5 = .ok (.iconst 1, 1) := by decide +kernel
theorem dX3_isSet_6 : decode cX3_isSet 6 = .ok (.aload_n 0, 1) := by decide +kernel
theorem dX3_isSet_7 : decode cX3_isSet 7 = .ok (.getfield 33, 3) := by decide +kernel
theorem dX3_isSet_10 : decode cX3_isSet 10 = .ok (.ishl, 1) := by decide +kernel
theorem dX3_isSet_11 : decode cX3_isSet 11 = .ok (.if_icmp .ge 7, 3) := by decide +kernel
theorem dX3_isSet_14 : decode cX3_isSet 14 = .ok (.iconst 1, 1) := by decide +kernel
theorem dX3_isSet_15 : decode cX3_isSet 15 = .ok (.goto 4, 3) := by decide +kernel
theorem dX3_isSet_18 : decode cX3_isSet 18 = .ok (.iconst 0, 1) := by decide +kernel
theorem dX3_isSet_19 : decode cX3_isSet 19 = .ok (.ireturn, 1) := by decide +kernel
set_option maxRecDepth 20000 in
theorem ggX3_isOfKind_X3_has : GoodIn wsX3_isOfKind wsX3_has := goodIn_r _ [6, 7, 8, 9, 10, 11, 12, 13] (by decide +kernel) (by decide +kernel)
set_option maxRecDepth 20000 in
theorem gX3_isOfKind_X3_has : GoodIn wsX3_isOfKind (wsV RX3 37 RX3 yX3_has wsX3_has) := goodIn_app (goodIn_of _ (by decide +kernel)) ggX3_isOfKind_X3_has
theorem dX3_isOfKind_0 : decode cX3_isOfKind 0 = .ok (.aload_n 0, 1) := by decide +kernel
theorem dX3_isOfKind_1 : decode cX3_isOfKind 1 = .ok (.iload_n 1, 1) := by decide +kernel
theorem dX3_isOfKind_2 : decode cX3_isOfKind 2 = .ok (.invokevirtual 37, 3) := by decide +kernel
theorem dX3_isOfKind_5 : decode cX3_isOfKind 5 = .ok (.ifCond .ne 5, 3) := by decide +kernel
theorem dX3_isOfKind_8 : decode cX3_isOfKind 8 = .ok (.iconst 0, 1) := by decide +kernel
theorem dX3_isOfKind_9 : decode cX3_isOfKind 9 = .ok (.ireturn, 1) := by decide +kernel
theorem dX3_isOfKind_10 : decode cX3_isOfKind 10 = .ok (.aload_n 0, 1) := by decide +kernel
theorem dX3_isOfKind_11 : decode cX3_isOfKind 11 = .ok (.getfield 9, 3) := by decide +kernel
theorem dX3_isOfKind_14 : decode cX3_isOfKind 14 = .ok (.iload_n 1, 1) := by decide +kernel
theorem dX3_isOfKind_15 : decode cX3_isOfKind 15 = .ok (.iaload, 1) := by decide +kernel
theorem dX3_isOfKind_16 : decode cX3_isOfKind 16 = .ok (.istore_n 3, 1) := by decide +kernel
theorem dX3_isOfKind_17 : decode cX3_isOfKind 17 = .ok (.iload_n 2, 1) := by decide +kernel
theorem dX3_isOfKind_18 : decode cX3_isOfKind 18 = .ok (.ifCond .eq 18, 3) := by decide +kernel
theorem dX3_isOfKind_21 : decode cX3_isOfKind 21 = .ok (.iload_n 2, 1) := by decide +kernel
theorem dX3_isOfKind_22 : decode cX3_isOfKind 22 = .ok (.iload_n 3, 1) := by decide +kernel
theorem dX3_isOfKind_23 : decode cX3_isOfKind 23 = .ok (.if_icmp .eq 13, 3) := by decide +kernel
theorem dX3_isOfKind_26 : decode cX3_isOfKind 26 = .ok (.iload_n 2, 1) := by decide +kernel
theorem dX3_isOfKind_27 : decode cX3_isOfKind 27 = .ok (.iconst 2, 1) := by decide +kernel
theorem dX3_isOfKind_28 : decode cX3_isOfKind 28 = .ok (.if_icmp .ne 12, 3) := by decide +kernel
theorem dX3_isOfKind_31 : decode cX3_isOfKind 31 = .ok (.iload_n 3, 1) := by decide +kernel
theorem dX3_isOfKind_32 : decode cX3_isOfKind 32 = .ok (.iconst 4, 1) := by decide +kernel
theorem dX3_isOfKind_33 : decode cX3_isOfKind 33 = .ok (.if_icmp .ne 7, 3) := by decide +kernel
theorem dX3_isOfKind_36 : decode cX3_isOfKind 36 = .ok (.iconst 1, 1) := by decide +kernel
theorem dX3_isOfKind_37 : decode cX3_isOfKind 37 = .ok (.goto 4, 3) := by decide +kernel
theorem dX3_isOfKind_40 : decode cX3_isOfKind 40 = .ok (.iconst 0, 1) := by decide +kernel
theorem dX3_isOfKind_41 : decode cX3_isOfKind 41 = .ok (.ireturn, 1) := by decide +kernel
set_option maxRecDepth 20000 in
theorem ggX3_shareOf_X3_has : GoodIn wsX3_shareOf wsX3_has := goodIn_r _ [7, 8, 9, 10, 11, 12, 13, 14] (by decide +kernel) (by decide +kernel)
set_option maxRecDepth 20000 in
theorem gX3_shareOf_X3_has : GoodIn wsX3_shareOf (wsV RX3 37 RX3 yX3_has wsX3_has) := goodIn_app (goodIn_of _ (by decide +kernel)) ggX3_shareOf_X3_has
theorem dX3_shareOf_0 : decode cX3_shareOf 0 = .ok (.aload_n 0, 1) := by decide +kernel
theorem dX3_shareOf_1 : decode cX3_shareOf 1 = .ok (.iload_n 1, 1) := by decide +kernel
theorem dX3_shareOf_2 : decode cX3_shareOf 2 = .ok (.invokevirtual 37, 3) := by decide +kernel
theorem dX3_shareOf_5 : decode cX3_shareOf 5 = .ok (.ifCond .eq 17, 3) := by decide +kernel
theorem dX3_shareOf_8 : decode cX3_shareOf 8 = .ok (.iload_n 2, 1) := by decide +kernel
theorem dX3_shareOf_9 : decode cX3_shareOf 9 = .ok (.ifCond .lt 13, 3) := by decide +kernel
theorem dX3_shareOf_12 : decode cX3_shareOf 12 = .ok (.iload_n 2, 1) := by decide +kernel
theorem dX3_shareOf_13 : decode cX3_shareOf 13 = .ok (.aload_n 0, 1) := by decide +kernel
theorem dX3_shareOf_14 : decode cX3_shareOf 14 = .ok (.getfield 21, 3) := by decide +kernel
theorem dX3_shareOf_17 : decode cX3_shareOf 17 = .ok (.iload_n 1, 1) := by decide +kernel
theorem dX3_shareOf_18 : decode cX3_shareOf 18 = .ok (.iaload, 1) := by decide +kernel
theorem dX3_shareOf_19 : decode cX3_shareOf 19 = .ok (.if_icmp .lt 5, 3) := by decide +kernel
theorem dX3_shareOf_22 : decode cX3_shareOf 22 = .ok (.iconst (-1), 1) := by decide +kernel
theorem dX3_shareOf_23 : decode cX3_shareOf 23 = .ok (.ireturn, 1) := by decide +kernel
theorem dX3_shareOf_24 : decode cX3_shareOf 24 = .ok (.aload_n 0, 1) := by decide +kernel
theorem dX3_shareOf_25 : decode cX3_shareOf 25 = .ok (.getfield 24, 3) := by decide +kernel
theorem dX3_shareOf_28 : decode cX3_shareOf 28 = .ok (.iload_n 1, 1) := by decide +kernel
theorem dX3_shareOf_29 : decode cX3_shareOf 29 = .ok (.iconst 3, 1) := by decide +kernel
theorem dX3_shareOf_30 : decode cX3_shareOf 30 = .ok (.imul, 1) := by decide +kernel
theorem dX3_shareOf_31 : decode cX3_shareOf 31 = .ok (.iload_n 2, 1) := by decide +kernel
theorem dX3_shareOf_32 : decode cX3_shareOf 32 = .ok (.iadd, 1) := by decide +kernel
theorem dX3_shareOf_33 : decode cX3_shareOf 33 = .ok (.iaload, 1) := by decide +kernel
theorem dX3_shareOf_34 : decode cX3_shareOf 34 = .ok (.ireturn, 1) := by decide +kernel
set_option maxRecDepth 20000 in
theorem ggX3_partsOf_X3_has : GoodIn wsX3_partsOf wsX3_has := goodIn_r _ [7, 8, 9, 10, 11, 12, 13, 14] (by decide +kernel) (by decide +kernel)
set_option maxRecDepth 20000 in
theorem gX3_partsOf_X3_has : GoodIn wsX3_partsOf (wsV RX3 37 RX3 yX3_has wsX3_has) := goodIn_app (goodIn_of _ (by decide +kernel)) ggX3_partsOf_X3_has
theorem dX3_partsOf_0 : decode cX3_partsOf 0 = .ok (.aload_n 0, 1) := by decide +kernel
theorem dX3_partsOf_1 : decode cX3_partsOf 1 = .ok (.iload_n 1, 1) := by decide +kernel
theorem dX3_partsOf_2 : decode cX3_partsOf 2 = .ok (.invokevirtual 37, 3) := by decide +kernel
theorem dX3_partsOf_5 : decode cX3_partsOf 5 = .ok (.ifCond .eq 12, 3) := by decide +kernel
theorem dX3_partsOf_8 : decode cX3_partsOf 8 = .ok (.aload_n 0, 1) := by decide +kernel
theorem dX3_partsOf_9 : decode cX3_partsOf 9 = .ok (.getfield 21, 3) := by decide +kernel
theorem dX3_partsOf_12 : decode cX3_partsOf 12 = .ok (.iload_n 1, 1) := by decide +kernel
theorem dX3_partsOf_13 : decode cX3_partsOf 13 = .ok (.iaload, 1) := by decide +kernel
theorem dX3_partsOf_14 : decode cX3_partsOf 14 = .ok (.ifCond .ne 5, 3) := by decide +kernel
theorem dX3_partsOf_17 : decode cX3_partsOf 17 = .ok (.iconst 0, 1) := by decide +kernel
theorem dX3_partsOf_18 : decode cX3_partsOf 18 = .ok (.ireturn, 1) := by decide +kernel
theorem dX3_partsOf_19 : decode cX3_partsOf 19 = .ok (.aload_n 0, 1) := by decide +kernel
theorem dX3_partsOf_20 : decode cX3_partsOf 20 = .ok (.getfield 9, 3) := by decide +kernel
theorem dX3_partsOf_23 : decode cX3_partsOf 23 = .ok (.iload_n 1, 1) := by decide +kernel
theorem dX3_partsOf_24 : decode cX3_partsOf 24 = .ok (.iaload, 1) := by decide +kernel
theorem dX3_partsOf_25 : decode cX3_partsOf 25 = .ok (.iconst 3, 1) := by decide +kernel
theorem dX3_partsOf_26 : decode cX3_partsOf 26 = .ok (.if_icmp .ne 14, 3) := by decide +kernel
theorem dX3_partsOf_29 : decode cX3_partsOf 29 = .ok (.aload_n 0, 1) := by decide +kernel
theorem dX3_partsOf_30 : decode cX3_partsOf 30 = .ok (.getfield 21, 3) := by decide +kernel
theorem dX3_partsOf_33 : decode cX3_partsOf 33 = .ok (.iload_n 1, 1) := by decide +kernel
theorem dX3_partsOf_34 : decode cX3_partsOf 34 = .ok (.iaload, 1) := by decide +kernel
theorem dX3_partsOf_35 : decode cX3_partsOf 35 = .ok (.iconst 1, 1) := by decide +kernel
theorem dX3_partsOf_36 : decode cX3_partsOf 36 = .ok (.iadd, 1) := by decide +kernel
theorem dX3_partsOf_37 : decode cX3_partsOf 37 = .ok (.goto 9, 3) := by decide +kernel
theorem dX3_partsOf_40 : decode cX3_partsOf 40 = .ok (.aload_n 0, 1) := by decide +kernel
theorem dX3_partsOf_41 : decode cX3_partsOf 41 = .ok (.getfield 21, 3) := by decide +kernel
theorem dX3_partsOf_44 : decode cX3_partsOf 44 = .ok (.iload_n 1, 1) := by decide +kernel
theorem dX3_partsOf_45 : decode cX3_partsOf 45 = .ok (.iaload, 1) := by decide +kernel
theorem dX3_partsOf_46 : decode cX3_partsOf 46 = .ok (.ireturn, 1) := by decide +kernel
theorem dX3_putGlass_0 : decode cX3_putGlass 0 = .ok (.aload_n 0, 1) := by decide +kernel
theorem dX3_putGlass_1 : decode cX3_putGlass 1 = .ok (.getfield 33, 3) := by decide +kernel
theorem dX3_putGlass_4 : decode cX3_putGlass 4 = .ok (.bipush 9, 2) := by decide +kernel
theorem dX3_putGlass_6 : decode cX3_putGlass 6 = .ok (.if_icmp .lt 5, 3) := by decide +kernel
theorem dX3_putGlass_9 : decode cX3_putGlass 9 = .ok (.iconst 0, 1) := by decide +kernel
theorem dX3_putGlass_10 : decode cX3_putGlass 10 = .ok (.ireturn, 1) := by decide +kernel
theorem dX3_putGlass_11 : decode cX3_putGlass 11 = .ok (.aload_n 0, 1) := by decide +kernel
theorem dX3_putGlass_12 : decode cX3_putGlass 12 = .ok (.getfield 9, 3) := by decide +kernel
theorem dX3_putGlass_15 : decode cX3_putGlass 15 = .ok (.aload_n 0, 1) := by decide +kernel
theorem dX3_putGlass_16 : decode cX3_putGlass 16 = .ok (.getfield 33, 3) := by decide +kernel
theorem dX3_putGlass_19 : decode cX3_putGlass 19 = .ok (.iconst 0, 1) := by decide +kernel
theorem dX3_putGlass_20 : decode cX3_putGlass 20 = .ok (.iastore, 1) := by decide +kernel
theorem dX3_putGlass_21 : decode cX3_putGlass 21 = .ok (.aload_n 0, 1) := by decide +kernel
theorem dX3_putGlass_22 : decode cX3_putGlass 22 = .ok (.getfield 21, 3) := by decide +kernel
theorem dX3_putGlass_25 : decode cX3_putGlass 25 = .ok (.aload_n 0, 1) := by decide +kernel
theorem dX3_putGlass_26 : decode cX3_putGlass 26 = .ok (.getfield 33, 3) := by decide +kernel
theorem dX3_putGlass_29 : decode cX3_putGlass 29 = .ok (.iconst 0, 1) := by decide +kernel
theorem dX3_putGlass_30 : decode cX3_putGlass 30 = .ok (.iastore, 1) := by decide +kernel
theorem dX3_putGlass_31 : decode cX3_putGlass 31 = .ok (.aload_n 0, 1) := by decide +kernel
theorem dX3_putGlass_32 : decode cX3_putGlass 32 = .ok (.dup, 1) := by decide +kernel
theorem dX3_putGlass_33 : decode cX3_putGlass 33 = .ok (.getfield 33, 3) := by decide +kernel
theorem dX3_putGlass_36 : decode cX3_putGlass 36 = .ok (.iconst 1, 1) := by decide +kernel
theorem dX3_putGlass_37 : decode cX3_putGlass 37 = .ok (.iadd, 1) := by decide +kernel
theorem dX3_putGlass_38 : decode cX3_putGlass 38 = .ok (.putfield 33, 3) := by decide +kernel
theorem dX3_putGlass_41 : decode cX3_putGlass 41 = .ok (.iconst 1, 1) := by decide +kernel
theorem dX3_putGlass_42 : decode cX3_putGlass 42 = .ok (.ireturn, 1) := by decide +kernel
theorem dX3_tellKind_0 : decode cX3_tellKind 0 = .ok (.aload_n 0, 1) := by decide +kernel
theorem dX3_tellKind_1 : decode cX3_tellKind 1 = .ok (.getfield 33, 3) := by decide +kernel
theorem dX3_tellKind_4 : decode cX3_tellKind 4 = .ok (.ifCond .le 15, 3) := by decide +kernel
theorem dX3_tellKind_7 : decode cX3_tellKind 7 = .ok (.aload_n 0, 1) := by decide +kernel
theorem dX3_tellKind_8 : decode cX3_tellKind 8 = .ok (.getfield 9, 3) := by decide +kernel
theorem dX3_tellKind_11 : decode cX3_tellKind 11 = .ok (.aload_n 0, 1) := by decide +kernel
theorem dX3_tellKind_12 : decode cX3_tellKind 12 = .ok (.getfield 33, 3) := by decide +kernel
theorem dX3_tellKind_15 : decode cX3_tellKind 15 = .ok (.iconst 1, 1) := by decide +kernel
theorem dX3_tellKind_16 : decode cX3_tellKind 16 = .ok (.isub, 1) := by decide +kernel
theorem dX3_tellKind_17 : decode cX3_tellKind 17 = .ok (.iload_n 1, 1) := by decide +kernel
theorem dX3_tellKind_18 : decode cX3_tellKind 18 = .ok (.iastore, 1) := by decide +kernel
theorem dX3_tellKind_19 : decode cX3_tellKind 19 = .ok (.return_, 1) := by decide +kernel
set_option maxRecDepth 20000 in
theorem ggX3_tellHolds_X5_takenBy : GoodIn wsX3_tellHolds wsX5_takenBy := goodIn_r _ [7] (by decide +kernel) (by decide +kernel)
set_option maxRecDepth 20000 in
theorem gX3_tellHolds_X5_takenBy_n41 : GoodIn wsX3_tellHolds (wsX5_takenBy) := ggX3_tellHolds_X5_takenBy
theorem dX3_tellHolds_0 : decode cX3_tellHolds 0 = .ok (.aload_n 0, 1) := by decide +kernel
theorem dX3_tellHolds_1 : decode cX3_tellHolds 1 = .ok (.getfield 33, 3) := by decide +kernel
theorem dX3_tellHolds_4 : decode cX3_tellHolds 4 = .ok (.ifCond .le 41, 3) := by decide +kernel
theorem dX3_tellHolds_7 : decode cX3_tellHolds 7 = .ok (.aload_n 0, 1) := by decide +kernel
theorem dX3_tellHolds_8 : decode cX3_tellHolds 8 = .ok (.getfield 15, 3) := by decide +kernel
theorem dX3_tellHolds_11 : decode cX3_tellHolds 11 = .ok (.aload_n 0, 1) := by decide +kernel
theorem dX3_tellHolds_12 : decode cX3_tellHolds 12 = .ok (.getfield 33, 3) := by decide +kernel
theorem dX3_tellHolds_15 : decode cX3_tellHolds 15 = .ok (.iconst 1, 1) := by decide +kernel
theorem dX3_tellHolds_16 : decode cX3_tellHolds 16 = .ok (.isub, 1) := by decide +kernel
theorem dX3_tellHolds_17 : decode cX3_tellHolds 17 = .ok (.iload_n 1, 1) := by decide +kernel
theorem dX3_tellHolds_18 : decode cX3_tellHolds 18 = .ok (.iastore, 1) := by decide +kernel
theorem dX3_tellHolds_19 : decode cX3_tellHolds 19 = .ok (.aload_n 0, 1) := by decide +kernel
theorem dX3_tellHolds_20 : decode cX3_tellHolds 20 = .ok (.getfield 18, 3) := by decide +kernel
theorem dX3_tellHolds_23 : decode cX3_tellHolds 23 = .ok (.aload_n 0, 1) := by decide +kernel
theorem dX3_tellHolds_24 : decode cX3_tellHolds 24 = .ok (.getfield 33, 3) := by decide +kernel
theorem dX3_tellHolds_27 : decode cX3_tellHolds 27 = .ok (.iconst 1, 1) := by decide +kernel
theorem dX3_tellHolds_28 : decode cX3_tellHolds 28 = .ok (.isub, 1) := by decide +kernel
theorem dX3_tellHolds_29 : decode cX3_tellHolds 29 = .ok (.aload_n 0, 1) := by decide +kernel
theorem dX3_tellHolds_30 : decode cX3_tellHolds 30 = .ok (.getfield 9, 3) := by decide +kernel
theorem dX3_tellHolds_33 : decode cX3_tellHolds 33 = .ok (.aload_n 0, 1) := by decide +kernel
theorem dX3_tellHolds_34 : decode cX3_tellHolds 34 = .ok (.getfield 33, 3) := by decide +kernel
theorem dX3_tellHolds_37 : decode cX3_tellHolds 37 = .ok (.iconst 1, 1) := by decide +kernel
theorem dX3_tellHolds_38 : decode cX3_tellHolds 38 = .ok (.isub, 1) := by decide +kernel
theorem dX3_tellHolds_39 : decode cX3_tellHolds 39 = .ok (.iaload, 1) := by decide +kernel
theorem dX3_tellHolds_40 : decode cX3_tellHolds 40 = .ok (.iload_n 1, 1) := by decide +kernel
theorem dX3_tellHolds_41 : decode cX3_tellHolds 41 = .ok (.invokestatic 41, 3) := by decide +kernel
theorem dX3_tellHolds_44 : decode cX3_tellHolds 44 = .ok (.iastore, 1) := by decide +kernel
theorem dX3_tellHolds_45 : decode cX3_tellHolds 45 = .ok (.return_, 1) := by decide +kernel
set_option maxRecDepth 20000 in
theorem ggX3_tellShare_X3_lastShareCount : GoodIn wsX3_tellShare wsX3_lastShareCount := goodIn_r _ [8, 1, 3, 9, 10, 11, 12, 13, 14] (by decide +kernel) (by decide +kernel)
set_option maxRecDepth 20000 in
theorem gX3_tellShare_X3_lastShareCount : GoodIn wsX3_tellShare (wsV RX3 45 RX3 yX3_lastShareCount wsX3_lastShareCount) := goodIn_app (goodIn_of _ (by decide +kernel)) ggX3_tellShare_X3_lastShareCount
theorem dX3_tellShare_0 : decode cX3_tellShare 0 = .ok (.aload_n 0, 1) := by decide +kernel
theorem dX3_tellShare_1 : decode cX3_tellShare 1 = .ok (.invokevirtual 45, 3) := by decide +kernel
theorem dX3_tellShare_4 : decode cX3_tellShare 4 = .ok (.istore_n 2, 1) := by decide +kernel
theorem dX3_tellShare_5 : decode cX3_tellShare 5 = .ok (.aload_n 0, 1) := by decide +kernel
theorem dX3_tellShare_6 : decode cX3_tellShare 6 = .ok (.getfield 33, 3) := by decide +kernel
theorem dX3_tellShare_9 : decode cX3_tellShare 9 = .ok (.ifCond .eq 8, 3) := by decide +kernel
theorem dX3_tellShare_12 : decode cX3_tellShare 12 = .ok (.iload_n 2, 1) := by decide +kernel
theorem dX3_tellShare_13 : decode cX3_tellShare 13 = .ok (.iconst 3, 1) := by decide +kernel
theorem dX3_tellShare_14 : decode cX3_tellShare 14 = .ok (.if_icmp .lt 5, 3) := by decide +kernel
theorem dX3_tellShare_17 : decode cX3_tellShare 17 = .ok (.iconst 0, 1) := by decide +kernel
theorem dX3_tellShare_18 : decode cX3_tellShare 18 = .ok (.ireturn, 1) := by decide +kernel
theorem dX3_tellShare_19 : decode cX3_tellShare 19 = .ok (.aload_n 0, 1) := by decide +kernel
theorem dX3_tellShare_20 : decode cX3_tellShare 20 = .ok (.getfield 24, 3) := by decide +kernel
theorem dX3_tellShare_23 : decode cX3_tellShare 23 = .ok (.aload_n 0, 1) := by decide +kernel
theorem dX3_tellShare_24 : decode cX3_tellShare 24 = .ok (.getfield 33, 3) := by decide +kernel
theorem dX3_tellShare_27 : decode cX3_tellShare 27 = .ok (.iconst 1, 1) := by decide +kernel
theorem dX3_tellShare_28 : decode cX3_tellShare 28 = .ok (.isub, 1) := by decide +kernel
theorem dX3_tellShare_29 : decode cX3_tellShare 29 = .ok (.iconst 3, 1) := by decide +kernel
theorem dX3_tellShare_30 : decode cX3_tellShare 30 = .ok (.imul, 1) := by decide +kernel
theorem dX3_tellShare_31 : decode cX3_tellShare 31 = .ok (.iload_n 2, 1) := by decide +kernel
theorem dX3_tellShare_32 : decode cX3_tellShare 32 = .ok (.iadd, 1) := by decide +kernel
theorem dX3_tellShare_33 : decode cX3_tellShare 33 = .ok (.iload_n 1, 1) := by decide +kernel
theorem dX3_tellShare_34 : decode cX3_tellShare 34 = .ok (.iastore, 1) := by decide +kernel
theorem dX3_tellShare_35 : decode cX3_tellShare 35 = .ok (.aload_n 0, 1) := by decide +kernel
theorem dX3_tellShare_36 : decode cX3_tellShare 36 = .ok (.getfield 21, 3) := by decide +kernel
theorem dX3_tellShare_39 : decode cX3_tellShare 39 = .ok (.aload_n 0, 1) := by decide +kernel
theorem dX3_tellShare_40 : decode cX3_tellShare 40 = .ok (.getfield 33, 3) := by decide +kernel
theorem dX3_tellShare_43 : decode cX3_tellShare 43 = .ok (.iconst 1, 1) := by decide +kernel
theorem dX3_tellShare_44 : decode cX3_tellShare 44 = .ok (.isub, 1) := by decide +kernel
theorem dX3_tellShare_45 : decode cX3_tellShare 45 = .ok (.dup2, 1) := by decide +kernel
theorem dX3_tellShare_46 : decode cX3_tellShare 46 = .ok (.iaload, 1) := by decide +kernel
theorem dX3_tellShare_47 : decode cX3_tellShare 47 = .ok (.iconst 1, 1) := by decide +kernel
theorem dX3_tellShare_48 : decode cX3_tellShare 48 = .ok (.iadd, 1) := by decide +kernel
theorem dX3_tellShare_49 : decode cX3_tellShare 49 = .ok (.iastore, 1) := by decide +kernel
theorem dX3_tellShare_50 : decode cX3_tellShare 50 = .ok (.iconst 1, 1) := by decide +kernel
theorem dX3_tellShare_51 : decode cX3_tellShare 51 = .ok (.ireturn, 1) := by decide +kernel
theorem dX3_lastShareCount_0 : decode cX3_lastShareCount 0 = .ok (.aload_n 0, 1) := by decide +kernel
theorem dX3_lastShareCount_1 : decode cX3_lastShareCount 1 = .ok (.getfield 33, 3) := by decide +kernel
theorem dX3_lastShareCount_4 : decode cX3_lastShareCount 4 = .ok (.ifCond .le 17, 3) := by decide +kernel
theorem dX3_lastShareCount_7 : decode cX3_lastShareCount 7 = .ok (.aload_n 0, 1) := by decide +kernel
theorem dX3_lastShareCount_8 : decode cX3_lastShareCount 8 = .ok (.getfield 21, 3) := by decide +kernel
theorem dX3_lastShareCount_11 : decode cX3_lastShareCount 11 = .ok (.aload_n 0, 1) := by decide +kernel
theorem dX3_lastShareCount_12 : decode cX3_lastShareCount 12 = .ok (.getfield 33, 3) := by decide +kernel
theorem dX3_lastShareCount_15 : decode cX3_lastShareCount 15 = .ok (.iconst 1, 1) := by decide +kernel
theorem dX3_lastShareCount_16 : decode cX3_lastShareCount 16 = .ok (.isub, 1) := by decide +kernel
theorem dX3_lastShareCount_17 : decode cX3_lastShareCount 17 = .ok (.iaload, 1) := by decide +kernel
theorem dX3_lastShareCount_18 : decode cX3_lastShareCount 18 = .ok (.goto 4, 3) := by decide +kernel
theorem dX3_lastShareCount_21 : decode cX3_lastShareCount 21 = .ok (.iconst 0, 1) := by decide +kernel
theorem dX3_lastShareCount_22 : decode cX3_lastShareCount 22 = .ok (.ireturn, 1) := by decide +kernel
set_option maxRecDepth 20000 in
theorem ggX3_hasAllShares_X3_shareOf : GoodIn wsX3_hasAllShares wsX3_shareOf := goodIn_r _ [7, 2, 8, 9, 10, 11, 6, 12, 1, 13, 14, 15, 16, 17, 18] (by decide +kernel) (by decide +kernel)
set_option maxRecDepth 20000 in
theorem gX3_hasAllShares_X3_shareOf : GoodIn wsX3_hasAllShares (wsV RX3 49 RX3 yX3_shareOf wsX3_shareOf) := goodIn_app (goodIn_of _ (by decide +kernel)) ggX3_hasAllShares_X3_shareOf
set_option maxRecDepth 20000 in
theorem ggX3_hasAllShares_X3_has : GoodIn wsX3_hasAllShares wsX3_has := goodIn_r _ [12, 1, 13, 14, 15, 16, 17, 18] (by decide +kernel) (by decide +kernel)
set_option maxRecDepth 20000 in
theorem gX3_hasAllShares_X3_has : GoodIn wsX3_hasAllShares (wsV RX3 37 RX3 yX3_has wsX3_has) := goodIn_app (goodIn_of _ (by decide +kernel)) ggX3_hasAllShares_X3_has
theorem dX3_hasAllShares_0 : decode cX3_hasAllShares 0 = .ok (.iconst 0, 1) := by decide +kernel
theorem dX3_hasAllShares_1 : decode cX3_hasAllShares 1 = .ok (.istore_n 1, 1) := by decide +kernel
theorem dX3_hasAllShares_2 : decode cX3_hasAllShares 2 = .ok (.iload_n 1, 1) := by decide +kernel
theorem dX3_hasAllShares_3 : decode cX3_hasAllShares 3 = .ok (.aload_n 0, 1) := by decide +kernel
theorem dX3_hasAllShares_4 : decode cX3_hasAllShares 4 = .ok (.getfield 33, 3) := by decide +kernel
theorem dX3_hasAllShares_7 : decode cX3_hasAllShares 7 = .ok (.if_icmp .ge 50, 3) := by decide +kernel
theorem dX3_hasAllShares_10 : decode cX3_hasAllShares 10 = .ok (.iconst 0, 1) := by decide +kernel
theorem dX3_hasAllShares_11 : decode cX3_hasAllShares 11 = .ok (.istore_n 2, 1) := by decide +kernel
theorem dX3_hasAllShares_12 : decode cX3_hasAllShares 12 = .ok (.iload_n 2, 1) := by decide +kernel
theorem dX3_hasAllShares_13 : decode cX3_hasAllShares 13 = .ok (.aload_n 0, 1) := by decide +kernel
theorem dX3_hasAllShares_14 : decode cX3_hasAllShares 14 = .ok (.getfield 21, 3) := by decide +kernel
theorem dX3_hasAllShares_17 : decode cX3_hasAllShares 17 = .ok (.iload_n 1, 1) := by decide +kernel
theorem dX3_hasAllShares_18 : decode cX3_hasAllShares 18 = .ok (.iaload, 1) := by decide +kernel
theorem dX3_hasAllShares_19 : decode cX3_hasAllShares 19 = .ok (.if_icmp .ge 32, 3) := by decide +kernel
theorem dX3_hasAllShares_22 : decode cX3_hasAllShares 22 = .ok (.aload_n 0, 1) := by decide +kernel
theorem dX3_hasAllShares_23 : decode cX3_hasAllShares 23 = .ok (.iload_n 1, 1) := by decide +kernel
theorem dX3_hasAllShares_24 : decode cX3_hasAllShares 24 = .ok (.iload_n 2, 1) := by decide +kernel
theorem dX3_hasAllShares_25 : decode cX3_hasAllShares 25 = .ok (.invokevirtual 49, 3) := by decide +kernel
theorem dX3_hasAllShares_28 : decode cX3_hasAllShares 28 = .ok (.istore_n 3, 1) := by decide +kernel
theorem dX3_hasAllShares_29 : decode cX3_hasAllShares 29 = .ok (.iload_n 3, 1) := by decide +kernel
theorem dX3_hasAllShares_30 : decode cX3_hasAllShares 30 = .ok (.bipush 9, 2) := by decide +kernel
theorem dX3_hasAllShares_32 : decode cX3_hasAllShares 32 = .ok (.if_icmp .eq 13, 3) := by decide +kernel
theorem dX3_hasAllShares_35 : decode cX3_hasAllShares 35 = .ok (.aload_n 0, 1) := by decide +kernel
theorem dX3_hasAllShares_36 : decode cX3_hasAllShares 36 = .ok (.iload_n 3, 1) := by decide +kernel
theorem dX3_hasAllShares_37 : decode cX3_hasAllShares 37 = .ok (.invokevirtual 37, 3) := by decide +kernel
theorem dX3_hasAllShares_40 : decode cX3_hasAllShares 40 = .ok (.ifCond .ne 5, 3) := by decide +kernel
theorem dX3_hasAllShares_43 : decode cX3_hasAllShares 43 = .ok (.iconst 0, 1) := by decide +kernel
theorem dX3_hasAllShares_44 : decode cX3_hasAllShares 44 = .ok (.ireturn, 1) := by decide +kernel
theorem dX3_hasAllShares_45 : decode cX3_hasAllShares 45 = .ok (.iinc 2 1, 3) := by decide +kernel
theorem dX3_hasAllShares_48 : decode cX3_hasAllShares 48 = .ok (.goto (-36), 3) := by decide +kernel
theorem dX3_hasAllShares_51 : decode cX3_hasAllShares 51 = .ok (.iinc 1 1, 3) := by decide +kernel
theorem dX3_hasAllShares_54 : decode cX3_hasAllShares 54 = .ok (.goto (-52), 3) := by decide +kernel
theorem dX3_hasAllShares_57 : decode cX3_hasAllShares 57 = .ok (.iconst 1, 1) := by decide +kernel
theorem dX3_hasAllShares_58 : decode cX3_hasAllShares 58 = .ok (.ireturn, 1) := by decide +kernel
set_option maxRecDepth 20000 in
theorem ggX3_exchange_X3_has : GoodIn wsX3_exchange wsX3_has := goodIn_r _ [8, 9, 13, 14, 15, 16, 17, 18] (by decide +kernel) (by decide +kernel)
set_option maxRecDepth 20000 in
theorem gX3_exchange_X3_has : GoodIn wsX3_exchange (wsV RX3 37 RX3 yX3_has wsX3_has) := goodIn_app (goodIn_of _ (by decide +kernel)) ggX3_exchange_X3_has
set_option maxRecDepth 20000 in
theorem ggX3_exchange_X3_exchangeIn : GoodIn wsX3_exchange wsX3_exchangeIn := goodIn_r _ [12] (by decide +kernel) (by decide +kernel)
set_option maxRecDepth 20000 in
theorem gX3_exchange_X3_exchangeIn : GoodIn wsX3_exchange (va_wsS RX3 52 yX3_exchangeIn wsX3_exchangeIn) := goodIn_app (goodIn_of _ (by decide +kernel)) ggX3_exchange_X3_exchangeIn
theorem dX3_exchange_0 : decode cX3_exchange 0 = .ok (.aload_n 0, 1) := by decide +kernel
theorem dX3_exchange_1 : decode cX3_exchange 1 = .ok (.iload_n 1, 1) := by decide +kernel
theorem dX3_exchange_2 : decode cX3_exchange 2 = .ok (.invokevirtual 37, 3) := by decide +kernel
theorem dX3_exchange_5 : decode cX3_exchange 5 = .ok (.ifCond .eq 38, 3) := by decide +kernel
theorem dX3_exchange_8 : decode cX3_exchange 8 = .ok (.aload_n 0, 1) := by decide +kernel
theorem dX3_exchange_9 : decode cX3_exchange 9 = .ok (.iload_n 2, 1) := by decide +kernel
theorem dX3_exchange_10 : decode cX3_exchange 10 = .ok (.invokevirtual 37, 3) := by decide +kernel
theorem dX3_exchange_13 : decode cX3_exchange 13 = .ok (.ifCond .eq 30, 3) := by decide +kernel
theorem dX3_exchange_16 : decode cX3_exchange 16 = .ok (.aload_n 0, 1) := by decide +kernel
theorem dX3_exchange_17 : decode cX3_exchange 17 = .ok (.getfield 9, 3) := by decide +kernel
theorem dX3_exchange_20 : decode cX3_exchange 20 = .ok (.iload_n 1, 1) := by decide +kernel
theorem dX3_exchange_21 : decode cX3_exchange 21 = .ok (.iload_n 2, 1) := by decide +kernel
theorem dX3_exchange_22 : decode cX3_exchange 22 = .ok (.invokestatic 52, 3) := by decide +kernel
theorem dX3_exchange_25 : decode cX3_exchange 25 = .ok (.aload_n 0, 1) := by decide +kernel
theorem dX3_exchange_26 : decode cX3_exchange 26 = .ok (.getfield 15, 3) := by decide +kernel
theorem dX3_exchange_29 : decode cX3_exchange 29 = .ok (.iload_n 1, 1) := by decide +kernel
theorem dX3_exchange_30 : decode cX3_exchange 30 = .ok (.iload_n 2, 1) := by decide +kernel
theorem dX3_exchange_31 : decode cX3_exchange 31 = .ok (.invokestatic 52, 3) := by decide +kernel
theorem dX3_exchange_34 : decode cX3_exchange 34 = .ok (.aload_n 0, 1) := by decide +kernel
theorem dX3_exchange_35 : decode cX3_exchange 35 = .ok (.getfield 18, 3) := by decide +kernel
theorem dX3_exchange_38 : decode cX3_exchange 38 = .ok (.iload_n 1, 1) := by decide +kernel
theorem dX3_exchange_39 : decode cX3_exchange 39 = .ok (.iload_n 2, 1) := by decide +kernel
theorem dX3_exchange_40 : decode cX3_exchange 40 = .ok (.invokestatic 52, 3) := by decide +kernel
theorem dX3_exchange_43 : decode cX3_exchange 43 = .ok (.return_, 1) := by decide +kernel
theorem dX3_exchangeIn_0 : decode cX3_exchangeIn 0 = .ok (.aload_n 0, 1) := by decide +kernel
theorem dX3_exchangeIn_1 : decode cX3_exchangeIn 1 = .ok (.iload_n 1, 1) := by decide +kernel
theorem dX3_exchangeIn_2 : decode cX3_exchangeIn 2 = .ok (.iaload, 1) := by decide +kernel
theorem dX3_exchangeIn_3 : decode cX3_exchangeIn 3 = .ok (.istore_n 3, 1) := by decide +kernel
theorem dX3_exchangeIn_4 : decode cX3_exchangeIn 4 = .ok (.aload_n 0, 1) := by decide +kernel
theorem dX3_exchangeIn_5 : decode cX3_exchangeIn 5 = .ok (.iload_n 1, 1) := by decide +kernel
theorem dX3_exchangeIn_6 : decode cX3_exchangeIn 6 = .ok (.aload_n 0, 1) := by decide +kernel
theorem dX3_exchangeIn_7 : decode cX3_exchangeIn 7 = .ok (.iload_n 2, 1) := by decide +kernel
theorem dX3_exchangeIn_8 : decode cX3_exchangeIn 8 = .ok (.iaload, 1) := by decide +kernel
theorem dX3_exchangeIn_9 : decode cX3_exchangeIn 9 = .ok (.iastore, 1) := by decide +kernel
theorem dX3_exchangeIn_10 : decode cX3_exchangeIn 10 = .ok (.aload_n 0, 1) := by decide +kernel
theorem dX3_exchangeIn_11 : decode cX3_exchangeIn 11 = .ok (.iload_n 2, 1) := by decide +kernel
theorem dX3_exchangeIn_12 : decode cX3_exchangeIn 12 = .ok (.iload_n 3, 1) := by decide +kernel
theorem dX3_exchangeIn_13 : decode cX3_exchangeIn 13 = .ok (.iastore, 1) := by decide +kernel
theorem dX3_exchangeIn_14 : decode cX3_exchangeIn 14 = .ok (.return_, 1) := by decide +kernel
set_option maxRecDepth 20000 in
theorem ggX4_init_X0_init : GoodIn wsX4_init wsX0_init := goodIn_r _ [13, 14, 2, 3, 8, 15, 16, 17] (by decide +kernel) (by decide +kernel)
set_option maxRecDepth 20000 in
theorem gX4_init_X0_init_n11 : GoodIn wsX4_init (wsX0_init) := ggX4_init_X0_init
theorem dX4_init_0 : decode cX4_init 0 = .ok (.aload_n 0, 1) := by decide +kernel
theorem dX4_init_1 : decode cX4_init 1 = .ok (.invokespecial 3, 3) := by decide +kernel
theorem dX4_init_4 : decode cX4_init 4 = .ok (.aload_n 0, 1) := by decide +kernel
theorem dX4_init_5 : decode cX4_init 5 = .ok (.new 9, 3) := by decide +kernel
theorem dX4_init_8 : decode cX4_init 8 = .ok (.dup, 1) := by decide +kernel
theorem dX4_init_9 : decode cX4_init 9 = .ok (.invokespecial 11, 3) := by decide +kernel
theorem dX4_init_12 : decode cX4_init 12 = .ok (.putfield 12, 3) := by decide +kernel
theorem dX4_init_15 : decode cX4_init 15 = .ok (.aload_n 0, 1) := by decide +kernel
theorem dX4_init_16 : decode cX4_init 16 = .ok (.bipush 9, 2) := by decide +kernel
theorem dX4_init_18 : decode cX4_init 18 = .ok (.newarray .long, 2) := by decide +kernel
theorem dX4_init_20 : decode cX4_init 20 = .ok (.putfield 18, 3) := by decide +kernel
theorem dX4_init_23 : decode cX4_init 23 = .ok (.aload_n 0, 1) := by decide +kernel
theorem dX4_init_24 : decode cX4_init 24 = .ok (.bipush 9, 2) := by decide +kernel
theorem dX4_init_26 : decode cX4_init 26 = .ok (.newarray .int, 2) := by decide +kernel
theorem dX4_init_28 : decode cX4_init 28 = .ok (.putfield 22, 3) := by decide +kernel
theorem dX4_init_31 : decode cX4_init 31 = .ok (.return_, 1) := by decide +kernel
set_option maxRecDepth 20000 in
theorem ggX4_makeNew_X4_makeEmpty : GoodIn wsX4_makeNew wsX4_makeEmpty := goodIn_r _ [6, 7, 8, 9, 10, 11, 12, 13, 14, 15, 16, 17, 18, 19, 20, 21, 25, 26, 27, 28, 29, 30] (by decide +kernel) (by decide +kernel)
set_option maxRecDepth 20000 in
theorem gX4_makeNew_X4_makeEmpty : GoodIn wsX4_makeNew (wsV RX4 26 RX4 yX4_makeEmpty wsX4_makeEmpty) := goodIn_app (goodIn_of _ (by decide +kernel)) ggX4_makeNew_X4_makeEmpty
set_option maxRecDepth 20000 in
theorem ggX4_makeNew_J7_fill_53178 : GoodIn wsX4_makeNew wsJ7_fill_53178 := goodIn_r _ [24] (by decide +kernel) (by decide +kernel)
set_option maxRecDepth 20000 in
theorem gX4_makeNew_J7_fill_53178 : GoodIn wsX4_makeNew (va_wsS RX4 29 yJ7_fill_53178 wsJ7_fill_53178) := goodIn_app (goodIn_of _ (by decide +kernel)) ggX4_makeNew_J7_fill_53178
theorem dX4_makeNew_0 : decode cX4_makeNew 0 = .ok (.aload_n 0, 1) := by decide +kernel
theorem dX4_makeNew_1 : decode cX4_makeNew 1 = .ok (.invokevirtual 26, 3) := by decide +kernel
theorem dX4_makeNew_4 : decode cX4_makeNew 4 = .ok (.aload_n 0, 1) := by decide +kernel
theorem dX4_makeNew_5 : decode cX4_makeNew 5 = .ok (.getfield 22, 3) := by decide +kernel
theorem dX4_makeNew_8 : decode cX4_makeNew 8 = .ok (.iconst 0, 1) := by decide +kernel
theorem dX4_makeNew_9 : decode cX4_makeNew 9 = .ok (.invokestatic 29, 3) := by decide +kernel
theorem dX4_makeNew_12 : decode cX4_makeNew 12 = .ok (.return_, 1) := by decide +kernel
set_option maxRecDepth 20000 in
theorem ggX4_makeEmpty_X0_makeEmpty : GoodIn wsX4_makeEmpty wsX0_makeEmpty := goodIn_r _ [8, 9, 10, 11, 12, 13, 14, 20, 21] (by decide +kernel) (by decide +kernel)
set_option maxRecDepth 20000 in
theorem gX4_makeEmpty_X0_makeEmpty : GoodIn wsX4_makeEmpty (wsV RX4 34 RX0 yX0_makeEmpty wsX0_makeEmpty) := goodIn_app (goodIn_of _ (by decide +kernel)) ggX4_makeEmpty_X0_makeEmpty
set_option maxRecDepth 20000 in
theorem ggX4_makeEmpty_J7_fill_d0a16 : GoodIn wsX4_makeEmpty wsJ7_fill_d0a16 := goodIn_r _ [14] (by decide +kernel) (by decide +kernel)
set_option maxRecDepth 20000 in
theorem gX4_makeEmpty_J7_fill_d0a16 : GoodIn wsX4_makeEmpty (va_wsS RX4 35 yJ7_fill_d0a16 wsJ7_fill_d0a16) := goodIn_app (goodIn_of _ (by decide +kernel)) ggX4_makeEmpty_J7_fill_d0a16
theorem dX4_makeEmpty_0 : decode cX4_makeEmpty 0 = .ok (.aload_n 0, 1) := by decide +kernel
theorem dX4_makeEmpty_1 : decode cX4_makeEmpty 1 = .ok (.getfield 12, 3) := by decide +kernel
theorem dX4_makeEmpty_4 : decode cX4_makeEmpty 4 = .ok (.invokevirtual 34, 3) := by decide +kernel
theorem dX4_makeEmpty_7 : decode cX4_makeEmpty 7 = .ok (.aload_n 0, 1) := by decide +kernel
theorem dX4_makeEmpty_8 : decode cX4_makeEmpty 8 = .ok (.getfield 18, 3) := by decide +kernel
theorem dX4_makeEmpty_11 : decode cX4_makeEmpty 11 = .ok (.lconst 0, 1) := by decide +kernel
theorem dX4_makeEmpty_12 : decode cX4_makeEmpty 12 = .ok (.invokestatic 35, 3) := by decide +kernel
theorem dX4_makeEmpty_15 : decode cX4_makeEmpty 15 = .ok (.aload_n 0, 1) := by decide +kernel
theorem dX4_makeEmpty_16 : decode cX4_makeEmpty 16 = .ok (.iconst 0, 1) := by decide +kernel
theorem dX4_makeEmpty_17 : decode cX4_makeEmpty 17 = .ok (.putfield 38, 3) := by decide +kernel
theorem dX4_makeEmpty_20 : decode cX4_makeEmpty 20 = .ok (.return_, 1) := by decide +kernel
set_option maxRecDepth 20000 in
theorem ggX4_copyFrom_X0_copyFrom : GoodIn wsX4_copyFrom wsX0_copyFrom := goodIn_r _ [13, 14, 15, 4, 5, 6, 16, 21, 22] (by decide +kernel) (by decide +kernel)
set_option maxRecDepth 20000 in
theorem gX4_copyFrom_X0_copyFrom : GoodIn wsX4_copyFrom (wsV RX4 42 RX0 yX0_copyFrom wsX0_copyFrom) := goodIn_app (goodIn_of _ (by decide +kernel)) ggX4_copyFrom_X0_copyFrom
theorem dX4_copyFrom_0 : decode cX4_copyFrom 0 = .ok (.aload_n 0, 1) := by decide +kernel
theorem dX4_copyFrom_1 : decode cX4_copyFrom 1 = .ok (.getfield 12, 3) := by decide +kernel
theorem dX4_copyFrom_4 : decode cX4_copyFrom 4 = .ok (.aload_n 1, 1) := by decide +kernel
theorem dX4_copyFrom_5 : decode cX4_copyFrom 5 = .ok (.getfield 12, 3) := by decide +kernel
theorem dX4_copyFrom_8 : decode cX4_copyFrom 8 = .ok (.invokevirtual 42, 3) := by decide +kernel
theorem dX4_copyFrom_11 : decode cX4_copyFrom 11 = .ok (.aload_n 1, 1) := by decide +kernel
theorem dX4_copyFrom_12 : decode cX4_copyFrom 12 = .ok (.getfield 18, 3) := by decide +kernel
theorem dX4_copyFrom_15 : decode cX4_copyFrom 15 = .ok (.iconst 0, 1) := by decide +kernel
theorem dX4_copyFrom_16 : decode cX4_copyFrom 16 = .ok (.aload_n 0, 1) := by decide +kernel
theorem dX4_copyFrom_17 : decode cX4_copyFrom 17 = .ok (.getfield 18, 3) := by decide +kernel
theorem dX4_copyFrom_20 : decode cX4_copyFrom 20 = .ok (.iconst 0, 1) := by decide +kernel
theorem dX4_copyFrom_21 : decode cX4_copyFrom 21 = .ok (.bipush 9, 2) := by decide +kernel
theorem dX4_copyFrom_23 : decode cX4_copyFrom 23 = .ok (.invokestatic 46, 3) := by decide +kernel
theorem dX4_copyFrom_26 : decode cX4_copyFrom 26 = .ok (.aload_n 1, 1) := by decide +kernel
theorem dX4_copyFrom_27 : decode cX4_copyFrom 27 = .ok (.getfield 22, 3) := by decide +kernel
theorem dX4_copyFrom_30 : decode cX4_copyFrom 30 = .ok (.iconst 0, 1) := by decide +kernel
theorem dX4_copyFrom_31 : decode cX4_copyFrom 31 = .ok (.aload_n 0, 1) := by decide +kernel
theorem dX4_copyFrom_32 : decode cX4_copyFrom 32 = .ok (.getfield 22, 3) := by decide +kernel
theorem dX4_copyFrom_35 : decode cX4_copyFrom 35 = .ok (.iconst 0, 1) := by decide +kernel
theorem dX4_copyFrom_36 : decode cX4_copyFrom 36 = .ok (.bipush 9, 2) := by decide +kernel
theorem dX4_copyFrom_38 : decode cX4_copyFrom 38 = .ok (.invokestatic 46, 3) := by decide +kernel
theorem dX4_copyFrom_41 : decode cX4_copyFrom 41 = .ok (.aload_n 0, 1) := by decide +kernel
theorem dX4_copyFrom_42 : decode cX4_copyFrom 42 = .ok (.aload_n 1, 1) := by decide +kernel
theorem dX4_copyFrom_43 : decode cX4_copyFrom 43 = .ok (.getfield 38, 3) := by decide +kernel
theorem dX4_copyFrom_46 : decode cX4_copyFrom 46 = .ok (.putfield 38, 3) := by decide +kernel
theorem dX4_copyFrom_49 : decode cX4_copyFrom 49 = .ok (.return_, 1) := by decide +kernel
set_option maxRecDepth 20000 in
theorem ggX4_addTo_X0_addTo : GoodIn wsX4_addTo wsX0_addTo := goodIn_r _ [7, 8, 9, 10, 11, 12, 13, 14, 15, 16, 17, 18, 6, 19, 20, 21, 22, 23, 24, 25, 26, 27, 28, 29, 30, 31, 32, 33, 34, 35, 40, 41, 42, 43, 44, 45, 46, 47] (by decide +kernel) (by decide +kernel)
set_option maxRecDepth 20000 in
theorem gX4_addTo_X0_addTo : GoodIn wsX4_addTo (wsV RX4 52 RX0 yX0_addTo wsX0_addTo) := goodIn_app (goodIn_of _ (by decide +kernel)) ggX4_addTo_X0_addTo
theorem dX4_addTo_0 : decode cX4_addTo 0 = .ok (.aload_n 0, 1) := by decide +kernel
theorem dX4_addTo_1 : decode cX4_addTo 1 = .ok (.getfield 12, 3) := by decide +kernel
theorem dX4_addTo_4 : decode cX4_addTo 4 = .ok (.aload_n 1, 1) := by decide +kernel
theorem dX4_addTo_5 : decode cX4_addTo 5 = .ok (.iload_n 2, 1) := by decide +kernel
theorem dX4_addTo_6 : decode cX4_addTo 6 = .ok (.iload_n 3, 1) := by decide +kernel
theorem dX4_addTo_7 : decode cX4_addTo 7 = .ok (.invokevirtual 52, 3) := by decide +kernel
theorem dX4_addTo_10 : decode cX4_addTo 10 = .ok (.aload_n 0, 1) := by decide +kernel
theorem dX4_addTo_11 : decode cX4_addTo 11 = .ok (.dup, 1) := by decide +kernel
theorem dX4_addTo_12 : decode cX4_addTo 12 = .ok (.getfield 38, 3) := by decide +kernel
theorem dX4_addTo_15 : decode cX4_addTo 15 = .ok (.iload_n 3, 1) := by decide +kernel
theorem dX4_addTo_16 : decode cX4_addTo 16 = .ok (.iadd, 1) := by decide +kernel
theorem dX4_addTo_17 : decode cX4_addTo 17 = .ok (.putfield 38, 3) := by decide +kernel
theorem dX4_addTo_20 : decode cX4_addTo 20 = .ok (.return_, 1) := by decide +kernel
set_option maxRecDepth 20000 in
theorem ggX4_drinkFrom_X0_takeOut : GoodIn wsX4_drinkFrom wsX0_takeOut := goodIn_r _ [7, 8, 13, 14] (by decide +kernel) (by decide +kernel)
set_option maxRecDepth 20000 in
theorem gX4_drinkFrom_X0_takeOut : GoodIn wsX4_drinkFrom (wsV RX4 56 RX0 yX0_takeOut wsX0_takeOut) := goodIn_app (goodIn_of _ (by decide +kernel)) ggX4_drinkFrom_X0_takeOut
theorem dX4_drinkFrom_0 : decode cX4_drinkFrom 0 = .ok (.iload_n 1, 1) := by decide +kernel
theorem dX4_drinkFrom_1 : decode cX4_drinkFrom 1 = .ok (.ifCond .lt 12, 3) := by decide +kernel
theorem dX4_drinkFrom_4 : decode cX4_drinkFrom 4 = .ok (.iload_n 1, 1) := by decide +kernel
theorem dX4_drinkFrom_5 : decode cX4_drinkFrom 5 = .ok (.aload_n 0, 1) := by decide +kernel
theorem dX4_drinkFrom_6 : decode cX4_drinkFrom 6 = .ok (.getfield 18, 3) := by decide +kernel
theorem dX4_drinkFrom_9 : decode cX4_drinkFrom 9 = .ok (.arraylength, 1) := by decide +kernel
theorem dX4_drinkFrom_10 : decode cX4_drinkFrom 10 = .ok (.if_icmp .lt 5, 3) := by decide +kernel
theorem dX4_drinkFrom_13 : decode cX4_drinkFrom 13 = .ok (.lconst 0, 1) := by decide +kernel
