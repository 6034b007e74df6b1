set_option maxRecDepth 20000 in
theorem gX5_partOf_X5_commonDivisor : GoodIn wsX5_partOf (va_wsS RX5 250 yX5_commonDivisor wsX5_commonDivisor) := goodIn_app (goodIn_of _ (by decide +kernel)) ggX5_partOf_X5_commonDivisor
theorem dX5_partOf_0 : decode cX5_partOf 0 = .ok (.lconst 1, 1) := by decide +kernel
theorem dX5_partOf_1 : decode cX5_partOf 1 = .ok (.lload_n 0, 1) := by decide +kernel
theorem dX5_partOf_2 : decode cX5_partOf 2 = .ok (.ldc2_w 213, 3) := by decide +kernel
theorem dX5_partOf_5 : decode cX5_partOf 5 = .ok (.invokestatic 250, 3) := by decide +kernel
theorem dX5_partOf_8 : decode cX5_partOf 8 = .ok (.invokestatic 253, 3) := by decide +kernel
theorem dX5_partOf_11 : decode cX5_partOf 11 = .ok (.lstore_n 3, 1) := by decide +kernel
theorem dX5_partOf_12 : decode cX5_partOf 12 = .ok (.iload_n 2, 1) := by decide +kernel
theorem dX5_partOf_13 : decode cX5_partOf 13 = .ok (.ifCond .ne 7, 3) := by decide +kernel
theorem dX5_partOf_16 : decode cX5_partOf 16 = .ok (.lload_n 0, 1) := by decide +kernel
theorem dX5_partOf_17 : decode cX5_partOf 17 = .ok (.goto 6, 3) := by decide +kernel
theorem dX5_partOf_20 : decode cX5_partOf 20 = .ok (.ldc2_w 213, 3) := by decide +kernel
theorem dX5_partOf_23 : decode cX5_partOf 23 = .ok (.lload_n 3, 1) := by decide +kernel
theorem dX5_partOf_24 : decode cX5_partOf 24 = .ok (.ldiv, 1) := by decide +kernel
theorem dX5_partOf_25 : decode cX5_partOf 25 = .ok (.lreturn, 1) := by decide +kernel
theorem dX5_commonDivisor_0 : decode cX5_commonDivisor 0 = .ok (.lload_n 2, 1) := by decide +kernel
theorem dX5_commonDivisor_1 : decode cX5_commonDivisor 1 = .ok (.lstore 4, 2) := by decide +kernel
theorem dX5_commonDivisor_3 : decode cX5_commonDivisor 3 = .ok (.lload_n 0, 1) := by decide +kernel
theorem dX5_commonDivisor_4 : decode cX5_commonDivisor 4 = .ok (.lstore 6, 2) := by decide +kernel
theorem dX5_commonDivisor_6 : decode cX5_commonDivisor 6 = .ok (.iconst 0, 1) := by decide +kernel
theorem dX5_commonDivisor_7 : decode cX5_commonDivisor 7 = .ok (.istore 8, 2) := by decide +kernel
theorem dX5_commonDivisor_9 : decode cX5_commonDivisor 9 = .ok (.iload 8, 2) := by decide +kernel
theorem dX5_commonDivisor_11 : decode cX5_commonDivisor 11 = .ok (.bipush 100, 2) := by decide +kernel
theorem dX5_commonDivisor_13 : decode cX5_commonDivisor 13 = .ok (.if_icmp .ge 31, 3) := by decide +kernel
theorem dX5_commonDivisor_16 : decode cX5_commonDivisor 16 = .ok (.lload 6, 2) := by decide +kernel
theorem dX5_commonDivisor_18 : decode cX5_commonDivisor 18 = .ok (.lconst 0, 1) := by decide +kernel
theorem dX5_commonDivisor_19 : decode cX5_commonDivisor 19 = .ok (.lcmp, 1) := by decide +kernel
theorem dX5_commonDivisor_20 : decode cX5_commonDivisor 20 = .ok (.ifCond .eq 24, 3) := by decide +kernel
theorem dX5_commonDivisor_23 : decode cX5_commonDivisor 23 = .ok (.lload 4, 2) := by decide +kernel
theorem dX5_commonDivisor_25 : decode cX5_commonDivisor 25 = .ok (.lload 6, 2) := by decide +kernel
theorem dX5_commonDivisor_27 : decode cX5_commonDivisor 27 = .ok (.lrem, 1) := by decide +kernel
theorem dX5_commonDivisor_28 : decode cX5_commonDivisor 28 = .ok (.lstore 9, 2) := by decide +kernel
theorem dX5_commonDivisor_30 : decode cX5_commonDivisor 30 = .ok (.lload 6, 2) := by decide +kernel
theorem dX5_commonDivisor_32 : decode cX5_commonDivisor 32 = .ok (.lstore 4, 2) := by decide +kernel
theorem dX5_commonDivisor_34 : decode cX5_commonDivisor 34 = .ok (.lload 9, 2) := by decide +kernel
theorem dX5_commonDivisor_36 : decode cX5_commonDivisor 36 = .ok (.lstore 6, 2) := by decide +kernel
theorem dX5_commonDivisor_38 : decode cX5_commonDivisor 38 = .ok (.iinc 8 1, 3) := by decide +kernel
theorem dX5_commonDivisor_41 : decode cX5_commonDivisor 41 = .ok (.goto (-32), 3) := by decide +kernel
theorem dX5_commonDivisor_44 : decode cX5_commonDivisor 44 = .ok (.lload 4, 2) := by decide +kernel
theorem dX5_commonDivisor_46 : decode cX5_commonDivisor 46 = .ok (.lreturn, 1) := by decide +kernel
set_option maxRecDepth 20000 in
theorem ggX5_leastToFill_X5_wouldFill : GoodIn wsX5_leastToFill wsX5_wouldFill := goodIn_r _ [5, 6, 7, 8, 9, 10, 11, 12, 13, 14, 15, 16, 17, 18, 19, 20, 21, 22, 23, 24, 25, 26, 27, 28, 29, 30, 31, 32, 33, 34, 35, 36, 37, 38, 39, 40, 41, 42, 43, 44, 45, 46, 47, 48, 49, 50, 51, 52, 53, 54, 55, 56, 57, 58, 59, 60, 61, 62, 63, 64, 65, 66, 67, 68, 69, 70, 71, 72, 73, 74, 75, 76, 77, 78, 79, 80] (by decide +kernel) (by decide +kernel)
set_option maxRecDepth 20000 in
theorem gX5_leastToFill_X5_wouldFill : GoodIn wsX5_leastToFill (wsV RX5 256 RX5 yX5_wouldFill wsX5_wouldFill) := goodIn_app (goodIn_of _ (by decide +kernel)) ggX5_leastToFill_X5_wouldFill
theorem dX5_leastToFill_0 : decode cX5_leastToFill 0 = .ok (.aload_n 0, 1) := by decide +kernel
theorem dX5_leastToFill_1 : decode cX5_leastToFill 1 = .ok (.iload_n 1, 1) := by decide +kernel
theorem dX5_leastToFill_2 : decode cX5_leastToFill 2 = .ok (.iload_n 2, 1) := by decide +kernel
theorem dX5_leastToFill_3 : decode cX5_leastToFill 3 = .ok (.sipush 999, 3) := by decide +kernel
theorem dX5_leastToFill_6 : decode cX5_leastToFill 6 = .ok (.invokevirtual 256, 3) := by decide +kernel
theorem dX5_leastToFill_9 : decode cX5_leastToFill 9 = .ok (.ifCond .ne 5, 3) := by decide +kernel
theorem dX5_leastToFill_12 : decode cX5_leastToFill 12 = .ok (.iconst (-1), 1) := by decide +kernel
theorem dX5_leastToFill_13 : decode cX5_leastToFill 13 = .ok (.ireturn, 1) := by decide +kernel
theorem dX5_leastToFill_14 : decode cX5_leastToFill 14 = .ok (.iconst 0, 1) := by decide +kernel
theorem dX5_leastToFill_15 : decode cX5_leastToFill 15 = .ok (.istore_n 3, 1) := by decide +kernel
theorem dX5_leastToFill_16 : decode cX5_leastToFill 16 = .ok (.sipush 999, 3) := by decide +kernel
theorem dX5_leastToFill_19 : decode cX5_leastToFill 19 = .ok (.istore 4, 2) := by decide +kernel
theorem dX5_leastToFill_21 : decode cX5_leastToFill 21 = .ok (.iconst 0, 1) := by decide +kernel
theorem dX5_leastToFill_22 : decode cX5_leastToFill 22 = .ok (.istore 5, 2) := by decide +kernel
theorem dX5_leastToFill_24 : decode cX5_leastToFill 24 = .ok (.iload 5, 2) := by decide +kernel
theorem dX5_leastToFill_26 : decode cX5_leastToFill 26 = .ok (.bipush 10, 2) := by decide +kernel
theorem dX5_leastToFill_28 : decode cX5_leastToFill 28 = .ok (.if_icmp .ge 46, 3) := by decide +kernel
theorem dX5_leastToFill_31 : decode cX5_leastToFill 31 = .ok (.iload_n 3, 1) := by decide +kernel
theorem dX5_leastToFill_32 : decode cX5_leastToFill 32 = .ok (.iload 4, 2) := by decide +kernel
theorem dX5_leastToFill_34 : decode cX5_leastToFill 34 = .ok (.if_icmp .ge 40, 3) := by decide +kernel
theorem dX5_leastToFill_37 : decode cX5_leastToFill 37 = .ok (.iload_n 3, 1) := by decide +kernel
theorem dX5_leastToFill_38 : decode cX5_leastToFill 38 = .ok (.iload 4, 2) := by decide +kernel
theorem dX5_leastToFill_40 : decode cX5_leastToFill 40 = .ok (.iadd, 1) := by decide +kernel
theorem dX5_leastToFill_41 : decode cX5_leastToFill 41 = .ok (.iconst 2, 1) := by decide +kernel
theorem dX5_leastToFill_42 : decode cX5_leastToFill 42 = .ok (.idiv, 1) := by decide +kernel
theorem dX5_leastToFill_43 : decode cX5_leastToFill 43 = .ok (.istore 6, 2) := by decide +kernel
theorem dX5_leastToFill_45 : decode cX5_leastToFill 45 = .ok (.aload_n 0, 1) := by decide +kernel
theorem dX5_leastToFill_46 : decode cX5_leastToFill 46 = .ok (.iload_n 1, 1) := by decide +kernel
theorem dX5_leastToFill_47 : decode cX5_leastToFill 47 = .ok (.iload_n 2, 1) := by decide +kernel
theorem dX5_leastToFill_48 : decode cX5_leastToFill 48 = .ok (.iload 6, 2) := by decide +kernel
theorem dX5_leastToFill_50 : decode cX5_leastToFill 50 = .ok (.invokevirtual 256, 3) := by decide +kernel
theorem dX5_leastToFill_53 : decode cX5_leastToFill 53 = .ok (.ifCond .eq 10, 3) := by decide +kernel
theorem dX5_leastToFill_56 : decode cX5_leastToFill 56 = .ok (.iload 6, 2) := by decide +kernel
theorem dX5_leastToFill_58 : decode cX5_leastToFill 58 = .ok (.istore 4, 2) := by decide +kernel
theorem dX5_leastToFill_60 : decode cX5_leastToFill 60 = .ok (.goto 8, 3) := by decide +kernel
theorem dX5_leastToFill_63 : decode cX5_leastToFill 63 = .ok (.iload 6, 2) := by decide +kernel
theorem dX5_leastToFill_65 : decode cX5_leastToFill 65 = .ok (.iconst 1, 1) := by decide +kernel
theorem dX5_leastToFill_66 : decode cX5_leastToFill 66 = .ok (.iadd, 1) := by decide +kernel
theorem dX5_leastToFill_67 : decode cX5_leastToFill 67 = .ok (.istore_n 3, 1) := by decide +kernel
theorem dX5_leastToFill_68 : decode cX5_leastToFill 68 = .ok (.iinc 5 1, 3) := by decide +kernel
theorem dX5_leastToFill_71 : decode cX5_leastToFill 71 = .ok (.goto (-47), 3) := by decide +kernel
theorem dX5_leastToFill_74 : decode cX5_leastToFill 74 = .ok (.iload 4, 2) := by decide +kernel
theorem dX5_leastToFill_76 : decode cX5_leastToFill 76 = .ok (.ireturn, 1) := by decide +kernel
set_option maxRecDepth 20000 in
theorem ggX5_wouldFill_X0_copyFrom : GoodIn wsX5_wouldFill wsX0_copyFrom := goodIn_r _ [9, 10, 11, 12, 13, 14, 15, 68, 69] (by decide +kernel) (by decide +kernel)
set_option maxRecDepth 20000 in
theorem gX5_wouldFill_X0_copyFrom : GoodIn wsX5_wouldFill (wsV RX5 260 RX0 yX0_copyFrom wsX0_copyFrom) := goodIn_app (goodIn_of _ (by decide +kernel)) ggX5_wouldFill_X0_copyFrom
set_option maxRecDepth 20000 in
theorem ggX5_wouldFill_X0_addTo : GoodIn wsX5_wouldFill wsX0_addTo := goodIn_r _ [19, 10, 20, 21, 22, 23, 24, 25, 26, 27, 28, 29, 8, 30, 31, 32, 33, 34, 35, 36, 15, 37, 38, 39, 40, 41, 42, 43, 44, 45, 68, 69, 70, 71, 72, 73, 74, 75] (by decide +kernel) (by decide +kernel)
set_option maxRecDepth 20000 in
theorem gX5_wouldFill_X0_addTo : GoodIn wsX5_wouldFill (wsV RX5 209 RX0 yX0_addTo wsX0_addTo) := goodIn_app (goodIn_of _ (by decide +kernel)) ggX5_wouldFill_X0_addTo
set_option maxRecDepth 20000 in
theorem ggX5_wouldFill_X0_areFull : GoodIn wsX5_wouldFill wsX0_areFull := goodIn_r _ [49, 31, 50, 51, 52, 8, 53, 10, 32, 20, 21, 22, 23, 24, 25, 26, 70, 71, 72, 73, 74, 75, 68, 69] (by decide +kernel) (by decide +kernel)
set_option maxRecDepth 20000 in
theorem gX5_wouldFill_X0_areFull : GoodIn wsX5_wouldFill (wsV RX5 263 RX0 yX0_areFull wsX0_areFull) := goodIn_app (goodIn_of _ (by decide +kernel)) ggX5_wouldFill_X0_areFull
theorem dX5_wouldFill_0 : decode cX5_wouldFill 0 = .ok (.aload_n 0, 1) := by decide +kernel
theorem dX5_wouldFill_1 : decode cX5_wouldFill 1 = .ok (.getfield 46, 3) := by decide +kernel
theorem dX5_wouldFill_4 : decode cX5_wouldFill 4 = .ok (.aload_n 0, 1) := by decide +kernel
theorem dX5_wouldFill_5 : decode cX5_wouldFill 5 = .ok (.getfield 36, 3) := by decide +kernel
theorem dX5_wouldFill_8 : decode cX5_wouldFill 8 = .ok (.getfield 126, 3) := by decide +kernel
theorem dX5_wouldFill_11 : decode cX5_wouldFill 11 = .ok (.invokevirtual 260, 3) := by decide +kernel
theorem dX5_wouldFill_14 : decode cX5_wouldFill 14 = .ok (.aload_n 0, 1) := by decide +kernel
theorem dX5_wouldFill_15 : decode cX5_wouldFill 15 = .ok (.getfield 46, 3) := by decide +kernel
theorem dX5_wouldFill_18 : decode cX5_wouldFill 18 = .ok (.aload_n 0, 1) := by decide +kernel
theorem dX5_wouldFill_19 : decode cX5_wouldFill 19 = .ok (.getfield 26, 3) := by decide +kernel
theorem dX5_wouldFill_22 : decode cX5_wouldFill 22 = .ok (.iload_n 2, 1) := by decide +kernel
theorem dX5_wouldFill_23 : decode cX5_wouldFill 23 = .ok (.iload_n 3, 1) := by decide +kernel
theorem dX5_wouldFill_24 : decode cX5_wouldFill 24 = .ok (.invokevirtual 209, 3) := by decide +kernel
theorem dX5_wouldFill_27 : decode cX5_wouldFill 27 = .ok (.aload_n 0, 1) := by decide +kernel
theorem dX5_wouldFill_28 : decode cX5_wouldFill 28 = .ok (.getfield 46, 3) := by decide +kernel
theorem dX5_wouldFill_31 : decode cX5_wouldFill 31 = .ok (.aload_n 0, 1) := by decide +kernel
theorem dX5_wouldFill_32 : decode cX5_wouldFill 32 = .ok (.getfield 26, 3) := by decide +kernel
theorem dX5_wouldFill_35 : decode cX5_wouldFill 35 = .ok (.iload_n 1, 1) := by decide +kernel
theorem dX5_wouldFill_36 : decode cX5_wouldFill 36 = .ok (.invokevirtual 263, 3) := by decide +kernel
theorem dX5_wouldFill_39 : decode cX5_wouldFill 39 = .ok (.ireturn, 1) := by decide +kernel
set_option maxRecDepth 20000 in
theorem ggX5_bestOfPair_X3_copyFrom : GoodIn wsX5_bestOfPair wsX3_copyFrom := goodIn_r _ [8, 9, 10, 11, 12, 13, 14, 15, 16, 17, 18, 80, 81, 82, 83, 84, 85] (by decide +kernel) (by decide +kernel)
set_option maxRecDepth 20000 in
theorem gX5_bestOfPair_X3_copyFrom : GoodIn wsX5_bestOfPair (wsV RX5 87 RX3 yX3_copyFrom wsX3_copyFrom) := goodIn_app (goodIn_of _ (by decide +kernel)) ggX5_bestOfPair_X3_copyFrom
set_option maxRecDepth 20000 in
theorem ggX5_bestOfPair_X5_spiltThen : GoodIn wsX5_bestOfPair wsX5_spiltThen := goodIn_r _ [23, 24, 25, 26, 1, 27, 28, 29, 30, 31, 32, 33, 34, 11, 12, 13, 35, 36, 37, 38, 39, 40, 41, 42, 43, 44, 45, 46, 47, 48, 49, 50, 51, 7, 52, 16, 9, 53, 54, 55, 56, 18, 57, 58, 59, 60, 61, 62, 70, 71, 72, 73, 74, 75, 76, 77, 78, 79, 86, 87, 88, 89, 90, 91, 80, 81, 82, 83, 84, 85] (by decide +kernel) (by decide +kernel)
set_option maxRecDepth 20000 in
theorem gX5_bestOfPair_X5_spiltThen : GoodIn wsX5_bestOfPair (wsV RX5 266 RX5 yX5_spiltThen wsX5_spiltThen) := goodIn_app (goodIn_of _ (by decide +kernel)) ggX5_bestOfPair_X5_spiltThen
set_option maxRecDepth 20000 in
theorem ggX5_bestOfPair_X3_exchange : GoodIn wsX5_bestOfPair wsX3_exchange := goodIn_r _ [66, 9, 14, 15, 53, 54, 55, 7, 56, 18, 67, 68, 69, 80, 81, 82, 83, 84, 85] (by decide +kernel) (by decide +kernel)
set_option maxRecDepth 20000 in
theorem gX5_bestOfPair_X3_exchange : GoodIn wsX5_bestOfPair (wsV RX5 269 RX3 yX3_exchange wsX3_exchange) := goodIn_app (goodIn_of _ (by decide +kernel)) ggX5_bestOfPair_X3_exchange
theorem dX5_bestOfPair_0 : decode cX5_bestOfPair 0 = .ok (.aload_n 0, 1) := by decide +kernel
theorem dX5_bestOfPair_1 : decode cX5_bestOfPair 1 = .ok (.getfield 30, 3) := by decide +kernel
theorem dX5_bestOfPair_4 : decode cX5_bestOfPair 4 = .ok (.aload_n 0, 1) := by decide +kernel
theorem dX5_bestOfPair_5 : decode cX5_bestOfPair 5 = .ok (.getfield 26, 3) := by decide +kernel
theorem dX5_bestOfPair_8 : decode cX5_bestOfPair 8 = .ok (.invokevirtual 87, 3) := by decide +kernel
theorem dX5_bestOfPair_11 : decode cX5_bestOfPair 11 = .ok (.aload_n 0, 1) := by decide +kernel
theorem dX5_bestOfPair_12 : decode cX5_bestOfPair 12 = .ok (.iload_n 1, 1) := by decide +kernel
theorem dX5_bestOfPair_13 : decode cX5_bestOfPair 13 = .ok (.invokevirtual 266, 3) := by decide +kernel
theorem dX5_bestOfPair_16 : decode cX5_bestOfPair 16 = .ok (.lstore_n 3, 1) := by decide +kernel
theorem dX5_bestOfPair_17 : decode cX5_bestOfPair 17 = .ok (.iconst (-1), 1) := by decide +kernel
theorem dX5_bestOfPair_18 : decode cX5_bestOfPair 18 = .ok (.istore 5, 2) := by decide +kernel
theorem dX5_bestOfPair_20 : decode cX5_bestOfPair 20 = .ok (.iconst 0, 1) := by decide +kernel
theorem dX5_bestOfPair_21 : decode cX5_bestOfPair 21 = .ok (.istore 6, 2) := by decide +kernel
theorem dX5_bestOfPair_23 : decode cX5_bestOfPair 23 = .ok (.iload 6, 2) := by decide +kernel
theorem dX5_bestOfPair_25 : decode cX5_bestOfPair 25 = .ok (.aload_n 0, 1) := by decide +kernel
theorem dX5_bestOfPair_26 : decode cX5_bestOfPair 26 = .ok (.getfield 26, 3) := by decide +kernel
theorem dX5_bestOfPair_29 : decode cX5_bestOfPair 29 = .ok (.getfield 101, 3) := by decide +kernel
theorem dX5_bestOfPair_32 : decode cX5_bestOfPair 32 = .ok (.if_icmp .ge 85, 3) := by decide +kernel
theorem dX5_bestOfPair_35 : decode cX5_bestOfPair 35 = .ok (.iload 6, 2) := by decide +kernel
theorem dX5_bestOfPair_37 : decode cX5_bestOfPair 37 = .ok (.iconst 1, 1) := by decide +kernel
theorem dX5_bestOfPair_38 : decode cX5_bestOfPair 38 = .ok (.iadd, 1) := by decide +kernel
theorem dX5_bestOfPair_39 : decode cX5_bestOfPair 39 = .ok (.istore 7, 2) := by decide +kernel
theorem dX5_bestOfPair_41 : decode cX5_bestOfPair 41 = .ok (.iload 7, 2) := by decide +kernel
theorem dX5_bestOfPair_43 : decode cX5_bestOfPair 43 = .ok (.aload_n 0, 1) := by decide +kernel
theorem dX5_bestOfPair_44 : decode cX5_bestOfPair 44 = .ok (.getfield 26, 3) := by decide +kernel
theorem dX5_bestOfPair_47 : decode cX5_bestOfPair 47 = .ok (.getfield 101, 3) := by decide +kernel
theorem dX5_bestOfPair_50 : decode cX5_bestOfPair 50 = .ok (.if_icmp .ge 61, 3) := by decide +kernel
theorem dX5_bestOfPair_53 : decode cX5_bestOfPair 53 = .ok (.aload_n 0, 1) := by decide +kernel
theorem dX5_bestOfPair_54 : decode cX5_bestOfPair 54 = .ok (.getfield 30, 3) := by decide +kernel
theorem dX5_bestOfPair_57 : decode cX5_bestOfPair 57 = .ok (.iload 6, 2) := by decide +kernel
theorem dX5_bestOfPair_59 : decode cX5_bestOfPair 59 = .ok (.iload 7, 2) := by decide +kernel
theorem dX5_bestOfPair_61 : decode cX5_bestOfPair 61 = .ok (.invokevirtual 269, 3) := by decide +kernel
theorem dX5_bestOfPair_64 : decode cX5_bestOfPair 64 = .ok (.aload_n 0, 1) := by decide +kernel
theorem dX5_bestOfPair_65 : decode cX5_bestOfPair 65 = .ok (.iload_n 1, 1) := by decide +kernel
theorem dX5_bestOfPair_66 : decode cX5_bestOfPair 66 = .ok (.invokevirtual 266, 3) := by decide +kernel
theorem dX5_bestOfPair_69 : decode cX5_bestOfPair 69 = .ok (.lstore 8, 2) := by decide +kernel
theorem dX5_bestOfPair_71 : decode cX5_bestOfPair 71 = .ok (.aload_n 0, 1) := by decide +kernel
theorem dX5_bestOfPair_72 : decode cX5_bestOfPair 72 = .ok (.getfield 30, 3) := by decide +kernel
theorem dX5_bestOfPair_75 : decode cX5_bestOfPair 75 = .ok (.iload 6, 2) := by decide +kernel
theorem dX5_bestOfPair_77 : decode cX5_bestOfPair 77 = .ok (.iload 7, 2) := by decide +kernel
theorem dX5_bestOfPair_79 : decode cX5_bestOfPair 79 = .ok (.invokevirtual 269, 3) := by decide +kernel
theorem dX5_bestOfPair_82 : decode cX5_bestOfPair 82 = .ok (.lload 8, 2) := by decide +kernel
theorem dX5_bestOfPair_84 : decode cX5_bestOfPair 84 = .ok (.lload_n 3, 1) := by decide +kernel
theorem dX5_bestOfPair_85 : decode cX5_bestOfPair 85 = .ok (.lcmp, 1) := by decide +kernel
theorem dX5_bestOfPair_86 : decode cX5_bestOfPair 86 = .ok (.ifCond .ge 19, 3) := by decide +kernel
theorem dX5_bestOfPair_89 : decode cX5_bestOfPair 89 = .ok (.lload 8, 2) := by decide +kernel
theorem dX5_bestOfPair_91 : decode cX5_bestOfPair 91 = .ok (.lstore_n 3, 1) := by decide +kernel
theorem dX5_bestOfPair_92 : decode cX5_bestOfPair 92 = .ok (.iload_n 2, 1) := by decide +kernel
theorem dX5_bestOfPair_93 : decode cX5_bestOfPair 93 = .ok (.ifCond .ne 8, 3) := by decide +kernel
theorem dX5_bestOfPair_96 : decode cX5_bestOfPair 96 = .ok (.iload 6, 2) := by decide +kernel
theorem dX5_bestOfPair_98 : decode cX5_bestOfPair 98 = .ok (.goto 5, 3) := by decide +kernel
theorem dX5_bestOfPair_101 : decode cX5_bestOfPair 101 = .ok (.iload 7, 2) := by decide +kernel
theorem dX5_bestOfPair_103 : decode cX5_bestOfPair 103 = .ok (.istore 5, 2) := by decide +kernel
theorem dX5_bestOfPair_105 : decode cX5_bestOfPair 105 = .ok (.iinc 7 1, 3) := by decide +kernel
theorem dX5_bestOfPair_108 : decode cX5_bestOfPair 108 = .ok (.goto (-67), 3) := by decide +kernel
theorem dX5_bestOfPair_111 : decode cX5_bestOfPair 111 = .ok (.iinc 6 1, 3) := by decide +kernel
theorem dX5_bestOfPair_114 : decode cX5_bestOfPair 114 = .ok (.goto (-91), 3) := by decide +kernel
theorem dX5_bestOfPair_117 : decode cX5_bestOfPair 117 = .ok (.iload 5, 2) := by decide +kernel
theorem dX5_bestOfPair_119 : decode cX5_bestOfPair 119 = .ok (.ireturn, 1) := by decide +kernel
set_option maxRecDepth 20000 in
theorem ggX5_spiltThen_X0_copyFrom : GoodIn wsX5_spiltThen wsX0_copyFrom := goodIn_r _ [10, 11, 12, 13, 14, 15, 16, 62, 63] (by decide +kernel) (by decide +kernel)
set_option maxRecDepth 20000 in
theorem gX5_spiltThen_X0_copyFrom : GoodIn wsX5_spiltThen (wsV RX5 260 RX0 yX0_copyFrom wsX0_copyFrom) := goodIn_app (goodIn_of _ (by decide +kernel)) ggX5_spiltThen_X0_copyFrom
set_option maxRecDepth 20000 in
theorem ggX5_spiltThen_X0_runOver : GoodIn wsX5_spiltThen wsX0_runOver := goodIn_r _ [20, 21, 11, 22, 23, 24, 25, 26, 9, 27, 16, 28, 29, 30, 31, 32, 33, 34, 35, 36, 37, 38, 39, 40, 41, 42, 64, 65, 66, 67, 68, 69, 62, 63] (by decide +kernel) (by decide +kernel)
set_option maxRecDepth 20000 in
theorem gX5_spiltThen_X0_runOver : GoodIn wsX5_spiltThen (wsV RX5 273 RX0 yX0_runOver wsX0_runOver) := goodIn_app (goodIn_of _ (by decide +kernel)) ggX5_spiltThen_X0_runOver
set_option maxRecDepth 20000 in
theorem ggX5_spiltThen_X0_addTo : GoodIn wsX5_spiltThen wsX0_addTo := goodIn_r _ [46, 11, 23, 42, 38, 39, 33, 40, 41, 47, 18, 19, 9, 20, 21, 22, 24, 25, 26, 27, 16, 28, 29, 30, 31, 32, 34, 35, 36, 37, 62, 63, 64, 65, 66, 67, 68, 69] (by decide +kernel) (by decide +kernel)
set_option maxRecDepth 20000 in
theorem gX5_spiltThen_X0_addTo : GoodIn wsX5_spiltThen (wsV RX5 209 RX0 yX0_addTo wsX0_addTo) := goodIn_app (goodIn_of _ (by decide +kernel)) ggX5_spiltThen_X0_addTo
theorem dX5_spiltThen_0 : decode cX5_spiltThen 0 = .ok (.aload_n 0, 1) := by decide +kernel
theorem dX5_spiltThen_1 : decode cX5_spiltThen 1 = .ok (.getfield 46, 3) := by decide +kernel
theorem dX5_spiltThen_4 : decode cX5_spiltThen 4 = .ok (.aload_n 0, 1) := by decide +kernel
theorem dX5_spiltThen_5 : decode cX5_spiltThen 5 = .ok (.getfield 36, 3) := by decide +kernel
theorem dX5_spiltThen_8 : decode cX5_spiltThen 8 = .ok (.getfield 126, 3) := by decide +kernel
theorem dX5_spiltThen_11 : decode cX5_spiltThen 11 = .ok (.invokevirtual 260, 3) := by decide +kernel
theorem dX5_spiltThen_14 : decode cX5_spiltThen 14 = .ok (.aload_n 0, 1) := by decide +kernel
theorem dX5_spiltThen_15 : decode cX5_spiltThen 15 = .ok (.getfield 46, 3) := by decide +kernel
theorem dX5_spiltThen_18 : decode cX5_spiltThen 18 = .ok (.aload_n 0, 1) := by decide +kernel
theorem dX5_spiltThen_19 : decode cX5_spiltThen 19 = .ok (.getfield 30, 3) := by decide +kernel
theorem dX5_spiltThen_22 : decode cX5_spiltThen 22 = .ok (.invokevirtual 273, 3) := by decide +kernel
theorem dX5_spiltThen_25 : decode cX5_spiltThen 25 = .ok (.aload_n 0, 1) := by decide +kernel
theorem dX5_spiltThen_26 : decode cX5_spiltThen 26 = .ok (.getfield 46, 3) := by decide +kernel
theorem dX5_spiltThen_29 : decode cX5_spiltThen 29 = .ok (.aload_n 0, 1) := by decide +kernel
theorem dX5_spiltThen_30 : decode cX5_spiltThen 30 = .ok (.getfield 30, 3) := by decide +kernel
theorem dX5_spiltThen_33 : decode cX5_spiltThen 33 = .ok (.iconst 0, 1) := by decide +kernel
theorem dX5_spiltThen_34 : decode cX5_spiltThen 34 = .ok (.iload_n 1, 1) := by decide +kernel
theorem dX5_spiltThen_35 : decode cX5_spiltThen 35 = .ok (.invokevirtual 209, 3) := by decide +kernel
theorem dX5_spiltThen_38 : decode cX5_spiltThen 38 = .ok (.aload_n 0, 1) := by decide +kernel
theorem dX5_spiltThen_39 : decode cX5_spiltThen 39 = .ok (.getfield 46, 3) := by decide +kernel
theorem dX5_spiltThen_42 : decode cX5_spiltThen 42 = .ok (.getfield 162, 3) := by decide +kernel
theorem dX5_spiltThen_45 : decode cX5_spiltThen 45 = .ok (.lreturn, 1) := by decide +kernel
set_option maxRecDepth 20000 in
theorem ggX5_inOthers_X0_makeEmpty : GoodIn wsX5_inOthers wsX0_makeEmpty := goodIn_r _ [7, 8, 9, 10, 11, 12, 13, 62, 63] (by decide +kernel) (by decide +kernel)
set_option maxRecDepth 20000 in
theorem gX5_inOthers_X0_makeEmpty : GoodIn wsX5_inOthers (wsV RX5 208 RX0 yX0_makeEmpty wsX0_makeEmpty) := goodIn_app (goodIn_of _ (by decide +kernel)) ggX5_inOthers_X0_makeEmpty
set_option maxRecDepth 20000 in
theorem ggX5_inOthers_X0_addTo : GoodIn wsX5_inOthers wsX0_addTo := goodIn_r _ [17, 8, 18, 19, 20, 21, 22, 23, 24, 25, 26, 27, 6, 28, 29, 30, 31, 32, 33, 34, 9, 35, 36, 37, 38, 39, 40, 41, 42, 43, 62, 63, 64, 65, 66, 67, 68, 69] (by decide +kernel) (by decide +kernel)
set_option maxRecDepth 20000 in
theorem gX5_inOthers_X0_addTo : GoodIn wsX5_inOthers (wsV RX5 209 RX0 yX0_addTo wsX0_addTo) := goodIn_app (goodIn_of _ (by decide +kernel)) ggX5_inOthers_X0_addTo
set_option maxRecDepth 20000 in
theorem ggX5_inOthers_X0_takeOut : GoodIn wsX5_inOthers wsX0_takeOut := goodIn_r _ [47, 8, 62, 63] (by decide +kernel) (by decide +kernel)
set_option maxRecDepth 20000 in
theorem gX5_inOthers_X0_takeOut : GoodIn wsX5_inOthers (wsV RX5 276 RX0 yX0_takeOut wsX0_takeOut) := goodIn_app (goodIn_of _ (by decide +kernel)) ggX5_inOthers_X0_takeOut
set_option maxRecDepth 20000 in
theorem ggX5_inOthers_X0_together : GoodIn wsX5_inOthers wsX0_together := goodIn_r _ [51, 8, 62, 63] (by decide +kernel) (by decide +kernel)
set_option maxRecDepth 20000 in
theorem gX5_inOthers_X0_together : GoodIn wsX5_inOthers (wsV RX5 166 RX0 yX0_together wsX0_together) := goodIn_app (goodIn_of _ (by decide +kernel)) ggX5_inOthers_X0_together
theorem dX5_inOthers_0 : decode cX5_inOthers 0 = .ok (.aload_n 0, 1) := by decide +kernel
theorem dX5_inOthers_1 : decode cX5_inOthers 1 = .ok (.getfield 46, 3) := by decide +kernel
theorem dX5_inOthers_4 : decode cX5_inOthers 4 = .ok (.invokevirtual 208, 3) := by decide +kernel
theorem dX5_inOthers_7 : decode cX5_inOthers 7 = .ok (.aload_n 0, 1) := by decide +kernel
theorem dX5_inOthers_8 : decode cX5_inOthers 8 = .ok (.getfield 46, 3) := by decide +kernel
theorem dX5_inOthers_11 : decode cX5_inOthers 11 = .ok (.aload_n 0, 1) := by decide +kernel
theorem dX5_inOthers_12 : decode cX5_inOthers 12 = .ok (.getfield 30, 3) := by decide +kernel
theorem dX5_inOthers_15 : decode cX5_inOthers 15 = .ok (.iconst 0, 1) := by decide +kernel
theorem dX5_inOthers_16 : decode cX5_inOthers 16 = .ok (.iload_n 2, 1) := by decide +kernel
theorem dX5_inOthers_17 : decode cX5_inOthers 17 = .ok (.invokevirtual 209, 3) := by decide +kernel
theorem dX5_inOthers_20 : decode cX5_inOthers 20 = .ok (.aload_n 0, 1) := by decide +kernel
theorem dX5_inOthers_21 : decode cX5_inOthers 21 = .ok (.getfield 46, 3) := by decide +kernel
theorem dX5_inOthers_24 : decode cX5_inOthers 24 = .ok (.iload_n 1, 1) := by decide +kernel
theorem dX5_inOthers_25 : decode cX5_inOthers 25 = .ok (.invokevirtual 276, 3) := by decide +kernel
theorem dX5_inOthers_28 : decode cX5_inOthers 28 = .ok (.pop2, 1) := by decide +kernel
theorem dX5_inOthers_29 : decode cX5_inOthers 29 = .ok (.aload_n 0, 1) := by decide +kernel
theorem dX5_inOthers_30 : decode cX5_inOthers 30 = .ok (.getfield 46, 3) := by decide +kernel
theorem dX5_inOthers_33 : decode cX5_inOthers 33 = .ok (.invokevirtual 166, 3) := by decide +kernel
theorem dX5_inOthers_36 : decode cX5_inOthers 36 = .ok (.lreturn, 1) := by decide +kernel
set_option maxRecDepth 20000 in
theorem ggX5_chipBits_X3_copyFrom : GoodIn wsX5_chipBits wsX3_copyFrom := goodIn_r _ [11, 12, 13, 14, 15, 16, 17, 18, 19, 20, 21, 84, 85, 86, 87, 88, 89] (by decide +kernel) (by decide +kernel)
set_option maxRecDepth 20000 in
theorem gX5_chipBits_X3_copyFrom : GoodIn wsX5_chipBits (wsV RX5 87 RX3 yX3_copyFrom wsX3_copyFrom) := goodIn_app (goodIn_of _ (by decide +kernel)) ggX5_chipBits_X3_copyFrom
set_option maxRecDepth 20000 in
theorem ggX5_chipBits_X5_leavesWhatStands : GoodIn wsX5_chipBits wsX5_leavesWhatStands := goodIn_r _ [26, 27, 1, 28, 29, 30, 31, 32, 33, 34, 35, 36, 37, 38, 39, 40, 41, 42, 43, 44, 45, 46, 47, 48, 10, 49, 21, 50, 51, 52, 53, 54, 55, 56, 57, 58, 59, 60, 61, 62, 63, 64, 65, 19, 12, 66, 67, 68, 69, 70, 74, 75, 76, 77, 78, 79, 80, 81, 82, 83, 90, 91, 92, 93, 94, 95, 84, 85, 86, 87, 88, 89] (by decide +kernel) (by decide +kernel)
set_option maxRecDepth 20000 in
theorem gX5_chipBits_X5_leavesWhatStands : GoodIn wsX5_chipBits (wsV RX5 279 RX5 yX5_leavesWhatStands wsX5_leavesWhatStands) := goodIn_app (goodIn_of _ (by decide +kernel)) ggX5_chipBits_X5_leavesWhatStands
set_option maxRecDepth 20000 in
theorem ggX5_chipBits_X5_takenBy : GoodIn wsX5_chipBits wsX5_takenBy := goodIn_r _ [73] (by decide +kernel) (by decide +kernel)
set_option maxRecDepth 20000 in
theorem gX5_chipBits_X5_takenBy : GoodIn wsX5_chipBits (va_wsS RX5 282 yX5_takenBy wsX5_takenBy) := goodIn_app (goodIn_of _ (by decide +kernel)) ggX5_chipBits_X5_takenBy
theorem dX5_chipBits_0 : decode cX5_chipBits 0 = .ok (.aload_n 0, 1) := by decide +kernel
theorem dX5_chipBits_1 : decode cX5_chipBits 1 = .ok (.getfield 30, 3) := by decide +kernel
theorem dX5_chipBits_4 : decode cX5_chipBits 4 = .ok (.aload_n 0, 1) := by decide +kernel
theorem dX5_chipBits_5 : decode cX5_chipBits 5 = .ok (.getfield 26, 3) := by decide +kernel
theorem dX5_chipBits_8 : decode cX5_chipBits 8 = .ok (.invokevirtual 87, 3) := by decide +kernel
theorem dX5_chipBits_11 : decode cX5_chipBits 11 = .ok (.aload_n 0, 1) := by decide +kernel
theorem dX5_chipBits_12 : decode cX5_chipBits 12 = .ok (.iload_n 1, 1) := by decide +kernel
theorem dX5_chipBits_13 : decode cX5_chipBits 13 = .ok (.invokevirtual 279, 3) := by decide +kernel
theorem dX5_chipBits_16 : decode cX5_chipBits 16 = .ok (.ifCond .eq 9, 3) := by decide +kernel
theorem dX5_chipBits_19 : decode cX5_chipBits 19 = .ok (.sipush 512, 3) := by decide +kernel
theorem dX5_chipBits_22 : decode cX5_chipBits 22 = .ok (.goto 4, 3) := by decide +kernel
theorem dX5_chipBits_25 : decode cX5_chipBits 25 = .ok (.iconst 0, 1) := by decide +kernel
theorem dX5_chipBits_26 : decode cX5_chipBits 26 = .ok (.istore_n 2, 1) := by decide +kernel
theorem dX5_chipBits_27 : decode cX5_chipBits 27 = .ok (.iconst 0, 1) := by decide +kernel
theorem dX5_chipBits_28 : decode cX5_chipBits 28 = .ok (.istore_n 3, 1) := by decide +kernel
theorem dX5_chipBits_29 : decode cX5_chipBits 29 = .ok (.iload_n 3, 1) := by decide +kernel
theorem dX5_chipBits_30 : decode cX5_chipBits 30 = .ok (.aload_n 0, 1) := by decide +kernel
theorem dX5_chipBits_31 : decode cX5_chipBits 31 = .ok (.getfield 26, 3) := by decide +kernel
theorem dX5_chipBits_34 : decode cX5_chipBits 34 = .ok (.getfield 101, 3) := by decide +kernel
theorem dX5_chipBits_37 : decode cX5_chipBits 37 = .ok (.if_icmp .ge 75, 3) := by decide +kernel
theorem dX5_chipBits_40 : decode cX5_chipBits 40 = .ok (.aload_n 0, 1) := by decide +kernel
theorem dX5_chipBits_41 : decode cX5_chipBits 41 = .ok (.getfield 26, 3) := by decide +kernel
theorem dX5_chipBits_44 : decode cX5_chipBits 44 = .ok (.getfield 106, 3) := by decide +kernel
theorem dX5_chipBits_47 : decode cX5_chipBits 47 = .ok (.iload_n 3, 1) := by decide +kernel
theorem dX5_chipBits_48 : decode cX5_chipBits 48 = .ok (.iaload, 1) := by decide +kernel
theorem dX5_chipBits_49 : decode cX5_chipBits 49 = .ok (.ifCond .ne 57, 3) := by decide +kernel
theorem dX5_chipBits_52 : decode cX5_chipBits 52 = .ok (.aload_n 0, 1) := by decide +kernel
theorem dX5_chipBits_53 : decode cX5_chipBits 53 = .ok (.getfield 30, 3) := by decide +kernel
theorem dX5_chipBits_56 : decode cX5_chipBits 56 = .ok (.getfield 113, 3) := by decide +kernel
theorem dX5_chipBits_59 : decode cX5_chipBits 59 = .ok (.iload_n 3, 1) := by decide +kernel
theorem dX5_chipBits_60 : decode cX5_chipBits 60 = .ok (.iconst 1, 1) := by decide +kernel
theorem dX5_chipBits_61 : decode cX5_chipBits 61 = .ok (.aload_n 0, 1) := by decide +kernel
theorem dX5_chipBits_62 : decode cX5_chipBits 62 = .ok (.getfield 26, 3) := by decide +kernel
theorem dX5_chipBits_65 : decode cX5_chipBits 65 = .ok (.getfield 110, 3) := by decide +kernel
theorem dX5_chipBits_68 : decode cX5_chipBits 68 = .ok (.iload_n 3, 1) := by decide +kernel
theorem dX5_chipBits_69 : decode cX5_chipBits 69 = .ok (.iaload, 1) := by decide +kernel
theorem dX5_chipBits_70 : decode cX5_chipBits 70 = .ok (.invokestatic 282, 3) := by decide +kernel
theorem dX5_chipBits_73 : decode cX5_chipBits 73 = .ok (.iastore, 1) := by decide +kernel
theorem dX5_chipBits_74 : decode cX5_chipBits 74 = .ok (.aload_n 0, 1) := by decide +kernel
theorem dX5_chipBits_75 : decode cX5_chipBits 75 = .ok (.iload_n 1, 1) := by decide +kernel
theorem dX5_chipBits_76 : decode cX5_chipBits 76 = .ok (.invokevirtual 279, 3) := by decide +kernel
theorem dX5_chipBits_79 : decode cX5_chipBits 79 = .ok (.ifCond .eq 9, 3) := by decide +kernel
theorem dX5_chipBits_82 : decode cX5_chipBits 82 = .ok (.iload_n 2, 1) := by decide +kernel
theorem dX5_chipBits_83 : decode cX5_chipBits 83 = .ok (.iconst 1, 1) := by decide +kernel
theorem dX5_chipBits_84 : decode cX5_chipBits 84 = .ok (.iload_n 3, 1) := by decide +kernel
theorem dX5_chipBits_85 : decode cX5_chipBits 85 = .ok (.ishl, 1) := by decide +kernel
theorem dX5_chipBits_86 : decode cX5_chipBits 86 = .ok (.ior, 1) := by decide +kernel
theorem dX5_chipBits_87 : decode cX5_chipBits 87 = .ok (.istore_n 2, 1) := by decide +kernel
theorem dX5_chipBits_88 : decode cX5_chipBits 88 = .ok (.aload_n 0, 1) := by decide +kernel
theorem dX5_chipBits_89 : decode cX5_chipBits 89 = .ok (.getfield 30, 3) := by decide +kernel
theorem dX5_chipBits_92 : decode cX5_chipBits 92 = .ok (.getfield 113, 3) := by decide +kernel
theorem dX5_chipBits_95 : decode cX5_chipBits 95 = .ok (.iload_n 3, 1) := by decide +kernel
theorem dX5_chipBits_96 : decode cX5_chipBits 96 = .ok (.aload_n 0, 1) := by decide +kernel
theorem dX5_chipBits_97 : decode cX5_chipBits 97 = .ok (.getfield 26, 3) := by decide +kernel
theorem dX5_chipBits_100 : decode cX5_chipBits 100 = .ok (.getfield 113, 3) := by decide +kernel
theorem dX5_chipBits_103 : decode cX5_chipBits 103 = .ok (.iload_n 3, 1) := by decide +kernel
theorem dX5_chipBits_104 : decode cX5_chipBits 104 = .ok (.iaload, 1) := by decide +kernel
theorem dX5_chipBits_105 : decode cX5_chipBits 105 = .ok (.iastore, 1) := by decide +kernel
theorem dX5_chipBits_106 : decode cX5_chipBits 106 = .ok (.iinc 3 1, 3) := by decide +kernel
theorem dX5_chipBits_109 : decode cX5_chipBits 109 = .ok (.goto (-80), 3) := by decide +kernel
theorem dX5_chipBits_112 : decode cX5_chipBits 112 = .ok (.iload_n 2, 1) := by decide +kernel
theorem dX5_chipBits_113 : decode cX5_chipBits 113 = .ok (.ireturn, 1) := by decide +kernel
set_option maxRecDepth 20000 in
theorem ggX5_leavesWhatStands_X0_makeEmpty : GoodIn wsX5_leavesWhatStands wsX0_makeEmpty := goodIn_r _ [9, 10, 11, 12, 13, 14, 15, 64, 65] (by decide +kernel) (by decide +kernel)
set_option maxRecDepth 20000 in
theorem gX5_leavesWhatStands_X0_makeEmpty : GoodIn wsX5_leavesWhatStands (wsV RX5 208 RX0 yX0_makeEmpty wsX0_makeEmpty) := goodIn_app (goodIn_of _ (by decide +kernel)) ggX5_leavesWhatStands_X0_makeEmpty
set_option maxRecDepth 20000 in
theorem ggX5_leavesWhatStands_X0_addTo : GoodIn wsX5_leavesWhatStands wsX0_addTo := goodIn_r _ [19, 10, 20, 21, 22, 23, 24, 25, 26, 27, 28, 29, 8, 30, 31, 32, 33, 34, 35, 36, 11, 37, 38, 39, 40, 41, 42, 43, 44, 45, 64, 65, 66, 67, 68, 69, 70, 71] (by decide +kernel) (by decide +kernel)
set_option maxRecDepth 20000 in
theorem gX5_leavesWhatStands_X0_addTo : GoodIn wsX5_leavesWhatStands (wsV RX5 209 RX0 yX0_addTo wsX0_addTo) := goodIn_app (goodIn_of _ (by decide +kernel)) ggX5_leavesWhatStands_X0_addTo
set_option maxRecDepth 20000 in
theorem ggX5_leavesWhatStands_X0_standsAs : GoodIn wsX5_leavesWhatStands wsX0_standsAs := goodIn_r _ [49, 10, 64, 65] (by decide +kernel) (by decide +kernel)
set_option maxRecDepth 20000 in
theorem gX5_leavesWhatStands_X0_standsAs : GoodIn wsX5_leavesWhatStands (wsV RX5 285 RX0 yX0_standsAs wsX0_standsAs) := goodIn_app (goodIn_of _ (by decide +kernel)) ggX5_leavesWhatStands_X0_standsAs
theorem dX5_leavesWhatStands_0 : decode cX5_leavesWhatStands 0 = .ok (.aload_n 0, 1) := by decide +kernel
theorem dX5_leavesWhatStands_1 : decode cX5_leavesWhatStands 1 = .ok (.getfield 46, 3) := by decide +kernel
theorem dX5_leavesWhatStands_4 : decode cX5_leavesWhatStands 4 = .ok (.invokevirtual 208, 3) := by decide +kernel
theorem dX5_leavesWhatStands_7 : decode cX5_leavesWhatStands 7 = .ok (.aload_n 0, 1) := by decide +kernel
theorem dX5_leavesWhatStands_8 : decode cX5_leavesWhatStands 8 = .ok (.getfield 46, 3) := by decide +kernel
theorem dX5_leavesWhatStands_11 : decode cX5_leavesWhatStands 11 = .ok (.aload_n 0, 1) := by decide +kernel
theorem dX5_leavesWhatStands_12 : decode cX5_leavesWhatStands 12 = .ok (.getfield 30, 3) := by decide +kernel
theorem dX5_leavesWhatStands_15 : decode cX5_leavesWhatStands 15 = .ok (.iconst 0, 1) := by decide +kernel
theorem dX5_leavesWhatStands_16 : decode cX5_leavesWhatStands 16 = .ok (.iload_n 1, 1) := by decide +kernel
theorem dX5_leavesWhatStands_17 : decode cX5_leavesWhatStands 17 = .ok (.invokevirtual 209, 3) := by decide +kernel
theorem dX5_leavesWhatStands_20 : decode cX5_leavesWhatStands 20 = .ok (.aload_n 0, 1) := by decide +kernel
theorem dX5_leavesWhatStands_21 : decode cX5_leavesWhatStands 21 = .ok (.getfield 46, 3) := by decide +kernel
theorem dX5_leavesWhatStands_24 : decode cX5_leavesWhatStands 24 = .ok (.aload_n 0, 1) := by decide +kernel
theorem dX5_leavesWhatStands_25 : decode cX5_leavesWhatStands 25 = .ok (.getfield 36, 3) := by decide +kernel
theorem dX5_leavesWhatStands_28 : decode cX5_leavesWhatStands 28 = .ok (.getfield 126, 3) := by decide +kernel
theorem dX5_leavesWhatStands_31 : decode cX5_leavesWhatStands 31 = .ok (.invokevirtual 285, 3) := by decide +kernel
theorem dX5_leavesWhatStands_34 : decode cX5_leavesWhatStands 34 = .ok (.ireturn, 1) := by decide +kernel
set_option maxRecDepth 20000 in
theorem ggX5_pourBySeed_X0_copyFrom : GoodIn wsX5_pourBySeed wsX0_copyFrom := goodIn_r _ [10, 11, 12, 13, 14, 15, 16, 82, 83] (by decide +kernel) (by decide +kernel)
set_option maxRecDepth 20000 in
theorem gX5_pourBySeed_X0_copyFrom : GoodIn wsX5_pourBySeed (wsV RX5 260 RX0 yX0_copyFrom wsX0_copyFrom) := goodIn_app (goodIn_of _ (by decide +kernel)) ggX5_pourBySeed_X0_copyFrom
set_option maxRecDepth 20000 in
theorem ggX5_pourBySeed_X5_nextSeed : GoodIn wsX5_pourBySeed wsX5_nextSeed := goodIn_r _ [20, 21, 22, 23] (by decide +kernel) (by decide +kernel)
set_option maxRecDepth 20000 in
theorem gX5_pourBySeed_X5_nextSeed : GoodIn wsX5_pourBySeed (va_wsS RX5 289 yX5_nextSeed wsX5_nextSeed) := goodIn_app (goodIn_of _ (by decide +kernel)) ggX5_pourBySeed_X5_nextSeed
set_option maxRecDepth 20000 in
theorem ggX5_pourBySeed_X5_drawn : GoodIn wsX5_pourBySeed wsX5_drawn := goodIn_r _ [26, 27] (by decide +kernel) (by decide +kernel)
set_option maxRecDepth 20000 in
theorem gX5_pourBySeed_X5_drawn : GoodIn wsX5_pourBySeed (va_wsS RX5 292 yX5_drawn wsX5_drawn) := goodIn_app (goodIn_of _ (by decide +kernel)) ggX5_pourBySeed_X5_drawn
set_option maxRecDepth 20000 in
theorem ggX5_pourBySeed_X0_addTo : GoodIn wsX5_pourBySeed wsX0_addTo := goodIn_r _ [31, 11, 32, 33, 34, 35, 36, 37, 38, 39, 40, 41, 9, 42, 43, 44, 45, 46, 47, 48, 16, 49, 50, 51, 52, 53, 54, 55, 56, 57, 82, 83, 76, 77, 78, 79, 80, 81] (by decide +kernel) (by decide +kernel)
set_option maxRecDepth 20000 in
theorem gX5_pourBySeed_X0_addTo : GoodIn wsX5_pourBySeed (wsV RX5 209 RX0 yX0_addTo wsX0_addTo) := goodIn_app (goodIn_of _ (by decide +kernel)) ggX5_pourBySeed_X0_addTo
set_option maxRecDepth 20000 in
theorem ggX5_pourBySeed_X0_takeOut : GoodIn wsX5_pourBySeed wsX0_takeOut := goodIn_r _ [61, 11, 82, 83] (by decide +kernel) (by decide +kernel)
set_option maxRecDepth 20000 in
theorem gX5_pourBySeed_X0_takeOut : GoodIn wsX5_pourBySeed (wsV RX5 276 RX0 yX0_takeOut wsX0_takeOut) := goodIn_app (goodIn_of _ (by decide +kernel)) ggX5_pourBySeed_X0_takeOut
theorem dX5_pourBySeed_0 : decode cX5_pourBySeed 0 = .ok (.iload_n 2, 1) := by decide +kernel
theorem dX5_pourBySeed_1 : decode cX5_pourBySeed 1 = .ok (.istore_n 3, 1) := by decide +kernel
theorem dX5_pourBySeed_2 : decode cX5_pourBySeed 2 = .ok (.aload_n 0, 1) := by decide +kernel
theorem dX5_pourBySeed_3 : decode cX5_pourBySeed 3 = .ok (.getfield 46, 3) := by decide +kernel
theorem dX5_pourBySeed_6 : decode cX5_pourBySeed 6 = .ok (.aload_n 0, 1) := by decide +kernel
theorem dX5_pourBySeed_7 : decode cX5_pourBySeed 7 = .ok (.getfield 36, 3) := by decide +kernel
theorem dX5_pourBySeed_10 : decode cX5_pourBySeed 10 = .ok (.getfield 126, 3) := by decide +kernel
theorem dX5_pourBySeed_13 : decode cX5_pourBySeed 13 = .ok (.invokevirtual 260, 3) := by decide +kernel
theorem dX5_pourBySeed_16 : decode cX5_pourBySeed 16 = .ok (.iconst 0, 1) := by decide +kernel
theorem dX5_pourBySeed_17 : decode cX5_pourBySeed 17 = .ok (.istore 4, 2) := by decide +kernel
theorem dX5_pourBySeed_19 : decode cX5_pourBySeed 19 = .ok (.iload 4, 2) := by decide +kernel
theorem dX5_pourBySeed_21 : decode cX5_pourBySeed 21 = .ok (.iload_n 1, 1) := by decide +kernel
theorem dX5_pourBySeed_22 : decode cX5_pourBySeed 22 = .ok (.if_icmp .ge 74, 3) := by decide +kernel
theorem dX5_pourBySeed_25 : decode cX5_pourBySeed 25 = .ok (.iload_n 3, 1) := by decide +kernel
theorem dX5_pourBySeed_26 : decode cX5_pourBySeed 26 = .ok (.invokestatic 289, 3) := by decide +kernel
theorem dX5_pourBySeed_29 : decode cX5_pourBySeed 29 = .ok (.istore_n 3, 1) := by decide +kernel
theorem dX5_pourBySeed_30 : decode cX5_pourBySeed 30 = .ok (.aload_n 0, 1) := by decide +kernel
theorem dX5_pourBySeed_31 : decode cX5_pourBySeed 31 = .ok (.getfield 46, 3) := by decide +kernel
theorem dX5_pourBySeed_34 : decode cX5_pourBySeed 34 = .ok (.aload_n 0, 1) := by decide +kernel
theorem dX5_pourBySeed_35 : decode cX5_pourBySeed 35 = .ok (.getfield 26, 3) := by decide +kernel
theorem dX5_pourBySeed_38 : decode cX5_pourBySeed 38 = .ok (.iload_n 3, 1) := by decide +kernel
theorem dX5_pourBySeed_39 : decode cX5_pourBySeed 39 = .ok (.aload_n 0, 1) := by decide +kernel
theorem dX5_pourBySeed_40 : decode cX5_pourBySeed 40 = .ok (.getfield 26, 3) := by decide +kernel
theorem dX5_pourBySeed_43 : decode cX5_pourBySeed 43 = .ok (.getfield 101, 3) := by decide +kernel
theorem dX5_pourBySeed_46 : decode cX5_pourBySeed 46 = .ok (.invokestatic 292, 3) := by decide +kernel
theorem dX5_pourBySeed_49 : decode cX5_pourBySeed 49 = .ok (.iconst 1, 1) := by decide +kernel
theorem dX5_pourBySeed_50 : decode cX5_pourBySeed 50 = .ok (.invokevirtual 209, 3) := by decide +kernel
theorem dX5_pourBySeed_53 : decode cX5_pourBySeed 53 = .ok (.iload_n 3, 1) := by decide +kernel
theorem dX5_pourBySeed_54 : decode cX5_pourBySeed 54 = .ok (.invokestatic 289, 3) := by decide +kernel
theorem dX5_pourBySeed_57 : decode cX5_pourBySeed 57 = .ok (.istore_n 3, 1) := by decide +kernel
theorem dX5_pourBySeed_58 : decode cX5_pourBySeed 58 = .ok (.iload_n 3, 1) := by decide +kernel
theorem dX5_pourBySeed_59 : decode cX5_pourBySeed 59 = .ok (.iconst 4, 1) := by decide +kernel
theorem dX5_pourBySeed_60 : decode cX5_pourBySeed 60 = .ok (.invokestatic 292, 3) := by decide +kernel
theorem dX5_pourBySeed_63 : decode cX5_pourBySeed 63 = .ok (.ifCond .ne 27, 3) := by decide +kernel
theorem dX5_pourBySeed_66 : decode cX5_pourBySeed 66 = .ok (.iload_n 3, 1) := by decide +kernel
theorem dX5_pourBySeed_67 : decode cX5_pourBySeed 67 = .ok (.invokestatic 289, 3) := by decide +kernel
theorem dX5_pourBySeed_70 : decode cX5_pourBySeed 70 = .ok (.istore_n 3, 1) := by decide +kernel
theorem dX5_pourBySeed_71 : decode cX5_pourBySeed 71 = .ok (.aload_n 0, 1) := by decide +kernel
theorem dX5_pourBySeed_72 : decode cX5_pourBySeed 72 = .ok (.getfield 46, 3) := by decide +kernel
theorem dX5_pourBySeed_75 : decode cX5_pourBySeed 75 = .ok (.iload_n 3, 1) := by decide +kernel
theorem dX5_pourBySeed_76 : decode cX5_pourBySeed 76 = .ok (.aload_n 0, 1) := by decide +kernel
theorem dX5_pourBySeed_77 : decode cX5_pourBySeed 77 = .ok (.getfield 26, 3) := by decide +kernel
theorem dX5_pourBySeed_80 : decode cX5_pourBySeed 80 = .ok (.getfield 101, 3) := by decide +kernel
theorem dX5_pourBySeed_83 : decode cX5_pourBySeed 83 = .ok (.invokestatic 292, 3) := by decide +kernel
theorem dX5_pourBySeed_86 : decode cX5_pourBySeed 86 = .ok (.invokevirtual 276, 3) := by decide +kernel
theorem dX5_pourBySeed_89 : decode cX5_pourBySeed 89 = .ok (.pop2, 1) := by decide +kernel
theorem dX5_pourBySeed_90 : decode cX5_pourBySeed 90 = .ok (.iinc 4 1, 3) := by decide +kernel
theorem dX5_pourBySeed_93 : decode cX5_pourBySeed 93 = .ok (.goto (-74), 3) := by decide +kernel
theorem dX5_pourBySeed_96 : decode cX5_pourBySeed 96 = .ok (.iload_n 3, 1) := by decide +kernel
theorem dX5_pourBySeed_97 : decode cX5_pourBySeed 97 = .ok (.ireturn, 1) := by decide +kernel
theorem dX5_nextSeed_0 : decode cX5_nextSeed 0 = .ok (.ldc2_w 295, 3) := by decide +kernel
theorem dX5_nextSeed_3 : decode cX5_nextSeed 3 = .ok (.iload_n 0, 1) := by decide +kernel
theorem dX5_nextSeed_4 : decode cX5_nextSeed 4 = .ok (.i2l, 1) := by decide +kernel
theorem dX5_nextSeed_5 : decode cX5_nextSeed 5 = .ok (.lmul, 1) := by decide +kernel
theorem dX5_nextSeed_6 : decode cX5_nextSeed 6 = .ok (.ldc2_w 297, 3) := by decide +kernel
theorem dX5_nextSeed_9 : decode cX5_nextSeed 9 = .ok (.ladd, 1) := by decide +kernel
theorem dX5_nextSeed_10 : decode cX5_nextSeed 10 = .ok (.ldc2_w 299, 3) := by decide +kernel
theorem dX5_nextSeed_13 : decode cX5_nextSeed 13 = .ok (.land, 1) := by decide +kernel
theorem dX5_nextSeed_14 : decode cX5_nextSeed 14 = .ok (.l2i, 1) := by decide +kernel
theorem dX5_nextSeed_15 : decode cX5_nextSeed 15 = .ok (.ireturn, 1) := by decide +kernel
theorem dX5_drawn_0 : decode cX5_drawn 0 = .ok (.iload_n 1, 1) := by decide +kernel
theorem dX5_drawn_1 : decode cX5_drawn 1 = .ok (.ifCond .le 13, 3) := by decide +kernel
theorem dX5_drawn_4 : decode cX5_drawn 4 = .ok (.iload_n 0, 1) := by decide +kernel
theorem dX5_drawn_5 : decode cX5_drawn 5 = .ok (.ldc_w 301, 3) := by decide +kernel
theorem dX5_drawn_8 : decode cX5_drawn 8 = .ok (.idiv, 1) := by decide +kernel
theorem dX5_drawn_9 : decode cX5_drawn 9 = .ok (.iload_n 1, 1) := by decide +kernel
theorem dX5_drawn_10 : decode cX5_drawn 10 = .ok (.irem, 1) := by decide +kernel
theorem dX5_drawn_11 : decode cX5_drawn 11 = .ok (.goto 4, 3) := by decide +kernel
theorem dX5_drawn_14 : decode cX5_drawn 14 = .ok (.iconst 0, 1) := by decide +kernel
theorem dX5_drawn_15 : decode cX5_drawn 15 = .ok (.ireturn, 1) := by decide +kernel
theorem dX5_into_0 : decode cX5_into 0 = .ok (.ldc2_w 302, 3) := by decide +kernel
theorem dX5_into_3 : decode cX5_into 3 = .ok (.lload_n 0, 1) := by decide +kernel
theorem dX5_into_4 : decode cX5_into 4 = .ok (.lmul, 1) := by decide +kernel
theorem dX5_into_5 : decode cX5_into 5 = .ok (.lload_n 2, 1) := by decide +kernel
theorem dX5_into_6 : decode cX5_into 6 = .ok (.ladd, 1) := by decide +kernel
theorem dX5_into_7 : decode cX5_into 7 = .ok (.lreturn, 1) := by decide +kernel
set_option maxRecDepth 20000 in
theorem ggX5_glassInto_X5_about : GoodIn wsX5_glassInto wsX5_about := goodIn_r _ [5, 6, 7, 8, 9, 10, 11, 12, 13, 14, 15, 16, 17, 18, 19, 20, 21, 22, 23, 24, 25, 26, 27, 28, 29, 30, 31, 32, 33, 34, 35, 66, 67, 68, 69, 70, 71, 72, 73, 74, 75, 76, 77, 78, 79, 80, 81, 82, 83, 84, 85, 86, 87] (by decide +kernel) (by decide +kernel)
set_option maxRecDepth 20000 in
theorem gX5_glassInto_X5_about : GoodIn wsX5_glassInto (wsV RX5 304 RX5 yX5_about wsX5_about) := goodIn_app (goodIn_of _ (by decide +kernel)) ggX5_glassInto_X5_about
set_option maxRecDepth 20000 in
theorem ggX5_glassInto_X5_into : GoodIn wsX5_glassInto wsX5_into := goodIn_r _ [38, 39] (by decide +kernel) (by decide +kernel)
set_option maxRecDepth 20000 in
theorem gX5_glassInto_X5_into : GoodIn wsX5_glassInto (va_wsS RX5 236 yX5_into wsX5_into) := goodIn_app (goodIn_of _ (by decide +kernel)) ggX5_glassInto_X5_into
set_option maxRecDepth 20000 in
theorem ggX5_glassInto_X5_in : GoodIn wsX5_glassInto wsX5_in := goodIn_r _ [43, 6, 44, 45, 11, 13, 46, 14, 15, 16, 17, 18, 19, 47, 48, 4, 49, 50, 51, 52, 53, 54, 55, 56, 57, 58, 59, 60, 66, 67, 68, 69, 70, 71, 72, 73, 74, 75, 82, 83, 84, 85, 86, 87, 76, 77, 78, 79, 80, 81] (by decide +kernel) (by decide +kernel)
set_option maxRecDepth 20000 in
theorem gX5_glassInto_X5_in : GoodIn wsX5_glassInto (wsV RX5 307 RX5 yX5_in wsX5_in) := goodIn_app (goodIn_of _ (by decide +kernel)) ggX5_glassInto_X5_in
set_option maxRecDepth 20000 in
theorem ggX5_glassInto_X5_drunk : GoodIn wsX5_glassInto wsX5_drunk := goodIn_r _ [64, 6, 44, 45, 11, 65, 14, 15, 16, 17, 18, 19, 47, 48, 4, 49, 50, 51, 52, 53, 54, 55, 56, 57, 58, 59, 60, 66, 67, 68, 69, 70, 71, 72, 73, 74, 75, 82, 83, 84, 85, 76, 77, 78, 79, 80, 81] (by decide +kernel) (by decide +kernel)
set_option maxRecDepth 20000 in
theorem gX5_glassInto_X5_drunk : GoodIn wsX5_glassInto (wsV RX5 310 RX5 yX5_drunk wsX5_drunk) := goodIn_app (goodIn_of _ (by decide +kernel)) ggX5_glassInto_X5_drunk
theorem dX5_glassInto_0 : decode cX5_glassInto 0 = .ok (.lload_n 1, 1) := by decide +kernel
theorem dX5_glassInto_1 : decode cX5_glassInto 1 = .ok (.lstore 4, 2) := by decide +kernel
theorem dX5_glassInto_3 : decode cX5_glassInto 3 = .ok (.iconst 0, 1) := by decide +kernel
theorem dX5_glassInto_4 : decode cX5_glassInto 4 = .ok (.istore 6, 2) := by decide +kernel
theorem dX5_glassInto_6 : decode cX5_glassInto 6 = .ok (.iload 6, 2) := by decide +kernel
theorem dX5_glassInto_8 : decode cX5_glassInto 8 = .ok (.bipush 8, 2) := by decide +kernel
theorem dX5_glassInto_10 : decode cX5_glassInto 10 = .ok (.if_icmp .gt 24, 3) := by decide +kernel
theorem dX5_glassInto_13 : decode cX5_glassInto 13 = .ok (.lload 4, 2) := by decide +kernel
theorem dX5_glassInto_15 : decode cX5_glassInto 15 = .ok (.aload_n 0, 1) := by decide +kernel
theorem dX5_glassInto_16 : decode cX5_glassInto 16 = .ok (.iload_n 3, 1) := by decide +kernel
theorem dX5_glassInto_17 : decode cX5_glassInto 17 = .ok (.iload 6, 2) := by decide +kernel
theorem dX5_glassInto_19 : decode cX5_glassInto 19 = .ok (.invokevirtual 304, 3) := by decide +kernel
theorem dX5_glassInto_22 : decode cX5_glassInto 22 = .ok (.i2l, 1) := by decide +kernel
theorem dX5_glassInto_23 : decode cX5_glassInto 23 = .ok (.invokestatic 236, 3) := by decide +kernel
theorem dX5_glassInto_26 : decode cX5_glassInto 26 = .ok (.lstore 4, 2) := by decide +kernel
theorem dX5_glassInto_28 : decode cX5_glassInto 28 = .ok (.iinc 6 1, 3) := by decide +kernel
theorem dX5_glassInto_31 : decode cX5_glassInto 31 = .ok (.goto (-25), 3) := by decide +kernel
theorem dX5_glassInto_34 : decode cX5_glassInto 34 = .ok (.lload 4, 2) := by decide +kernel
theorem dX5_glassInto_36 : decode cX5_glassInto 36 = .ok (.aload_n 0, 1) := by decide +kernel
theorem dX5_glassInto_37 : decode cX5_glassInto 37 = .ok (.iload_n 3, 1) := by decide +kernel
theorem dX5_glassInto_38 : decode cX5_glassInto 38 = .ok (.iconst 0, 1) := by decide +kernel
theorem dX5_glassInto_39 : decode cX5_glassInto 39 = .ok (.invokevirtual 307, 3) := by decide +kernel
theorem dX5_glassInto_42 : decode cX5_glassInto 42 = .ok (.invokestatic 236, 3) := by decide +kernel
theorem dX5_glassInto_45 : decode cX5_glassInto 45 = .ok (.lstore 4, 2) := by decide +kernel
theorem dX5_glassInto_47 : decode cX5_glassInto 47 = .ok (.lload 4, 2) := by decide +kernel
theorem dX5_glassInto_49 : decode cX5_glassInto 49 = .ok (.aload_n 0, 1) := by decide +kernel
theorem dX5_glassInto_50 : decode cX5_glassInto 50 = .ok (.iload_n 3, 1) := by decide +kernel
theorem dX5_glassInto_51 : decode cX5_glassInto 51 = .ok (.iconst 1, 1) := by decide +kernel
theorem dX5_glassInto_52 : decode cX5_glassInto 52 = .ok (.invokevirtual 307, 3) := by decide +kernel
theorem dX5_glassInto_55 : decode cX5_glassInto 55 = .ok (.invokestatic 236, 3) := by decide +kernel
theorem dX5_glassInto_58 : decode cX5_glassInto 58 = .ok (.lstore 4, 2) := by decide +kernel
theorem dX5_glassInto_60 : decode cX5_glassInto 60 = .ok (.lload 4, 2) := by decide +kernel
theorem dX5_glassInto_62 : decode cX5_glassInto 62 = .ok (.aload_n 0, 1) := by decide +kernel
theorem dX5_glassInto_63 : decode cX5_glassInto 63 = .ok (.iload_n 3, 1) := by decide +kernel
theorem dX5_glassInto_64 : decode cX5_glassInto 64 = .ok (.iconst 0, 1) := by decide +kernel
theorem dX5_glassInto_65 : decode cX5_glassInto 65 = .ok (.invokevirtual 310, 3) := by decide +kernel
theorem dX5_glassInto_68 : decode cX5_glassInto 68 = .ok (.invokestatic 236, 3) := by decide +kernel
theorem dX5_glassInto_71 : decode cX5_glassInto 71 = .ok (.lstore 4, 2) := by decide +kernel
theorem dX5_glassInto_73 : decode cX5_glassInto 73 = .ok (.lload 4, 2) := by decide +kernel
theorem dX5_glassInto_75 : decode cX5_glassInto 75 = .ok (.aload_n 0, 1) := by decide +kernel
theorem dX5_glassInto_76 : decode cX5_glassInto 76 = .ok (.iload_n 3, 1) := by decide +kernel
theorem dX5_glassInto_77 : decode cX5_glassInto 77 = .ok (.iconst 1, 1) := by decide +kernel
theorem dX5_glassInto_78 : decode cX5_glassInto 78 = .ok (.invokevirtual 310, 3) := by decide +kernel
theorem dX5_glassInto_81 : decode cX5_glassInto 81 = .ok (.invokestatic 236, 3) := by decide +kernel
theorem dX5_glassInto_84 : decode cX5_glassInto 84 = .ok (.lreturn, 1) := by decide +kernel
theorem dX6_init_0 : decode cX6_init 0 = .ok (.aload_n 0, 1) := by decide +kernel
theorem dX6_init_1 : decode cX6_init 1 = .ok (.invokespecial 1, 3) := by decide +kernel
theorem dX6_init_4 : decode cX6_init 4 = .ok (.aload_n 0, 1) := by decide +kernel
theorem dX6_init_5 : decode cX6_init 5 = .ok (.bipush 70, 2) := by decide +kernel
theorem dX6_init_7 : decode cX6_init 7 = .ok (.newarray .int, 2) := by decide +kernel
theorem dX6_init_9 : decode cX6_init 9 = .ok (.putfield 7, 3) := by decide +kernel
theorem dX6_init_12 : decode cX6_init 12 = .ok (.aload_n 0, 1) := by decide +kernel
theorem dX6_init_13 : decode cX6_init 13 = .ok (.bipush 54, 2) := by decide +kernel
theorem dX6_init_15 : decode cX6_init 15 = .ok (.newarray .int, 2) := by decide +kernel
theorem dX6_init_17 : decode cX6_init 17 = .ok (.putfield 13, 3) := by decide +kernel
theorem dX6_init_20 : decode cX6_init 20 = .ok (.aload_n 0, 1) := by decide +kernel
theorem dX6_init_21 : decode cX6_init 21 = .ok (.bipush 54, 2) := by decide +kernel
theorem dX6_init_23 : decode cX6_init 23 = .ok (.newarray .int, 2) := by decide +kernel
theorem dX6_init_25 : decode cX6_init 25 = .ok (.putfield 16, 3) := by decide +kernel
theorem dX6_init_28 : decode cX6_init 28 = .ok (.aload_n 0, 1) := by decide +kernel
theorem dX6_init_29 : decode cX6_init 29 = .ok (.bipush 9, 2) := by decide +kernel
theorem dX6_init_31 : decode cX6_init 31 = .ok (.newarray .int, 2) := by decide +kernel
theorem dX6_init_33 : decode cX6_init 33 = .ok (.putfield 19, 3) := by decide +kernel
theorem dX6_init_36 : decode cX6_init 36 = .ok (.aload_n 0, 1) := by decide +kernel
theorem dX6_init_37 : decode cX6_init 37 = .ok (.bipush 9, 2) := by decide +kernel
theorem dX6_init_39 : decode cX6_init 39 = .ok (.newarray .long, 2) := by decide +kernel
theorem dX6_init_41 : decode cX6_init 41 = .ok (.putfield 22, 3) := by decide +kernel
theorem dX6_init_44 : decode cX6_init 44 = .ok (.aload_n 0, 1) := by decide +kernel
theorem dX6_init_45 : decode cX6_init 45 = .ok (.bipush 9, 2) := by decide +kernel
theorem dX6_init_47 : decode cX6_init 47 = .ok (.newarray .long, 2) := by decide +kernel
theorem dX6_init_49 : decode cX6_init 49 = .ok (.putfield 26, 3) := by decide +kernel
theorem dX6_init_52 : decode cX6_init 52 = .ok (.aload_n 0, 1) := by decide +kernel
theorem dX6_init_53 : decode cX6_init 53 = .ok (.bipush 9, 2) := by decide +kernel
theorem dX6_init_55 : decode cX6_init 55 = .ok (.newarray .long, 2) := by decide +kernel
theorem dX6_init_57 : decode cX6_init 57 = .ok (.putfield 29, 3) := by decide +kernel
theorem dX6_init_60 : decode cX6_init 60 = .ok (.aload_n 0, 1) := by decide +kernel
theorem dX6_init_61 : decode cX6_init 61 = .ok (.bipush 9, 2) := by decide +kernel
theorem dX6_init_63 : decode cX6_init 63 = .ok (.newarray .int, 2) := by decide +kernel
theorem dX6_init_65 : decode cX6_init 65 = .ok (.putfield 32, 3) := by decide +kernel
theorem dX6_init_68 : decode cX6_init 68 = .ok (.aload_n 0, 1) := by decide +kernel
theorem dX6_init_69 : decode cX6_init 69 = .ok (.bipush 9, 2) := by decide +kernel
theorem dX6_init_71 : decode cX6_init 71 = .ok (.newarray .long, 2) := by decide +kernel
theorem dX6_init_73 : decode cX6_init 73 = .ok (.putfield 35, 3) := by decide +kernel
theorem dX6_init_76 : decode cX6_init 76 = .ok (.aload_n 0, 1) := by decide +kernel
theorem dX6_init_77 : decode cX6_init 77 = .ok (.bipush 9, 2) := by decide +kernel
theorem dX6_init_79 : decode cX6_init 79 = .ok (.newarray .long, 2) := by decide +kernel
theorem dX6_init_81 : decode cX6_init 81 = .ok (.putfield 38, 3) := by decide +kernel
theorem dX6_init_84 : decode cX6_init 84 = .ok (.aload_n 0, 1) := by decide +kernel
theorem dX6_init_85 : decode cX6_init 85 = .ok (.bipush 9, 2) := by decide +kernel
theorem dX6_init_87 : decode cX6_init 87 = .ok (.newarray .long, 2) := by decide +kernel
theorem dX6_init_89 : decode cX6_init 89 = .ok (.putfield 41, 3) := by decide +kernel
theorem dX6_init_92 : decode cX6_init 92 = .ok (.aload_n 0, 1) := by decide +kernel
theorem dX6_init_93 : decode cX6_init 93 = .ok (.bipush 9, 2) := by decide +kernel
theorem dX6_init_95 : decode cX6_init 95 = .ok (.newarray .int, 2) := by decide +kernel
theorem dX6_init_97 : decode cX6_init 97 = .ok (.putfield 44, 3) := by decide +kernel
theorem dX6_init_100 : decode cX6_init 100 = .ok (.aload_n 0, 1) := by decide +kernel
theorem dX6_init_101 : decode cX6_init 101 = .ok (.iconst (-1), 1) := by decide +kernel
theorem dX6_init_102 : decode cX6_init 102 = .ok (.putfield 47, 3) := by decide +kernel
theorem dX6_init_105 : decode cX6_init 105 = .ok (.return_, 1) := by decide +kernel
theorem dX6_isIn_0 : decode cX6_isIn 0 = .ok (.lload_n 0, 1) := by decide +kernel
theorem dX6_isIn_1 : decode cX6_isIn 1 = .ok (.lload_n 2, 1) := by decide +kernel
theorem dX6_isIn_2 : decode cX6_isIn 2 = .ok (.lcmp, 1) := by decide +kernel
theorem dX6_isIn_3 : decode cX6_isIn 3 = .ok (.ifCond .lt 14, 3) := by decide +kernel
theorem dX6_isIn_6 : decode cX6_isIn 6 = .ok (.lload_n 0, 1) := by decide +kernel
theorem dX6_isIn_7 : decode cX6_isIn 7 = .ok (.lload 4, 2) := by decide +kernel
theorem dX6_isIn_9 : decode cX6_isIn 9 = .ok (.lcmp, 1) := by decide +kernel
theorem dX6_isIn_10 : decode cX6_isIn 10 = .ok (.ifCond .gt 7, 3) := by decide +kernel
theorem dX6_isIn_13 : decode cX6_isIn 13 = .ok (.iconst 1, 1) := by decide +kernel
theorem dX6_isIn_14 : decode cX6_isIn 14 = .ok (.goto 4, 3) := by decide +kernel
theorem dX6_isIn_17 : decode cX6_isIn 17 = .ok (.iconst 0, 1) := by decide +kernel
theorem dX6_isIn_18 : decode cX6_isIn 18 = .ok (.ireturn, 1) := by decide +kernel
theorem dX6_letters_0 : decode cX6_letters 0 = .ok (.iconst 0, 1) := by decide +kernel
theorem dX6_letters_1 : decode cX6_letters 1 = .ok (.istore_n 3, 1) := by decide +kernel
theorem dX6_letters_2 : decode cX6_letters 2 = .ok (.iconst 1, 1) := by decide +kernel
theorem dX6_letters_3 : decode cX6_letters 3 = .ok (.istore 4, 2) := by decide +kernel
theorem dX6_letters_5 : decode cX6_letters 5 = .ok (.lload_n 1, 1) := by decide +kernel
theorem dX6_letters_6 : decode cX6_letters 6 = .ok (.lstore 5, 2) := by decide +kernel
theorem dX6_letters_8 : decode cX6_letters 8 = .ok (.iconst 0, 1) := by decide +kernel
theorem dX6_letters_9 : decode cX6_letters 9 = .ok (.istore 7, 2) := by decide +kernel
theorem dX6_letters_11 : decode cX6_letters 11 = .ok (.iload 7, 2) := by decide +kernel
theorem dX6_letters_13 : decode cX6_letters 13 = .ok (.bipush 8, 2) := by decide +kernel
theorem dX6_letters_15 : decode cX6_letters 15 = .ok (.if_icmp .ge 68, 3) := by decide +kernel
theorem dX6_letters_18 : decode cX6_letters 18 = .ok (.lload 5, 2) := by decide +kernel
theorem dX6_letters_20 : decode cX6_letters 20 = .ok (.ldc2_w 51, 3) := by decide +kernel
theorem dX6_letters_23 : decode cX6_letters 23 = .ok (.land, 1) := by decide +kernel
theorem dX6_letters_24 : decode cX6_letters 24 = .ok (.l2i, 1) := by decide +kernel
theorem dX6_letters_25 : decode cX6_letters 25 = .ok (.istore 8, 2) := by decide +kernel
theorem dX6_letters_27 : decode cX6_letters 27 = .ok (.lload 5, 2) := by decide +kernel
theorem dX6_letters_29 : decode cX6_letters 29 = .ok (.bipush 8, 2) := by decide +kernel
theorem dX6_letters_31 : decode cX6_letters 31 = .ok (.lushr, 1) := by decide +kernel
theorem dX6_letters_32 : decode cX6_letters 32 = .ok (.lstore 5, 2) := by decide +kernel
theorem dX6_letters_34 : decode cX6_letters 34 = .ok (.iload 4, 2) := by decide +kernel
theorem dX6_letters_36 : decode cX6_letters 36 = .ok (.ifCond .eq 25, 3) := by decide +kernel
theorem dX6_letters_39 : decode cX6_letters 39 = .ok (.iload 8, 2) := by decide +kernel
theorem dX6_letters_41 : decode cX6_letters 41 = .ok (.bipush 126, 2) := by decide +kernel
theorem dX6_letters_43 : decode cX6_letters 43 = .ok (.if_icmp .gt 18, 3) := by decide +kernel
theorem dX6_letters_46 : decode cX6_letters 46 = .ok (.iload 8, 2) := by decide +kernel
theorem dX6_letters_48 : decode cX6_letters 48 = .ok (.ifCond .eq 9, 3) := by decide +kernel
theorem dX6_letters_51 : decode cX6_letters 51 = .ok (.iload_n 3, 1) := by decide +kernel
theorem dX6_letters_52 : decode cX6_letters 52 = .ok (.iload 7, 2) := by decide +kernel
theorem dX6_letters_54 : decode cX6_letters 54 = .ok (.if_icmp .ne 7, 3) := by decide +kernel
theorem dX6_letters_57 : decode cX6_letters 57 = .ok (.iconst 1, 1) := by decide +kernel
theorem dX6_letters_58 : decode cX6_letters 58 = .ok (.goto 4, 3) := by decide +kernel
theorem dX6_letters_61 : decode cX6_letters 61 = .ok (.iconst 0, 1) := by decide +kernel
theorem dX6_letters_62 : decode cX6_letters 62 = .ok (.istore 4, 2) := by decide +kernel
theorem dX6_letters_64 : decode cX6_letters 64 = .ok (.iload_n 3, 1) := by decide +kernel
theorem dX6_letters_65 : decode cX6_letters 65 = .ok (.iload 8, 2) := by decide +kernel
theorem dX6_letters_67 : decode cX6_letters 67 = .ok (.ifCond .le 7, 3) := by decide +kernel
theorem dX6_letters_70 : decode cX6_letters 70 = .ok (.iconst 1, 1) := by decide +kernel
theorem dX6_letters_71 : decode cX6_letters 71 = .ok (.goto 4, 3) := by decide +kernel
theorem dX6_letters_74 : decode cX6_letters 74 = .ok (.iconst 0, 1) := by decide +kernel
theorem dX6_letters_75 : decode cX6_letters 75 = .ok (.iadd, 1) := by decide +kernel
theorem dX6_letters_76 : decode cX6_letters 76 = .ok (.istore_n 3, 1) := by decide +kernel
theorem dX6_letters_77 : decode cX6_letters 77 = .ok (.iinc 7 1, 3) := by decide +kernel
theorem dX6_letters_80 : decode cX6_letters 80 = .ok (.goto (-69), 3) := by decide +kernel
theorem dX6_letters_83 : decode cX6_letters 83 = .ok (.iload 4, 2) := by decide +kernel
theorem dX6_letters_85 : decode cX6_letters 85 = .ok (.ifCond .ne 6, 3) := by decide +kernel
theorem dX6_letters_88 : decode cX6_letters 88 = .ok (.bipush (-102), 2) := by decide +kernel
theorem dX6_letters_90 : decode cX6_letters 90 = .ok (.ireturn, 1) := by decide +kernel
theorem dX6_letters_91 : decode cX6_letters 91 = .ok (.aload_n 0, 1) := by decide +kernel
theorem dX6_letters_92 : decode cX6_letters 92 = .ok (.getfield 53, 3) := by decide +kernel
theorem dX6_letters_95 : decode cX6_letters 95 = .ok (.iload_n 3, 1) := by decide +kernel
theorem dX6_letters_96 : decode cX6_letters 96 = .ok (.iadd, 1) := by decide +kernel
theorem dX6_letters_97 : decode cX6_letters 97 = .ok (.bipush 70, 2) := by decide +kernel
theorem dX6_letters_99 : decode cX6_letters 99 = .ok (.if_icmp .le 6, 3) := by decide +kernel
theorem dX6_letters_102 : decode cX6_letters 102 = .ok (.bipush (-104), 2) := by decide +kernel
theorem dX6_letters_104 : decode cX6_letters 104 = .ok (.ireturn, 1) := by decide +kernel
theorem dX6_letters_105 : decode cX6_letters 105 = .ok (.iconst 0, 1) := by decide +kernel
theorem dX6_letters_106 : decode cX6_letters 106 = .ok (.istore 7, 2) := by decide +kernel
theorem dX6_letters_108 : decode cX6_letters 108 = .ok (.iload 7, 2) := by decide +kernel
theorem dX6_letters_110 : decode cX6_letters 110 = .ok (.iload_n 3, 1) := by decide +kernel
theorem dX6_letters_111 : decode cX6_letters 111 = .ok (.if_icmp .ge 40, 3) := by decide +kernel
theorem dX6_letters_114 : decode cX6_letters 114 = .ok (.aload_n 0, 1) := by decide +kernel
theorem dX6_letters_115 : decode cX6_letters 115 = .ok (.getfield 7, 3) := by decide +kernel
theorem dX6_letters_118 : decode cX6_letters 118 = .ok (.aload_n 0, 1) := by decide +kernel
theorem dX6_letters_119 : decode cX6_letters 119 = .ok (.getfield 53, 3) := by decide +kernel
theorem dX6_letters_122 : decode cX6_letters 122 = .ok (.lload_n 1, 1) := by decide +kernel
theorem dX6_letters_123 : decode cX6_letters 123 = .ok (.bipush 8, 2) := by decide +kernel
theorem dX6_letters_125 : decode cX6_letters 125 = .ok (.iload 7, 2) := by decide +kernel
theorem dX6_letters_127 : decode cX6_letters 127 = .ok (.imul, 1) := by decide +kernel
theorem dX6_letters_128 : decode cX6_letters 128 = .ok (.lushr, 1) := by decide +kernel
theorem dX6_letters_129 : decode cX6_letters 129 = .ok (.ldc2_w 51, 3) := by decide +kernel
theorem dX6_letters_132 : decode cX6_letters 132 = .ok (.land, 1) := by decide +kernel
theorem dX6_letters_133 : decode cX6_letters 133 = .ok (.l2i, 1) := by decide +kernel
theorem dX6_letters_134 : decode cX6_letters 134 = .ok (.iastore, 1) := by decide +kernel
theorem dX6_letters_135 : decode cX6_letters 135 = .ok (.aload_n 0, 1) := by decide +kernel
theorem dX6_letters_136 : decode cX6_letters 136 = .ok (.dup, 1) := by decide +kernel
theorem dX6_letters_137 : decode cX6_letters 137 = .ok (.getfield 53, 3) := by decide +kernel
theorem dX6_letters_140 : decode cX6_letters 140 = .ok (.iconst 1, 1) := by decide +kernel
theorem dX6_letters_141 : decode cX6_letters 141 = .ok (.iadd, 1) := by decide +kernel
theorem dX6_letters_142 : decode cX6_letters 142 = .ok (.putfield 53, 3) := by decide +kernel
theorem dX6_letters_145 : decode cX6_letters 145 = .ok (.iinc 7 1, 3) := by decide +kernel
theorem dX6_letters_148 : decode cX6_letters 148 = .ok (.goto (-40), 3) := by decide +kernel
theorem dX6_letters_151 : decode cX6_letters 151 = .ok (.aload_n 0, 1) := by decide +kernel
theorem dX6_letters_152 : decode cX6_letters 152 = .ok (.getfield 53, 3) := by decide +kernel
theorem dX6_letters_155 : decode cX6_letters 155 = .ok (.ireturn, 1) := by decide +kernel
theorem dX6_blank_0 : decode cX6_blank 0 = .ok (.aload_n 0, 1) := by decide +kernel
theorem dX6_blank_1 : decode cX6_blank 1 = .ok (.getfield 53, 3) := by decide +kernel
theorem dX6_blank_4 : decode cX6_blank 4 = .ok (.istore_n 1, 1) := by decide +kernel
theorem dX6_blank_5 : decode cX6_blank 5 = .ok (.aload_n 0, 1) := by decide +kernel
theorem dX6_blank_6 : decode cX6_blank 6 = .ok (.iconst 0, 1) := by decide +kernel
theorem dX6_blank_7 : decode cX6_blank 7 = .ok (.putfield 53, 3) := by decide +kernel
theorem dX6_blank_10 : decode cX6_blank 10 = .ok (.iload_n 1, 1) := by decide +kernel
theorem dX6_blank_11 : decode cX6_blank 11 = .ok (.ireturn, 1) := by decide +kernel
theorem dX6_kindOf_0 : decode cX6_kindOf 0 = .ok (.iload_n 0, 1) := by decide +kernel
theorem dX6_kindOf_1 : decode cX6_kindOf 1 = .ok (.bipush 99, 2) := by decide +kernel
theorem dX6_kindOf_3 : decode cX6_kindOf 3 = .ok (.if_icmp .ne 7, 3) := by decide +kernel
theorem dX6_kindOf_6 : decode cX6_kindOf 6 = .ok (.iconst 1, 1) := by decide +kernel
theorem dX6_kindOf_7 : decode cX6_kindOf 7 = .ok (.goto 34, 3) := by decide +kernel
theorem dX6_kindOf_10 : decode cX6_kindOf 10 = .ok (.iload_n 0, 1) := by decide +kernel
theorem dX6_kindOf_11 : decode cX6_kindOf 11 = .ok (.bipush 107, 2) := by decide +kernel
theorem dX6_kindOf_13 : decode cX6_kindOf 13 = .ok (.if_icmp .ne 7, 3) := by decide +kernel
theorem dX6_kindOf_16 : decode cX6_kindOf 16 = .ok (.iconst 2, 1) := by decide +kernel
theorem dX6_kindOf_17 : decode cX6_kindOf 17 = .ok (.goto 24, 3) := by decide +kernel
theorem dX6_kindOf_20 : decode cX6_kindOf 20 = .ok (.iload_n 0, 1) := by decide +kernel
theorem dX6_kindOf_21 : decode cX6_kindOf 21 = .ok (.bipush 108, 2) := by decide +kernel
theorem dX6_kindOf_23 : decode cX6_kindOf 23 = .ok (.if_icmp .ne 7, 3) := by decide +kernel
theorem dX6_kindOf_26 : decode cX6_kindOf 26 = .ok (.iconst 3, 1) := by decide +kernel
theorem dX6_kindOf_27 : decode cX6_kindOf 27 = .ok (.goto 14, 3) := by decide +kernel
theorem dX6_kindOf_30 : decode cX6_kindOf 30 = .ok (.iload_n 0, 1) := by decide +kernel
theorem dX6_kindOf_31 : decode cX6_kindOf 31 = .ok (.bipush 115, 2) := by decide +kernel
theorem dX6_kindOf_33 : decode cX6_kindOf 33 = .ok (.if_icmp .ne 7, 3) := by decide +kernel
theorem dX6_kindOf_36 : decode cX6_kindOf 36 = .ok (.iconst 4, 1) := by decide +kernel
theorem dX6_kindOf_37 : decode cX6_kindOf 37 = .ok (.goto 4, 3) := by decide +kernel
theorem dX6_kindOf_40 : decode cX6_kindOf 40 = .ok (.iconst (-1), 1) := by decide +kernel
theorem dX6_kindOf_41 : decode cX6_kindOf 41 = .ok (.ireturn, 1) := by decide +kernel
set_option maxRecDepth 20000 in
theorem ggX6_goHolds_X6_isIn : GoodIn wsX6_goHolds wsX6_isIn := goodIn_r _ [9] (by decide +kernel) (by decide +kernel)
set_option maxRecDepth 20000 in
theorem gX6_goHolds_X6_isIn : GoodIn wsX6_goHolds (va_wsS RX6 66 yX6_isIn wsX6_isIn) := goodIn_app (goodIn_of _ (by decide +kernel)) ggX6_goHolds_X6_isIn
theorem dX6_goHolds_0 : decode cX6_goHolds 0 = .ok (.aload_n 0, 1) := by decide +kernel
theorem dX6_goHolds_1 : decode cX6_goHolds 1 = .ok (.getfield 13, 3) := by decide +kernel
theorem dX6_goHolds_4 : decode cX6_goHolds 4 = .ok (.bipush 6, 2) := by decide +kernel
theorem dX6_goHolds_6 : decode cX6_goHolds 6 = .ok (.aload_n 0, 1) := by decide +kernel
theorem dX6_goHolds_7 : decode cX6_goHolds 7 = .ok (.getfield 56, 3) := by decide +kernel
theorem dX6_goHolds_10 : decode cX6_goHolds 10 = .ok (.imul, 1) := by decide +kernel
theorem dX6_goHolds_11 : decode cX6_goHolds 11 = .ok (.iconst 1, 1) := by decide +kernel
theorem dX6_goHolds_12 : decode cX6_goHolds 12 = .ok (.iadd, 1) := by decide +kernel
theorem dX6_goHolds_13 : decode cX6_goHolds 13 = .ok (.iload_n 1, 1) := by decide +kernel
theorem dX6_goHolds_14 : decode cX6_goHolds 14 = .ok (.bipush 48, 2) := by decide +kernel
theorem dX6_goHolds_16 : decode cX6_goHolds 16 = .ok (.isub, 1) := by decide +kernel
theorem dX6_goHolds_17 : decode cX6_goHolds 17 = .ok (.iastore, 1) := by decide +kernel
theorem dX6_goHolds_18 : decode cX6_goHolds 18 = .ok (.aload_n 0, 1) := by decide +kernel
theorem dX6_goHolds_19 : decode cX6_goHolds 19 = .ok (.iconst 2, 1) := by decide +kernel
theorem dX6_goHolds_20 : decode cX6_goHolds 20 = .ok (.putfield 59, 3) := by decide +kernel
theorem dX6_goHolds_23 : decode cX6_goHolds 23 = .ok (.iload_n 1, 1) := by decide +kernel
theorem dX6_goHolds_24 : decode cX6_goHolds 24 = .ok (.i2l, 1) := by decide +kernel
theorem dX6_goHolds_25 : decode cX6_goHolds 25 = .ok (.ldc2_w 62, 3) := by decide +kernel
theorem dX6_goHolds_28 : decode cX6_goHolds 28 = .ok (.ldc2_w 64, 3) := by decide +kernel
theorem dX6_goHolds_31 : decode cX6_goHolds 31 = .ok (.invokestatic 66, 3) := by decide +kernel
theorem dX6_goHolds_34 : decode cX6_goHolds 34 = .ok (.ireturn, 1) := by decide +kernel
set_option maxRecDepth 20000 in
theorem ggX6_goShare_X6_isIn : GoodIn wsX6_goShare wsX6_isIn := goodIn_r _ [9] (by decide +kernel) (by decide +kernel)
set_option maxRecDepth 20000 in
theorem gX6_goShare_X6_isIn : GoodIn wsX6_goShare (va_wsS RX6 66 yX6_isIn wsX6_isIn) := goodIn_app (goodIn_of _ (by decide +kernel)) ggX6_goShare_X6_isIn
theorem dX6_goShare_0 : decode cX6_goShare 0 = .ok (.bipush 6, 2) := by decide +kernel
theorem dX6_goShare_2 : decode cX6_goShare 2 = .ok (.aload_n 0, 1) := by decide +kernel
theorem dX6_goShare_3 : decode cX6_goShare 3 = .ok (.getfield 56, 3) := by decide +kernel
theorem dX6_goShare_6 : decode cX6_goShare 6 = .ok (.imul, 1) := by decide +kernel
theorem dX6_goShare_7 : decode cX6_goShare 7 = .ok (.istore_n 2, 1) := by decide +kernel
theorem dX6_goShare_8 : decode cX6_goShare 8 = .ok (.iload_n 1, 1) := by decide +kernel
theorem dX6_goShare_9 : decode cX6_goShare 9 = .ok (.bipush 45, 2) := by decide +kernel
theorem dX6_goShare_11 : decode cX6_goShare 11 = .ok (.if_icmp .ne 8, 3) := by decide +kernel
theorem dX6_goShare_14 : decode cX6_goShare 14 = .ok (.bipush 9, 2) := by decide +kernel
theorem dX6_goShare_16 : decode cX6_goShare 16 = .ok (.goto 7, 3) := by decide +kernel
theorem dX6_goShare_19 : decode cX6_goShare 19 = .ok (.iload_n 1, 1) := by decide +kernel
theorem dX6_goShare_20 : decode cX6_goShare 20 = .ok (.bipush 48, 2) := by decide +kernel
theorem dX6_goShare_22 : decode cX6_goShare 22 = .ok (.isub, 1) := by decide +kernel
theorem dX6_goShare_23 : decode cX6_goShare 23 = .ok (.istore_n 3, 1) := by decide +kernel
theorem dX6_goShare_24 : decode cX6_goShare 24 = .ok (.aload_n 0, 1) := by decide +kernel
theorem dX6_goShare_25 : decode cX6_goShare 25 = .ok (.getfield 13, 3) := by decide +kernel
theorem dX6_goShare_28 : decode cX6_goShare 28 = .ok (.iload_n 2, 1) := by decide +kernel
theorem dX6_goShare_29 : decode cX6_goShare 29 = .ok (.iconst 2, 1) := by decide +kernel
theorem dX6_goShare_30 : decode cX6_goShare 30 = .ok (.iadd, 1) := by decide +kernel
theorem dX6_goShare_31 : decode cX6_goShare 31 = .ok (.iaload, 1) := by decide +kernel
theorem dX6_goShare_32 : decode cX6_goShare 32 = .ok (.iconst 3, 1) := by decide +kernel
theorem dX6_goShare_33 : decode cX6_goShare 33 = .ok (.if_icmp .ge 37, 3) := by decide +kernel
theorem dX6_goShare_36 : decode cX6_goShare 36 = .ok (.iload_n 3, 1) := by decide +kernel
theorem dX6_goShare_37 : decode cX6_goShare 37 = .ok (.bipush 9, 2) := by decide +kernel
theorem dX6_goShare_39 : decode cX6_goShare 39 = .ok (.if_icmp .ne 9, 3) := by decide +kernel
theorem dX6_goShare_42 : decode cX6_goShare 42 = .ok (.iload_n 1, 1) := by decide +kernel
theorem dX6_goShare_43 : decode cX6_goShare 43 = .ok (.bipush 45, 2) := by decide +kernel
theorem dX6_goShare_45 : decode cX6_goShare 45 = .ok (.if_icmp .eq 21, 3) := by decide +kernel
theorem dX6_goShare_48 : decode cX6_goShare 48 = .ok (.iload_n 3, 1) := by decide +kernel
theorem dX6_goShare_49 : decode cX6_goShare 49 = .ok (.i2l, 1) := by decide +kernel
theorem dX6_goShare_50 : decode cX6_goShare 50 = .ok (.aload_n 0, 1) := by decide +kernel
theorem dX6_goShare_51 : decode cX6_goShare 51 = .ok (.getfield 56, 3) := by decide +kernel
theorem dX6_goShare_54 : decode cX6_goShare 54 = .ok (.iconst 1, 1) := by decide +kernel
theorem dX6_goShare_55 : decode cX6_goShare 55 = .ok (.iadd, 1) := by decide +kernel
theorem dX6_goShare_56 : decode cX6_goShare 56 = .ok (.i2l, 1) := by decide +kernel
theorem dX6_goShare_57 : decode cX6_goShare 57 = .ok (.ldc2_w 70, 3) := by decide +kernel
theorem dX6_goShare_60 : decode cX6_goShare 60 = .ok (.invokestatic 66, 3) := by decide +kernel
theorem dX6_goShare_63 : decode cX6_goShare 63 = .ok (.ifCond .eq 7, 3) := by decide +kernel
theorem dX6_goShare_66 : decode cX6_goShare 66 = .ok (.iconst 1, 1) := by decide +kernel
theorem dX6_goShare_67 : decode cX6_goShare 67 = .ok (.goto 4, 3) := by decide +kernel
theorem dX6_goShare_70 : decode cX6_goShare 70 = .ok (.iconst 0, 1) := by decide +kernel
theorem dX6_goShare_71 : decode cX6_goShare 71 = .ok (.istore 4, 2) := by decide +kernel
theorem dX6_goShare_73 : decode cX6_goShare 73 = .ok (.iload 4, 2) := by decide +kernel
theorem dX6_goShare_75 : decode cX6_goShare 75 = .ok (.ifCond .eq 59, 3) := by decide +kernel
theorem dX6_goShare_78 : decode cX6_goShare 78 = .ok (.aload_n 0, 1) := by decide +kernel
theorem dX6_goShare_79 : decode cX6_goShare 79 = .ok (.getfield 13, 3) := by decide +kernel
theorem dX6_goShare_82 : decode cX6_goShare 82 = .ok (.iload_n 2, 1) := by decide +kernel
theorem dX6_goShare_83 : decode cX6_goShare 83 = .ok (.iconst 3, 1) := by decide +kernel
theorem dX6_goShare_84 : decode cX6_goShare 84 = .ok (.iadd, 1) := by decide +kernel
theorem dX6_goShare_85 : decode cX6_goShare 85 = .ok (.aload_n 0, 1) := by decide +kernel
theorem dX6_goShare_86 : decode cX6_goShare 86 = .ok (.getfield 13, 3) := by decide +kernel
theorem dX6_goShare_89 : decode cX6_goShare 89 = .ok (.iload_n 2, 1) := by decide +kernel
theorem dX6_goShare_90 : decode cX6_goShare 90 = .ok (.iconst 2, 1) := by decide +kernel
theorem dX6_goShare_91 : decode cX6_goShare 91 = .ok (.iadd, 1) := by decide +kernel
theorem dX6_goShare_92 : decode cX6_goShare 92 = .ok (.iaload, 1) := by decide +kernel
theorem dX6_goShare_93 : decode cX6_goShare 93 = .ok (.iadd, 1) := by decide +kernel
theorem dX6_goShare_94 : decode cX6_goShare 94 = .ok (.iload_n 3, 1) := by decide +kernel
theorem dX6_goShare_95 : decode cX6_goShare 95 = .ok (.iastore, 1) := by decide +kernel
theorem dX6_goShare_96 : decode cX6_goShare 96 = .ok (.aload_n 0, 1) := by decide +kernel
theorem dX6_goShare_97 : decode cX6_goShare 97 = .ok (.getfield 13, 3) := by decide +kernel
theorem dX6_goShare_100 : decode cX6_goShare 100 = .ok (.iload_n 2, 1) := by decide +kernel
theorem dX6_goShare_101 : decode cX6_goShare 101 = .ok (.iconst 2, 1) := by decide +kernel
theorem dX6_goShare_102 : decode cX6_goShare 102 = .ok (.iadd, 1) := by decide +kernel
theorem dX6_goShare_103 : decode cX6_goShare 103 = .ok (.dup2, 1) := by decide +kernel
theorem dX6_goShare_104 : decode cX6_goShare 104 = .ok (.iaload, 1) := by decide +kernel
theorem dX6_goShare_105 : decode cX6_goShare 105 = .ok (.iconst 1, 1) := by decide +kernel
theorem dX6_goShare_106 : decode cX6_goShare 106 = .ok (.iadd, 1) := by decide +kernel
theorem dX6_goShare_107 : decode cX6_goShare 107 = .ok (.iastore, 1) := by decide +kernel
theorem dX6_goShare_108 : decode cX6_goShare 108 = .ok (.aload_n 0, 1) := by decide +kernel
theorem dX6_goShare_109 : decode cX6_goShare 109 = .ok (.iload_n 3, 1) := by decide +kernel
theorem dX6_goShare_110 : decode cX6_goShare 110 = .ok (.bipush 9, 2) := by decide +kernel
theorem dX6_goShare_112 : decode cX6_goShare 112 = .ok (.if_icmp .ge 15, 3) := by decide +kernel
theorem dX6_goShare_115 : decode cX6_goShare 115 = .ok (.iload_n 3, 1) := by decide +kernel
theorem dX6_goShare_116 : decode cX6_goShare 116 = .ok (.aload_n 0, 1) := by decide +kernel
theorem dX6_goShare_117 : decode cX6_goShare 117 = .ok (.getfield 72, 3) := by decide +kernel
theorem dX6_goShare_120 : decode cX6_goShare 120 = .ok (.if_icmp .le 7, 3) := by decide +kernel
theorem dX6_goShare_123 : decode cX6_goShare 123 = .ok (.iload_n 3, 1) := by decide +kernel
theorem dX6_goShare_124 : decode cX6_goShare 124 = .ok (.goto 7, 3) := by decide +kernel
theorem dX6_goShare_127 : decode cX6_goShare 127 = .ok (.aload_n 0, 1) := by decide +kernel
theorem dX6_goShare_128 : decode cX6_goShare 128 = .ok (.getfield 72, 3) := by decide +kernel
theorem dX6_goShare_131 : decode cX6_goShare 131 = .ok (.putfield 72, 3) := by decide +kernel
theorem dX6_goShare_134 : decode cX6_goShare 134 = .ok (.aload_n 0, 1) := by decide +kernel
theorem dX6_goShare_135 : decode cX6_goShare 135 = .ok (.iconst 4, 1) := by decide +kernel
theorem dX6_goShare_136 : decode cX6_goShare 136 = .ok (.putfield 59, 3) := by decide +kernel
theorem dX6_goShare_139 : decode cX6_goShare 139 = .ok (.iload 4, 2) := by decide +kernel
theorem dX6_goShare_141 : decode cX6_goShare 141 = .ok (.ireturn, 1) := by decide +kernel
theorem dX6_goNext_0 : decode cX6_goNext 0 = .ok (.aload_n 0, 1) := by decide +kernel
theorem dX6_goNext_1 : decode cX6_goNext 1 = .ok (.getfield 59, 3) := by decide +kernel
theorem dX6_goNext_4 : decode cX6_goNext 4 = .ok (.iconst 2, 1) := by decide +kernel
theorem dX6_goNext_5 : decode cX6_goNext 5 = .ok (.if_icmp .eq 11, 3) := by decide +kernel
theorem dX6_goNext_8 : decode cX6_goNext 8 = .ok (.aload_n 0, 1) := by decide +kernel
theorem dX6_goNext_9 : decode cX6_goNext 9 = .ok (.getfield 59, 3) := by decide +kernel
theorem dX6_goNext_12 : decode cX6_goNext 12 = .ok (.iconst 4, 1) := by decide +kernel
theorem dX6_goNext_13 : decode cX6_goNext 13 = .ok (.if_icmp .ne 16, 3) := by decide +kernel
theorem dX6_goNext_16 : decode cX6_goNext 16 = .ok (.aload_n 0, 1) := by decide +kernel
theorem dX6_goNext_17 : decode cX6_goNext 17 = .ok (.getfield 56, 3) := by decide +kernel
theorem dX6_goNext_20 : decode cX6_goNext 20 = .ok (.bipush 8, 2) := by decide +kernel
theorem dX6_goNext_22 : decode cX6_goNext 22 = .ok (.if_icmp .ge 7, 3) := by decide +kernel
theorem dX6_goNext_25 : decode cX6_goNext 25 = .ok (.iconst 1, 1) := by decide +kernel
theorem dX6_goNext_26 : decode cX6_goNext 26 = .ok (.goto 4, 3) := by decide +kernel
theorem dX6_goNext_29 : decode cX6_goNext 29 = .ok (.iconst 0, 1) := by decide +kernel
theorem dX6_goNext_30 : decode cX6_goNext 30 = .ok (.istore_n 1, 1) := by decide +kernel
theorem dX6_goNext_31 : decode cX6_goNext 31 = .ok (.aload_n 0, 1) := by decide +kernel
theorem dX6_goNext_32 : decode cX6_goNext 32 = .ok (.dup, 1) := by decide +kernel
theorem dX6_goNext_33 : decode cX6_goNext 33 = .ok (.getfield 56, 3) := by decide +kernel
theorem dX6_goNext_36 : decode cX6_goNext 36 = .ok (.iload_n 1, 1) := by decide +kernel
theorem dX6_goNext_37 : decode cX6_goNext 37 = .ok (.ifCond .eq 7, 3) := by decide +kernel
theorem dX6_goNext_40 : decode cX6_goNext 40 = .ok (.iconst 1, 1) := by decide +kernel
theorem dX6_goNext_41 : decode cX6_goNext 41 = .ok (.goto 4, 3) := by decide +kernel
theorem dX6_goNext_44 : decode cX6_goNext 44 = .ok (.iconst 0, 1) := by decide +kernel
theorem dX6_goNext_45 : decode cX6_goNext 45 = .ok (.iadd, 1) := by decide +kernel
theorem dX6_goNext_46 : decode cX6_goNext 46 = .ok (.putfield 56, 3) := by decide +kernel
theorem dX6_goNext_49 : decode cX6_goNext 49 = .ok (.aload_n 0, 1) := by decide +kernel
theorem dX6_goNext_50 : decode cX6_goNext 50 = .ok (.iconst 0, 1) := by decide +kernel
theorem dX6_goNext_51 : decode cX6_goNext 51 = .ok (.putfield 59, 3) := by decide +kernel
theorem dX6_goNext_54 : decode cX6_goNext 54 = .ok (.iload_n 1, 1) := by decide +kernel
theorem dX6_goNext_55 : decode cX6_goNext 55 = .ok (.ireturn, 1) := by decide +kernel
set_option maxRecDepth 20000 in
theorem ggX6_go_X6_kindOf : GoodIn wsX6_go wsX6_kindOf := goodIn_r _ [7] (by decide +kernel) (by decide +kernel)
set_option maxRecDepth 20000 in
theorem gX6_go_X6_kindOf : GoodIn wsX6_go (va_wsS RX6 75 yX6_kindOf wsX6_kindOf) := goodIn_app (goodIn_of _ (by decide +kernel)) ggX6_go_X6_kindOf
set_option maxRecDepth 20000 in
theorem ggX6_go_X6_goHolds : GoodIn wsX6_go wsX6_goHolds := goodIn_r _ [11, 3, 1, 2, 12, 13, 14, 15, 6, 16, 27, 28, 29, 30, 31, 32, 33, 34, 35, 36, 37, 38, 39, 40, 41, 42, 43, 44, 45, 46, 47, 48, 49, 50, 51, 52] (by decide +kernel) (by decide +kernel)
set_option maxRecDepth 20000 in
theorem gX6_go_X6_goHolds : GoodIn wsX6_go (wsV RX6 79 RX6 yX6_goHolds wsX6_goHolds) := goodIn_app (goodIn_of _ (by decide +kernel)) ggX6_go_X6_goHolds
set_option maxRecDepth 20000 in
theorem ggX6_go_X6_goNext : GoodIn wsX6_go wsX6_goNext := goodIn_r _ [20, 2, 1, 27, 28, 29, 30, 31, 32, 33, 34, 35, 36, 37, 38, 39, 40, 41, 42, 43, 44, 45, 46, 47, 48, 49, 50, 51, 52] (by decide +kernel) (by decide +kernel)
set_option maxRecDepth 20000 in
theorem gX6_go_X6_goNext : GoodIn wsX6_go (wsV RX6 83 RX6 yX6_goNext wsX6_goNext) := goodIn_app (goodIn_of _ (by decide +kernel)) ggX6_go_X6_goNext
set_option maxRecDepth 20000 in
theorem ggX6_go_X6_goShare : GoodIn wsX6_go wsX6_goShare := goodIn_r _ [24, 1, 3, 25, 26, 2, 14, 15, 6, 16, 27, 28, 29, 30, 31, 32, 33, 34, 35, 36, 37, 38, 39, 40, 41, 42, 43, 44, 45, 46, 47, 48, 49, 50, 51, 52] (by decide +kernel) (by decide +kernel)
set_option maxRecDepth 20000 in
theorem gX6_go_X6_goShare : GoodIn wsX6_go (wsV RX6 87 RX6 yX6_goShare wsX6_goShare) := goodIn_app (goodIn_of _ (by decide +kernel)) ggX6_go_X6_goShare
theorem dX6_go_0 : decode cX6_go 0 = .ok (.bipush 6, 2) := by decide +kernel
theorem dX6_go_2 : decode cX6_go 2 = .ok (.aload_n 0, 1) := by decide +kernel
theorem dX6_go_3 : decode cX6_go 3 = .ok (.getfield 56, 3) := by decide +kernel
theorem dX6_go_6 : decode cX6_go 6 = .ok (.imul, 1) := by decide +kernel
theorem dX6_go_7 : decode cX6_go 7 = .ok (.istore_n 2, 1) := by decide +kernel
theorem dX6_go_8 : decode cX6_go 8 = .ok (.aload_n 0, 1) := by decide +kernel
theorem dX6_go_9 : decode cX6_go 9 = .ok (.getfield 59, 3) := by decide +kernel
theorem dX6_go_12 : decode cX6_go 12 = .ok (.ifCond .ne 83, 3) := by decide +kernel
theorem dX6_go_15 : decode cX6_go 15 = .ok (.iload_n 1, 1) := by decide +kernel
theorem dX6_go_16 : decode cX6_go 16 = .ok (.invokestatic 75, 3) := by decide +kernel
theorem dX6_go_19 : decode cX6_go 19 = .ok (.istore_n 3, 1) := by decide +kernel
theorem dX6_go_20 : decode cX6_go 20 = .ok (.aload_n 0, 1) := by decide +kernel
theorem dX6_go_21 : decode cX6_go 21 = .ok (.getfield 13, 3) := by decide +kernel
theorem dX6_go_24 : decode cX6_go 24 = .ok (.iload_n 2, 1) := by decide +kernel
theorem dX6_go_25 : decode cX6_go 25 = .ok (.iload_n 3, 1) := by decide +kernel
theorem dX6_go_26 : decode cX6_go 26 = .ok (.iconst (-1), 1) := by decide +kernel
theorem dX6_go_27 : decode cX6_go 27 = .ok (.if_icmp .ne 7, 3) := by decide +kernel
theorem dX6_go_30 : decode cX6_go 30 = .ok (.iconst 0, 1) := by decide +kernel
theorem dX6_go_31 : decode cX6_go 31 = .ok (.goto 4, 3) := by decide +kernel
theorem dX6_go_34 : decode cX6_go 34 = .ok (.iload_n 3, 1) := by decide +kernel
theorem dX6_go_35 : decode cX6_go 35 = .ok (.iastore, 1) := by decide +kernel
theorem dX6_go_36 : decode cX6_go 36 = .ok (.aload_n 0, 1) := by decide +kernel
theorem dX6_go_37 : decode cX6_go 37 = .ok (.getfield 13, 3) := by decide +kernel
theorem dX6_go_40 : decode cX6_go 40 = .ok (.iload_n 2, 1) := by decide +kernel
theorem dX6_go_41 : decode cX6_go 41 = .ok (.iconst 2, 1) := by decide +kernel
theorem dX6_go_42 : decode cX6_go 42 = .ok (.iadd, 1) := by decide +kernel
theorem dX6_go_43 : decode cX6_go 43 = .ok (.iconst 0, 1) := by decide +kernel
theorem dX6_go_44 : decode cX6_go 44 = .ok (.iastore, 1) := by decide +kernel
theorem dX6_go_45 : decode cX6_go 45 = .ok (.iconst 3, 1) := by decide +kernel
theorem dX6_go_46 : decode cX6_go 46 = .ok (.istore 4, 2) := by decide +kernel
theorem dX6_go_48 : decode cX6_go 48 = .ok (.iload 4, 2) := by decide +kernel
theorem dX6_go_50 : decode cX6_go 50 = .ok (.bipush 6, 2) := by decide +kernel
theorem dX6_go_52 : decode cX6_go 52 = .ok (.if_icmp .ge 19, 3) := by decide +kernel
theorem dX6_go_55 : decode cX6_go 55 = .ok (.aload_n 0, 1) := by decide +kernel
theorem dX6_go_56 : decode cX6_go 56 = .ok (.getfield 13, 3) := by decide +kernel
theorem dX6_go_59 : decode cX6_go 59 = .ok (.iload_n 2, 1) := by decide +kernel
theorem dX6_go_60 : decode cX6_go 60 = .ok (.iload 4, 2) := by decide +kernel
theorem dX6_go_62 : decode cX6_go 62 = .ok (.iadd, 1) := by decide +kernel
theorem dX6_go_63 : decode cX6_go 63 = .ok (.iconst (-1), 1) := by decide +kernel
theorem dX6_go_64 : decode cX6_go 64 = .ok (.iastore, 1) := by decide +kernel
theorem dX6_go_65 : decode cX6_go 65 = .ok (.iinc 4 1, 3) := by decide +kernel
theorem dX6_go_68 : decode cX6_go 68 = .ok (.goto (-20), 3) := by decide +kernel
theorem dX6_go_71 : decode cX6_go 71 = .ok (.aload_n 0, 1) := by decide +kernel
theorem dX6_go_72 : decode cX6_go 72 = .ok (.iconst 1, 1) := by decide +kernel
theorem dX6_go_73 : decode cX6_go 73 = .ok (.putfield 59, 3) := by decide +kernel
theorem dX6_go_76 : decode cX6_go 76 = .ok (.iload_n 3, 1) := by decide +kernel
theorem dX6_go_77 : decode cX6_go 77 = .ok (.iconst (-1), 1) := by decide +kernel
theorem dX6_go_78 : decode cX6_go 78 = .ok (.if_icmp .ne 11, 3) := by decide +kernel
theorem dX6_go_81 : decode cX6_go 81 = .ok (.aload_n 0, 1) := by decide +kernel
theorem dX6_go_82 : decode cX6_go 82 = .ok (.iload_n 1, 1) := by decide +kernel
theorem dX6_go_83 : decode cX6_go 83 = .ok (.invokevirtual 79, 3) := by decide +kernel
theorem dX6_go_86 : decode cX6_go 86 = .ok (.ifCond .eq 7, 3) := by decide +kernel
theorem dX6_go_89 : decode cX6_go 89 = .ok (.iconst 1, 1) := by decide +kernel
theorem dX6_go_90 : decode cX6_go 90 = .ok (.goto 4, 3) := by decide +kernel
theorem dX6_go_93 : decode cX6_go 93 = .ok (.iconst 0, 1) := by decide +kernel
theorem dX6_go_94 : decode cX6_go 94 = .ok (.ireturn, 1) := by decide +kernel
theorem dX6_go_95 : decode cX6_go 95 = .ok (.aload_n 0, 1) := by decide +kernel
theorem dX6_go_96 : decode cX6_go 96 = .ok (.getfield 59, 3) := by decide +kernel
theorem dX6_go_99 : decode cX6_go 99 = .ok (.iconst 1, 1) := by decide +kernel
theorem dX6_go_100 : decode cX6_go 100 = .ok (.if_icmp .ne 9, 3) := by decide +kernel
theorem dX6_go_103 : decode cX6_go 103 = .ok (.aload_n 0, 1) := by decide +kernel
theorem dX6_go_104 : decode cX6_go 104 = .ok (.iload_n 1, 1) := by decide +kernel
theorem dX6_go_105 : decode cX6_go 105 = .ok (.invokevirtual 79, 3) := by decide +kernel
theorem dX6_go_108 : decode cX6_go 108 = .ok (.ireturn, 1) := by decide +kernel
theorem dX6_go_109 : decode cX6_go 109 = .ok (.iload_n 1, 1) := by decide +kernel
theorem dX6_go_110 : decode cX6_go 110 = .ok (.bipush 47, 2) := by decide +kernel
theorem dX6_go_112 : decode cX6_go 112 = .ok (.if_icmp .ne 8, 3) := by decide +kernel
theorem dX6_go_115 : decode cX6_go 115 = .ok (.aload_n 0, 1) := by decide +kernel
theorem dX6_go_116 : decode cX6_go 116 = .ok (.invokevirtual 83, 3) := by decide +kernel
theorem dX6_go_119 : decode cX6_go 119 = .ok (.ireturn, 1) := by decide +kernel
theorem dX6_go_120 : decode cX6_go 120 = .ok (.aload_n 0, 1) := by decide +kernel
theorem dX6_go_121 : decode cX6_go 121 = .ok (.getfield 59, 3) := by decide +kernel
theorem dX6_go_124 : decode cX6_go 124 = .ok (.iconst 2, 1) := by decide +kernel
theorem dX6_go_125 : decode cX6_go 125 = .ok (.if_icmp .ne 20, 3) := by decide +kernel
theorem dX6_go_128 : decode cX6_go 128 = .ok (.aload_n 0, 1) := by decide +kernel
theorem dX6_go_129 : decode cX6_go 129 = .ok (.iconst 3, 1) := by decide +kernel
theorem dX6_go_130 : decode cX6_go 130 = .ok (.putfield 59, 3) := by decide +kernel
theorem dX6_go_133 : decode cX6_go 133 = .ok (.iload_n 1, 1) := by decide +kernel
theorem dX6_go_134 : decode cX6_go 134 = .ok (.bipush 58, 2) := by decide +kernel
theorem dX6_go_136 : decode cX6_go 136 = .ok (.if_icmp .ne 7, 3) := by decide +kernel
theorem dX6_go_139 : decode cX6_go 139 = .ok (.iconst 1, 1) := by decide +kernel
theorem dX6_go_140 : decode cX6_go 140 = .ok (.goto 4, 3) := by decide +kernel
theorem dX6_go_143 : decode cX6_go 143 = .ok (.iconst 0, 1) := by decide +kernel
theorem dX6_go_144 : decode cX6_go 144 = .ok (.ireturn, 1) := by decide +kernel
theorem dX6_go_145 : decode cX6_go 145 = .ok (.aload_n 0, 1) := by decide +kernel
theorem dX6_go_146 : decode cX6_go 146 = .ok (.iload_n 1, 1) := by decide +kernel
theorem dX6_go_147 : decode cX6_go 147 = .ok (.invokevirtual 87, 3) := by decide +kernel
theorem dX6_go_150 : decode cX6_go 150 = .ok (.ireturn, 1) := by decide +kernel
set_option maxRecDepth 20000 in
theorem ggX6_faultOf_X6_go : GoodIn wsX6_faultOf wsX6_go := goodIn_r _ [10, 1, 3, 11, 12, 13, 9, 14, 15, 16, 17, 18, 19, 20, 21, 22, 23, 24, 25, 26, 27, 28, 29, 30, 31, 32, 2, 33, 34, 35, 36, 37, 38, 39, 40, 41, 42, 43, 44, 45, 46, 47, 48, 49, 50, 51, 52, 53, 54, 55, 56, 57, 58] (by decide +kernel) (by decide +kernel)
set_option maxRecDepth 20000 in
theorem gX6_faultOf_X6_go : GoodIn wsX6_faultOf (wsV RX6 90 RX6 yX6_go wsX6_go) := goodIn_app (goodIn_of _ (by decide +kernel)) ggX6_faultOf_X6_go
theorem dX6_faultOf_0 : decode cX6_faultOf 0 = .ok (.aload_n 0, 1) := by decide +kernel
theorem dX6_faultOf_1 : decode cX6_faultOf 1 = .ok (.iconst 0, 1) := by decide +kernel
theorem dX6_faultOf_2 : decode cX6_faultOf 2 = .ok (.putfield 56, 3) := by decide +kernel
theorem dX6_faultOf_5 : decode cX6_faultOf 5 = .ok (.aload_n 0, 1) := by decide +kernel
theorem dX6_faultOf_6 : decode cX6_faultOf 6 = .ok (.iconst 0, 1) := by decide +kernel
theorem dX6_faultOf_7 : decode cX6_faultOf 7 = .ok (.putfield 72, 3) := by decide +kernel
theorem dX6_faultOf_10 : decode cX6_faultOf 10 = .ok (.aload_n 0, 1) := by decide +kernel
theorem dX6_faultOf_11 : decode cX6_faultOf 11 = .ok (.iconst 0, 1) := by decide +kernel
theorem dX6_faultOf_12 : decode cX6_faultOf 12 = .ok (.putfield 59, 3) := by decide +kernel
theorem dX6_faultOf_15 : decode cX6_faultOf 15 = .ok (.iconst 0, 1) := by decide +kernel
theorem dX6_faultOf_16 : decode cX6_faultOf 16 = .ok (.istore_n 1, 1) := by decide +kernel
theorem dX6_faultOf_17 : decode cX6_faultOf 17 = .ok (.iload_n 1, 1) := by decide +kernel
theorem dX6_faultOf_18 : decode cX6_faultOf 18 = .ok (.aload_n 0, 1) := by decide +kernel
theorem dX6_faultOf_19 : decode cX6_faultOf 19 = .ok (.getfield 53, 3) := by decide +kernel
theorem dX6_faultOf_22 : decode cX6_faultOf 22 = .ok (.if_icmp .ge 22, 3) := by decide +kernel
theorem dX6_faultOf_25 : decode cX6_faultOf 25 = .ok (.aload_n 0, 1) := by decide +kernel
theorem dX6_faultOf_26 : decode cX6_faultOf 26 = .ok (.aload_n 0, 1) := by decide +kernel
theorem dX6_faultOf_27 : decode cX6_faultOf 27 = .ok (.getfield 7, 3) := by decide +kernel
theorem dX6_faultOf_30 : decode cX6_faultOf 30 = .ok (.iload_n 1, 1) := by decide +kernel
theorem dX6_faultOf_31 : decode cX6_faultOf 31 = .ok (.iaload, 1) := by decide +kernel
theorem dX6_faultOf_32 : decode cX6_faultOf 32 = .ok (.invokevirtual 90, 3) := by decide +kernel
theorem dX6_faultOf_35 : decode cX6_faultOf 35 = .ok (.ifCond .eq 9, 3) := by decide +kernel
theorem dX6_faultOf_38 : decode cX6_faultOf 38 = .ok (.iinc 1 1, 3) := by decide +kernel
theorem dX6_faultOf_41 : decode cX6_faultOf 41 = .ok (.goto (-24), 3) := by decide +kernel
theorem dX6_faultOf_44 : decode cX6_faultOf 44 = .ok (.iload_n 1, 1) := by decide +kernel
theorem dX6_faultOf_45 : decode cX6_faultOf 45 = .ok (.ireturn, 1) := by decide +kernel
set_option maxRecDepth 20000 in
theorem ggX6_fault_X6_faultOf : GoodIn wsX6_fault wsX6_faultOf := goodIn_r _ [5, 6, 7, 8, 9, 10, 11, 12, 13, 4, 14, 15, 16, 17, 18, 19, 20, 21, 22, 23, 24, 25, 26, 27, 28, 29, 30, 31, 32, 33, 34, 35, 36, 37, 38, 39, 40, 41, 42, 43, 44, 45, 46, 47, 48, 49, 50, 51, 52, 53, 54, 55, 56, 57, 58, 59, 60, 61, 62] (by decide +kernel) (by decide +kernel)
set_option maxRecDepth 20000 in
theorem gX6_fault_X6_faultOf : GoodIn wsX6_fault (wsV RX6 93 RX6 yX6_faultOf wsX6_faultOf) := goodIn_app (goodIn_of _ (by decide +kernel)) ggX6_fault_X6_faultOf
theorem dX6_fault_0 : decode cX6_fault 0 = .ok (.aload_n 0, 1) := by decide +kernel
theorem dX6_fault_1 : decode cX6_fault 1 = .ok (.invokevirtual 93, 3) := by decide +kernel
theorem dX6_fault_4 : decode cX6_fault 4 = .ok (.ireturn, 1) := by decide +kernel
set_option maxRecDepth 20000 in
theorem ggX6_tower_X6_faultOf : GoodIn wsX6_tower wsX6_faultOf := goodIn_r _ [14, 4, 3, 2, 1, 15, 16, 17, 18, 13, 19, 7, 20, 21, 22, 23, 24, 25, 26, 27, 28, 29, 30, 31, 32, 33, 34, 35, 36, 37, 38, 39, 40, 49, 50, 51, 52, 53, 54, 55, 56, 57, 58, 59, 60, 61, 62, 63, 64, 65, 66, 67, 68, 69, 70, 71, 72, 73, 74] (by decide +kernel) (by decide +kernel)
set_option maxRecDepth 20000 in
theorem gX6_tower_X6_faultOf : GoodIn wsX6_tower (wsV RX6 93 RX6 yX6_faultOf wsX6_faultOf) := goodIn_app (goodIn_of _ (by decide +kernel)) ggX6_tower_X6_faultOf
set_option maxRecDepth 20000 in
theorem ggX6_tower_X6_empty : GoodIn wsX6_tower wsX6_empty := goodIn_r _ [44, 45, 46, 47, 48, 49, 50, 51, 52, 53, 54, 55, 56, 57, 58, 59, 60, 61, 62, 63, 64, 65, 66, 67, 68, 69, 70, 71, 72, 73, 74] (by decide +kernel) (by decide +kernel)
set_option maxRecDepth 20000 in
theorem gX6_tower_X6_empty : GoodIn wsX6_tower (wsV RX6 100 RX6 yX6_empty wsX6_empty) := goodIn_app (goodIn_of _ (by decide +kernel)) ggX6_tower_X6_empty
theorem dX6_tower_0 : decode cX6_tower 0 = .ok (.aload_n 0, 1) := by decide +kernel
theorem dX6_tower_1 : decode cX6_tower 1 = .ok (.invokevirtual 93, 3) := by decide +kernel
theorem dX6_tower_4 : decode cX6_tower 4 = .ok (.aload_n 0, 1) := by decide +kernel
theorem dX6_tower_5 : decode cX6_tower 5 = .ok (.getfield 53, 3) := by decide +kernel
theorem dX6_tower_8 : decode cX6_tower 8 = .ok (.if_icmp .lt 30, 3) := by decide +kernel
theorem dX6_tower_11 : decode cX6_tower 11 = .ok (.aload_n 0, 1) := by decide +kernel
theorem dX6_tower_12 : decode cX6_tower 12 = .ok (.getfield 59, 3) := by decide +kernel
theorem dX6_tower_15 : decode cX6_tower 15 = .ok (.iconst 2, 1) := by decide +kernel
theorem dX6_tower_16 : decode cX6_tower 16 = .ok (.if_icmp .eq 11, 3) := by decide +kernel
theorem dX6_tower_19 : decode cX6_tower 19 = .ok (.aload_n 0, 1) := by decide +kernel
theorem dX6_tower_20 : decode cX6_tower 20 = .ok (.getfield 59, 3) := by decide +kernel
theorem dX6_tower_23 : decode cX6_tower 23 = .ok (.iconst 4, 1) := by decide +kernel
theorem dX6_tower_24 : decode cX6_tower 24 = .ok (.if_icmp .ne 14, 3) := by decide +kernel
theorem dX6_tower_27 : decode cX6_tower 27 = .ok (.aload_n 0, 1) := by decide +kernel
theorem dX6_tower_28 : decode cX6_tower 28 = .ok (.getfield 72, 3) := by decide +kernel
theorem dX6_tower_31 : decode cX6_tower 31 = .ok (.aload_n 0, 1) := by decide +kernel
theorem dX6_tower_32 : decode cX6_tower 32 = .ok (.getfield 56, 3) := by decide +kernel
theorem dX6_tower_35 : decode cX6_tower 35 = .ok (.if_icmp .le 6, 3) := by decide +kernel
theorem dX6_tower_38 : decode cX6_tower 38 = .ok (.bipush (-103), 2) := by decide +kernel
theorem dX6_tower_40 : decode cX6_tower 40 = .ok (.ireturn, 1) := by decide +kernel
theorem dX6_tower_41 : decode cX6_tower 41 = .ok (.aload_n 0, 1) := by decide +kernel
theorem dX6_tower_42 : decode cX6_tower 42 = .ok (.aload_n 0, 1) := by decide +kernel
theorem dX6_tower_43 : decode cX6_tower 43 = .ok (.getfield 56, 3) := by decide +kernel
theorem dX6_tower_46 : decode cX6_tower 46 = .ok (.iconst 1, 1) := by decide +kernel
theorem dX6_tower_47 : decode cX6_tower 47 = .ok (.iadd, 1) := by decide +kernel
theorem dX6_tower_48 : decode cX6_tower 48 = .ok (.putfield 97, 3) := by decide +kernel
theorem dX6_tower_51 : decode cX6_tower 51 = .ok (.iconst 0, 1) := by decide +kernel
theorem dX6_tower_52 : decode cX6_tower 52 = .ok (.istore_n 1, 1) := by decide +kernel
theorem dX6_tower_53 : decode cX6_tower 53 = .ok (.iload_n 1, 1) := by decide +kernel
theorem dX6_tower_54 : decode cX6_tower 54 = .ok (.bipush 6, 2) := by decide +kernel
theorem dX6_tower_56 : decode cX6_tower 56 = .ok (.aload_n 0, 1) := by decide +kernel
theorem dX6_tower_57 : decode cX6_tower 57 = .ok (.getfield 97, 3) := by decide +kernel
theorem dX6_tower_60 : decode cX6_tower 60 = .ok (.imul, 1) := by decide +kernel
theorem dX6_tower_61 : decode cX6_tower 61 = .ok (.if_icmp .ge 21, 3) := by decide +kernel
theorem dX6_tower_64 : decode cX6_tower 64 = .ok (.aload_n 0, 1) := by decide +kernel
theorem dX6_tower_65 : decode cX6_tower 65 = .ok (.getfield 16, 3) := by decide +kernel
theorem dX6_tower_68 : decode cX6_tower 68 = .ok (.iload_n 1, 1) := by decide +kernel
theorem dX6_tower_69 : decode cX6_tower 69 = .ok (.aload_n 0, 1) := by decide +kernel
theorem dX6_tower_70 : decode cX6_tower 70 = .ok (.getfield 13, 3) := by decide +kernel
theorem dX6_tower_73 : decode cX6_tower 73 = .ok (.iload_n 1, 1) := by decide +kernel
theorem dX6_tower_74 : decode cX6_tower 74 = .ok (.iaload, 1) := by decide +kernel
theorem dX6_tower_75 : decode cX6_tower 75 = .ok (.iastore, 1) := by decide +kernel
theorem dX6_tower_76 : decode cX6_tower 76 = .ok (.iinc 1 1, 3) := by decide +kernel
theorem dX6_tower_79 : decode cX6_tower 79 = .ok (.goto (-26), 3) := by decide +kernel
theorem dX6_tower_82 : decode cX6_tower 82 = .ok (.iconst 0, 1) := by decide +kernel
theorem dX6_tower_83 : decode cX6_tower 83 = .ok (.istore_n 1, 1) := by decide +kernel
theorem dX6_tower_84 : decode cX6_tower 84 = .ok (.iload_n 1, 1) := by decide +kernel
theorem dX6_tower_85 : decode cX6_tower 85 = .ok (.bipush 9, 2) := by decide +kernel
theorem dX6_tower_87 : decode cX6_tower 87 = .ok (.if_icmp .ge 16, 3) := by decide +kernel
theorem dX6_tower_90 : decode cX6_tower 90 = .ok (.aload_n 0, 1) := by decide +kernel
theorem dX6_tower_91 : decode cX6_tower 91 = .ok (.getfield 19, 3) := by decide +kernel
theorem dX6_tower_94 : decode cX6_tower 94 = .ok (.iload_n 1, 1) := by decide +kernel
theorem dX6_tower_95 : decode cX6_tower 95 = .ok (.iconst 0, 1) := by decide +kernel
theorem dX6_tower_96 : decode cX6_tower 96 = .ok (.iastore, 1) := by decide +kernel
theorem dX6_tower_97 : decode cX6_tower 97 = .ok (.iinc 1 1, 3) := by decide +kernel
theorem dX6_tower_100 : decode cX6_tower 100 = .ok (.goto (-16), 3) := by decide +kernel
theorem dX6_tower_103 : decode cX6_tower 103 = .ok (.aload_n 0, 1) := by decide +kernel
theorem dX6_tower_104 : decode cX6_tower 104 = .ok (.invokevirtual 100, 3) := by decide +kernel
theorem dX6_tower_107 : decode cX6_tower 107 = .ok (.aload_n 0, 1) := by decide +kernel
theorem dX6_tower_108 : decode cX6_tower 108 = .ok (.dup, 1) := by decide +kernel
theorem dX6_tower_109 : decode cX6_tower 109 = .ok (.getfield 103, 3) := by decide +kernel
theorem dX6_tower_112 : decode cX6_tower 112 = .ok (.iconst 1, 1) := by decide +kernel
theorem dX6_tower_113 : decode cX6_tower 113 = .ok (.iadd, 1) := by decide +kernel
theorem dX6_tower_114 : decode cX6_tower 114 = .ok (.putfield 103, 3) := by decide +kernel
theorem dX6_tower_117 : decode cX6_tower 117 = .ok (.aload_n 0, 1) := by decide +kernel
theorem dX6_tower_118 : decode cX6_tower 118 = .ok (.iconst 0, 1) := by decide +kernel
theorem dX6_tower_119 : decode cX6_tower 119 = .ok (.putfield 53, 3) := by decide +kernel
theorem dX6_tower_122 : decode cX6_tower 122 = .ok (.aload_n 0, 1) := by decide +kernel
theorem dX6_tower_123 : decode cX6_tower 123 = .ok (.getfield 97, 3) := by decide +kernel
theorem dX6_tower_126 : decode cX6_tower 126 = .ok (.ireturn, 1) := by decide +kernel
theorem dX6_empty_0 : decode cX6_empty 0 = .ok (.iconst 0, 1) := by decide +kernel
theorem dX6_empty_1 : decode cX6_empty 1 = .ok (.istore_n 1, 1) := by decide +kernel
theorem dX6_empty_2 : decode cX6_empty 2 = .ok (.iload_n 1, 1) := by decide +kernel
theorem dX6_empty_3 : decode cX6_empty 3 = .ok (.bipush 9, 2) := by decide +kernel
theorem dX6_empty_5 : decode cX6_empty 5 = .ok (.if_icmp .ge 23, 3) := by decide +kernel
theorem dX6_empty_8 : decode cX6_empty 8 = .ok (.aload_n 0, 1) := by decide +kernel
theorem dX6_empty_9 : decode cX6_empty 9 = .ok (.getfield 22, 3) := by decide +kernel
theorem dX6_empty_12 : decode cX6_empty 12 = .ok (.iload_n 1, 1) := by decide +kernel
theorem dX6_empty_13 : decode cX6_empty 13 = .ok (.lconst 0, 1) := by decide +kernel
theorem dX6_empty_14 : decode cX6_empty 14 = .ok (.lastore, 1) := by decide +kernel
theorem dX6_empty_15 : decode cX6_empty 15 = .ok (.aload_n 0, 1) := by decide +kernel
theorem dX6_empty_16 : decode cX6_empty 16 = .ok (.getfield 26, 3) := by decide +kernel
theorem dX6_empty_19 : decode cX6_empty 19 = .ok (.iload_n 1, 1) := by decide +kernel
theorem dX6_empty_20 : decode cX6_empty 20 = .ok (.lconst 0, 1) := by decide +kernel
theorem dX6_empty_21 : decode cX6_empty 21 = .ok (.lastore, 1) := by decide +kernel
theorem dX6_empty_22 : decode cX6_empty 22 = .ok (.iinc 1 1, 3) := by decide +kernel
theorem dX6_empty_25 : decode cX6_empty 25 = .ok (.goto (-23), 3) := by decide +kernel
theorem dX6_empty_28 : decode cX6_empty 28 = .ok (.aload_n 0, 1) := by decide +kernel
theorem dX6_empty_29 : decode cX6_empty 29 = .ok (.lconst 0, 1) := by decide +kernel
theorem dX6_empty_30 : decode cX6_empty 30 = .ok (.putfield 106, 3) := by decide +kernel
theorem dX6_empty_33 : decode cX6_empty 33 = .ok (.aload_n 0, 1) := by decide +kernel
theorem dX6_empty_34 : decode cX6_empty 34 = .ok (.iconst 0, 1) := by decide +kernel
theorem dX6_empty_35 : decode cX6_empty 35 = .ok (.putfield 110, 3) := by decide +kernel
theorem dX6_empty_38 : decode cX6_empty 38 = .ok (.return_, 1) := by decide +kernel
theorem dX6_lacks_0 : decode cX6_lacks 0 = .ok (.aload_n 0, 1) := by decide +kernel
theorem dX6_lacks_1 : decode cX6_lacks 1 = .ok (.getfield 97, 3) := by decide +kernel
theorem dX6_lacks_4 : decode cX6_lacks 4 = .ok (.ifCond .ne 7, 3) := by decide +kernel
theorem dX6_lacks_7 : decode cX6_lacks 7 = .ok (.iconst 1, 1) := by decide +kernel
theorem dX6_lacks_8 : decode cX6_lacks 8 = .ok (.goto 4, 3) := by decide +kernel
theorem dX6_lacks_11 : decode cX6_lacks 11 = .ok (.iconst 0, 1) := by decide +kernel
theorem dX6_lacks_12 : decode cX6_lacks 12 = .ok (.ireturn, 1) := by decide +kernel
set_option maxRecDepth 20000 in
theorem ggX6_isGlass_X6_isIn : GoodIn wsX6_isGlass wsX6_isIn := goodIn_r _ [5] (by decide +kernel) (by decide +kernel)
set_option maxRecDepth 20000 in
theorem gX6_isGlass_X6_isIn : GoodIn wsX6_isGlass (va_wsS RX6 66 yX6_isIn wsX6_isIn) := goodIn_app (goodIn_of _ (by decide +kernel)) ggX6_isGlass_X6_isIn
theorem dX6_isGlass_0 : decode cX6_isGlass 0 = .ok (.iload_n 1, 1) := by decide +kernel
theorem dX6_isGlass_1 : decode cX6_isGlass 1 = .ok (.i2l, 1) := by decide +kernel
theorem dX6_isGlass_2 : decode cX6_isGlass 2 = .ok (.lconst 0, 1) := by decide +kernel
theorem dX6_isGlass_3 : decode cX6_isGlass 3 = .ok (.aload_n 0, 1) := by decide +kernel
theorem dX6_isGlass_4 : decode cX6_isGlass 4 = .ok (.getfield 97, 3) := by decide +kernel
theorem dX6_isGlass_7 : decode cX6_isGlass 7 = .ok (.iconst 1, 1) := by decide +kernel
theorem dX6_isGlass_8 : decode cX6_isGlass 8 = .ok (.isub, 1) := by decide +kernel
theorem dX6_isGlass_9 : decode cX6_isGlass 9 = .ok (.i2l, 1) := by decide +kernel
theorem dX6_isGlass_10 : decode cX6_isGlass 10 = .ok (.invokestatic 66, 3) := by decide +kernel
theorem dX6_isGlass_13 : decode cX6_isGlass 13 = .ok (.ireturn, 1) := by decide +kernel
theorem dX6_takesOf_0 : decode cX6_takesOf 0 = .ok (.aload_n 0, 1) := by decide +kernel
theorem dX6_takesOf_1 : decode cX6_takesOf 1 = .ok (.getfield 16, 3) := by decide +kernel
theorem dX6_takesOf_4 : decode cX6_takesOf 4 = .ok (.bipush 6, 2) := by decide +kernel
theorem dX6_takesOf_6 : decode cX6_takesOf 6 = .ok (.iload_n 1, 1) := by decide +kernel
theorem dX6_takesOf_7 : decode cX6_takesOf 7 = .ok (.imul, 1) := by decide +kernel
theorem dX6_takesOf_8 : decode cX6_takesOf 8 = .ok (.iaload, 1) := by decide +kernel
theorem dX6_takesOf_9 : decode cX6_takesOf 9 = .ok (.istore_n 2, 1) := by decide +kernel
theorem dX6_takesOf_10 : decode cX6_takesOf 10 = .ok (.aload_n 0, 1) := by decide +kernel
theorem dX6_takesOf_11 : decode cX6_takesOf 11 = .ok (.getfield 16, 3) := by decide +kernel
theorem dX6_takesOf_14 : decode cX6_takesOf 14 = .ok (.bipush 6, 2) := by decide +kernel
theorem dX6_takesOf_16 : decode cX6_takesOf 16 = .ok (.iload_n 1, 1) := by decide +kernel
theorem dX6_takesOf_17 : decode cX6_takesOf 17 = .ok (.imul, 1) := by decide +kernel
theorem dX6_takesOf_18 : decode cX6_takesOf 18 = .ok (.iconst 1, 1) := by decide +kernel
theorem dX6_takesOf_19 : decode cX6_takesOf 19 = .ok (.iadd, 1) := by decide +kernel
theorem dX6_takesOf_20 : decode cX6_takesOf 20 = .ok (.iaload, 1) := by decide +kernel
theorem dX6_takesOf_21 : decode cX6_takesOf 21 = .ok (.istore_n 3, 1) := by decide +kernel
theorem dX6_takesOf_22 : decode cX6_takesOf 22 = .ok (.iload_n 2, 1) := by decide +kernel
theorem dX6_takesOf_23 : decode cX6_takesOf 23 = .ok (.iconst 1, 1) := by decide +kernel
theorem dX6_takesOf_24 : decode cX6_takesOf 24 = .ok (.if_icmp .ne 9, 3) := by decide +kernel
theorem dX6_takesOf_27 : decode cX6_takesOf 27 = .ok (.iload_n 3, 1) := by decide +kernel
theorem dX6_takesOf_28 : decode cX6_takesOf 28 = .ok (.iconst 1, 1) := by decide +kernel
theorem dX6_takesOf_29 : decode cX6_takesOf 29 = .ok (.isub, 1) := by decide +kernel
theorem dX6_takesOf_30 : decode cX6_takesOf 30 = .ok (.goto 18, 3) := by decide +kernel
theorem dX6_takesOf_33 : decode cX6_takesOf 33 = .ok (.iload_n 2, 1) := by decide +kernel
theorem dX6_takesOf_34 : decode cX6_takesOf 34 = .ok (.iconst 2, 1) := by decide +kernel
theorem dX6_takesOf_35 : decode cX6_takesOf 35 = .ok (.if_icmp .eq 8, 3) := by decide +kernel
theorem dX6_takesOf_38 : decode cX6_takesOf 38 = .ok (.iload_n 2, 1) := by decide +kernel
theorem dX6_takesOf_39 : decode cX6_takesOf 39 = .ok (.iconst 4, 1) := by decide +kernel
theorem dX6_takesOf_40 : decode cX6_takesOf 40 = .ok (.if_icmp .ne 7, 3) := by decide +kernel
theorem dX6_takesOf_43 : decode cX6_takesOf 43 = .ok (.iconst 0, 1) := by decide +kernel
theorem dX6_takesOf_44 : decode cX6_takesOf 44 = .ok (.goto 4, 3) := by decide +kernel
theorem dX6_takesOf_47 : decode cX6_takesOf 47 = .ok (.iload_n 3, 1) := by decide +kernel
theorem dX6_takesOf_48 : decode cX6_takesOf 48 = .ok (.ireturn, 1) := by decide +kernel
set_option maxRecDepth 20000 in
theorem ggX6_layTakes_X6_takesOf : GoodIn wsX6_layTakes wsX6_takesOf := goodIn_r _ [10, 5, 11, 12, 13, 14, 15, 16, 17, 18, 19, 20, 21, 22, 23, 24, 25, 26, 27, 28, 29, 30, 31, 32, 33, 34, 35, 36] (by decide +kernel) (by decide +kernel)
set_option maxRecDepth 20000 in
theorem gX6_layTakes_X6_takesOf : GoodIn wsX6_layTakes (wsV RX6 115 RX6 yX6_takesOf wsX6_takesOf) := goodIn_app (goodIn_of _ (by decide +kernel)) ggX6_layTakes_X6_takesOf
theorem dX6_layTakes_0 : decode cX6_layTakes 0 = .ok (.iconst 0, 1) := by decide +kernel
theorem dX6_layTakes_1 : decode cX6_layTakes 1 = .ok (.istore_n 1, 1) := by decide +kernel
theorem dX6_layTakes_2 : decode cX6_layTakes 2 = .ok (.iload_n 1, 1) := by decide +kernel
theorem dX6_layTakes_3 : decode cX6_layTakes 3 = .ok (.aload_n 0, 1) := by decide +kernel
theorem dX6_layTakes_4 : decode cX6_layTakes 4 = .ok (.getfield 97, 3) := by decide +kernel
theorem dX6_layTakes_7 : decode cX6_layTakes 7 = .ok (.if_icmp .ge 49, 3) := by decide +kernel
theorem dX6_layTakes_10 : decode cX6_layTakes 10 = .ok (.aload_n 0, 1) := by decide +kernel
theorem dX6_layTakes_11 : decode cX6_layTakes 11 = .ok (.getfield 29, 3) := by decide +kernel
theorem dX6_layTakes_14 : decode cX6_layTakes 14 = .ok (.iload_n 1, 1) := by decide +kernel
theorem dX6_layTakes_15 : decode cX6_layTakes 15 = .ok (.ldc2_w 113, 3) := by decide +kernel
theorem dX6_layTakes_18 : decode cX6_layTakes 18 = .ok (.aload_n 0, 1) := by decide +kernel
theorem dX6_layTakes_19 : decode cX6_layTakes 19 = .ok (.iload_n 1, 1) := by decide +kernel
theorem dX6_layTakes_20 : decode cX6_layTakes 20 = .ok (.invokevirtual 115, 3) := by decide +kernel
theorem dX6_layTakes_23 : decode cX6_layTakes 23 = .ok (.i2l, 1) := by decide +kernel
theorem dX6_layTakes_24 : decode cX6_layTakes 24 = .ok (.lmul, 1) := by decide +kernel
theorem dX6_layTakes_25 : decode cX6_layTakes 25 = .ok (.lastore, 1) := by decide +kernel
theorem dX6_layTakes_26 : decode cX6_layTakes 26 = .ok (.aload_n 0, 1) := by decide +kernel
theorem dX6_layTakes_27 : decode cX6_layTakes 27 = .ok (.getfield 32, 3) := by decide +kernel
theorem dX6_layTakes_30 : decode cX6_layTakes 30 = .ok (.iload_n 1, 1) := by decide +kernel
theorem dX6_layTakes_31 : decode cX6_layTakes 31 = .ok (.aload_n 0, 1) := by decide +kernel
theorem dX6_layTakes_32 : decode cX6_layTakes 32 = .ok (.getfield 16, 3) := by decide +kernel
theorem dX6_layTakes_35 : decode cX6_layTakes 35 = .ok (.bipush 6, 2) := by decide +kernel
theorem dX6_layTakes_37 : decode cX6_layTakes 37 = .ok (.iload_n 1, 1) := by decide +kernel
theorem dX6_layTakes_38 : decode cX6_layTakes 38 = .ok (.imul, 1) := by decide +kernel
theorem dX6_layTakes_39 : decode cX6_layTakes 39 = .ok (.iaload, 1) := by decide +kernel
theorem dX6_layTakes_40 : decode cX6_layTakes 40 = .ok (.iconst 3, 1) := by decide +kernel
theorem dX6_layTakes_41 : decode cX6_layTakes 41 = .ok (.if_icmp .ne 7, 3) := by decide +kernel
theorem dX6_layTakes_44 : decode cX6_layTakes 44 = .ok (.iconst 1, 1) := by decide +kernel
theorem dX6_layTakes_45 : decode cX6_layTakes 45 = .ok (.goto 4, 3) := by decide +kernel
theorem dX6_layTakes_48 : decode cX6_layTakes 48 = .ok (.iconst 0, 1) := by decide +kernel
theorem dX6_layTakes_49 : decode cX6_layTakes 49 = .ok (.iastore, 1) := by decide +kernel
theorem dX6_layTakes_50 : decode cX6_layTakes 50 = .ok (.iinc 1 1, 3) := by decide +kernel
theorem dX6_layTakes_53 : decode cX6_layTakes 53 = .ok (.goto (-51), 3) := by decide +kernel
theorem dX6_layTakes_56 : decode cX6_layTakes 56 = .ok (.return_, 1) := by decide +kernel
theorem dX6_runOver_0 : decode cX6_runOver 0 = .ok (.lconst 0, 1) := by decide +kernel
