theorem dX4_drinkFrom_14 : decode cX4_drinkFrom 14 = .ok (.lreturn, 1) := by decide +kernel
theorem dX4_drinkFrom_15 : decode cX4_drinkFrom 15 = .ok (.aload_n 0, 1) := by decide +kernel
theorem dX4_drinkFrom_16 : decode cX4_drinkFrom 16 = .ok (.getfield 12, 3) := by decide +kernel
theorem dX4_drinkFrom_19 : decode cX4_drinkFrom 19 = .ok (.iload_n 1, 1) := by decide +kernel
theorem dX4_drinkFrom_20 : decode cX4_drinkFrom 20 = .ok (.invokevirtual 56, 3) := by decide +kernel
theorem dX4_drinkFrom_23 : decode cX4_drinkFrom 23 = .ok (.lstore_n 2, 1) := by decide +kernel
theorem dX4_drinkFrom_24 : decode cX4_drinkFrom 24 = .ok (.aload_n 0, 1) := by decide +kernel
theorem dX4_drinkFrom_25 : decode cX4_drinkFrom 25 = .ok (.getfield 18, 3) := by decide +kernel
theorem dX4_drinkFrom_28 : decode cX4_drinkFrom 28 = .ok (.iload_n 1, 1) := by decide +kernel
theorem dX4_drinkFrom_29 : decode cX4_drinkFrom 29 = .ok (.dup2, 1) := by decide +kernel
theorem dX4_drinkFrom_30 : decode cX4_drinkFrom 30 = .ok (.laload, 1) := by decide +kernel
theorem dX4_drinkFrom_31 : decode cX4_drinkFrom 31 = .ok (.lload_n 2, 1) := by decide +kernel
theorem dX4_drinkFrom_32 : decode cX4_drinkFrom 32 = .ok (.ladd, 1) := by decide +kernel
theorem dX4_drinkFrom_33 : decode cX4_drinkFrom 33 = .ok (.lastore, 1) := by decide +kernel
theorem dX4_drinkFrom_34 : decode cX4_drinkFrom 34 = .ok (.lload_n 2, 1) := by decide +kernel
theorem dX4_drinkFrom_35 : decode cX4_drinkFrom 35 = .ok (.lreturn, 1) := by decide +kernel
set_option maxRecDepth 20000 in
theorem ggX4_drinkersOf_X4_drinkFrom : GoodIn wsX4_drinkersOf wsX4_drinkFrom := goodIn_r _ [6, 7, 8, 9, 10, 11, 12, 13, 14, 15, 16, 17, 18, 19, 20] (by decide +kernel) (by decide +kernel)
set_option maxRecDepth 20000 in
theorem gX4_drinkersOf_X4_drinkFrom : GoodIn wsX4_drinkersOf (wsV RX4 60 RX4 yX4_drinkFrom wsX4_drinkFrom) := goodIn_app (goodIn_of _ (by decide +kernel)) ggX4_drinkersOf_X4_drinkFrom
theorem dX4_drinkersOf_0 : decode cX4_drinkersOf 0 = .ok (.iconst 0, 1) := by decide +kernel
theorem dX4_drinkersOf_1 : decode cX4_drinkersOf 1 = .ok (.istore_n 2, 1) := by decide +kernel
theorem dX4_drinkersOf_2 : decode cX4_drinkersOf 2 = .ok (.iload_n 2, 1) := by decide +kernel
theorem dX4_drinkersOf_3 : decode cX4_drinkersOf 3 = .ok (.aload_n 0, 1) := by decide +kernel
theorem dX4_drinkersOf_4 : decode cX4_drinkersOf 4 = .ok (.getfield 22, 3) := by decide +kernel
theorem dX4_drinkersOf_7 : decode cX4_drinkersOf 7 = .ok (.arraylength, 1) := by decide +kernel
theorem dX4_drinkersOf_8 : decode cX4_drinkersOf 8 = .ok (.if_icmp .ge 32, 3) := by decide +kernel
theorem dX4_drinkersOf_11 : decode cX4_drinkersOf 11 = .ok (.aload_n 0, 1) := by decide +kernel
theorem dX4_drinkersOf_12 : decode cX4_drinkersOf 12 = .ok (.getfield 22, 3) := by decide +kernel
theorem dX4_drinkersOf_15 : decode cX4_drinkersOf 15 = .ok (.iload_n 2, 1) := by decide +kernel
theorem dX4_drinkersOf_16 : decode cX4_drinkersOf 16 = .ok (.iaload, 1) := by decide +kernel
theorem dX4_drinkersOf_17 : decode cX4_drinkersOf 17 = .ok (.istore_n 3, 1) := by decide +kernel
theorem dX4_drinkersOf_18 : decode cX4_drinkersOf 18 = .ok (.iload_n 3, 1) := by decide +kernel
theorem dX4_drinkersOf_19 : decode cX4_drinkersOf 19 = .ok (.ifCond .le 15, 3) := by decide +kernel
theorem dX4_drinkersOf_22 : decode cX4_drinkersOf 22 = .ok (.iload_n 1, 1) := by decide +kernel
theorem dX4_drinkersOf_23 : decode cX4_drinkersOf 23 = .ok (.iload_n 3, 1) := by decide +kernel
theorem dX4_drinkersOf_24 : decode cX4_drinkersOf 24 = .ok (.irem, 1) := by decide +kernel
theorem dX4_drinkersOf_25 : decode cX4_drinkersOf 25 = .ok (.ifCond .ne 9, 3) := by decide +kernel
theorem dX4_drinkersOf_28 : decode cX4_drinkersOf 28 = .ok (.aload_n 0, 1) := by decide +kernel
theorem dX4_drinkersOf_29 : decode cX4_drinkersOf 29 = .ok (.iload_n 2, 1) := by decide +kernel
theorem dX4_drinkersOf_30 : decode cX4_drinkersOf 30 = .ok (.invokevirtual 60, 3) := by decide +kernel
theorem dX4_drinkersOf_33 : decode cX4_drinkersOf 33 = .ok (.pop2, 1) := by decide +kernel
theorem dX4_drinkersOf_34 : decode cX4_drinkersOf 34 = .ok (.iinc 2 1, 3) := by decide +kernel
theorem dX4_drinkersOf_37 : decode cX4_drinkersOf 37 = .ok (.goto (-35), 3) := by decide +kernel
theorem dX4_drinkersOf_40 : decode cX4_drinkersOf 40 = .ok (.return_, 1) := by decide +kernel
set_option maxRecDepth 20000 in
theorem ggX5_init_X1_init : GoodIn wsX5_init wsX1_init := goodIn_r _ [27, 28, 2, 3, 29, 30, 57, 58] (by decide +kernel) (by decide +kernel)
set_option maxRecDepth 20000 in
theorem gX5_init_X1_init_n11 : GoodIn wsX5_init (wsX1_init) := ggX5_init_X1_init
set_option maxRecDepth 20000 in
theorem ggX5_init_X2_init : GoodIn wsX5_init wsX2_init := goodIn_r _ [32, 33, 2, 3, 34, 13, 14, 35, 36, 37, 38, 39, 40, 41, 42, 43, 44, 71, 72, 73, 74, 75, 76, 69, 70] (by decide +kernel) (by decide +kernel)
set_option maxRecDepth 20000 in
theorem gX5_init_X2_init_n18 : GoodIn wsX5_init (wsX2_init) := ggX5_init_X2_init
set_option maxRecDepth 20000 in
theorem ggX5_init_X3_init : GoodIn wsX5_init wsX3_init := goodIn_r _ [37, 38, 2, 3, 39, 40, 41, 42, 43, 44, 71, 72, 73, 74, 75, 76] (by decide +kernel) (by decide +kernel)
set_option maxRecDepth 20000 in
theorem gX5_init_X3_init_n25 : GoodIn wsX5_init (wsX3_init) := ggX5_init_X3_init
set_option maxRecDepth 20000 in
theorem ggX5_init_X4_init : GoodIn wsX5_init wsX4_init := goodIn_r _ [46, 47, 2, 3, 48, 23, 24, 49, 50, 51, 39, 52, 53, 54, 55, 56, 81, 82, 77, 78, 79, 80] (by decide +kernel) (by decide +kernel)
set_option maxRecDepth 20000 in
theorem gX5_init_X4_init_n35 : GoodIn wsX5_init (wsX4_init) := ggX5_init_X4_init
set_option maxRecDepth 20000 in
theorem ggX5_init_X0_init : GoodIn wsX5_init wsX0_init := goodIn_r _ [54, 55, 2, 3, 50, 56, 81, 82] (by decide +kernel) (by decide +kernel)
set_option maxRecDepth 20000 in
theorem gX5_init_X0_init_n45 : GoodIn wsX5_init (wsX0_init) := ggX5_init_X0_init
theorem dX5_init_0 : decode cX5_init 0 = .ok (.aload_n 0, 1) := by decide +kernel
theorem dX5_init_1 : decode cX5_init 1 = .ok (.invokespecial 3, 3) := by decide +kernel
theorem dX5_init_4 : decode cX5_init 4 = .ok (.aload_n 0, 1) := by decide +kernel
theorem dX5_init_5 : decode cX5_init 5 = .ok (.new 9, 3) := by decide +kernel
theorem dX5_init_8 : decode cX5_init 8 = .ok (.dup, 1) := by decide +kernel
theorem dX5_init_9 : decode cX5_init 9 = .ok (.invokespecial 11, 3) := by decide +kernel
theorem dX5_init_12 : decode cX5_init 12 = .ok (.putfield 12, 3) := by decide +kernel
theorem dX5_init_15 : decode cX5_init 15 = .ok (.aload_n 0, 1) := by decide +kernel
theorem dX5_init_16 : decode cX5_init 16 = .ok (.new 16, 3) := by decide +kernel
theorem dX5_init_19 : decode cX5_init 19 = .ok (.dup, 1) := by decide +kernel
theorem dX5_init_20 : decode cX5_init 20 = .ok (.invokespecial 18, 3) := by decide +kernel
theorem dX5_init_23 : decode cX5_init 23 = .ok (.putfield 19, 3) := by decide +kernel
theorem dX5_init_26 : decode cX5_init 26 = .ok (.aload_n 0, 1) := by decide +kernel
theorem dX5_init_27 : decode cX5_init 27 = .ok (.new 23, 3) := by decide +kernel
theorem dX5_init_30 : decode cX5_init 30 = .ok (.dup, 1) := by decide +kernel
theorem dX5_init_31 : decode cX5_init 31 = .ok (.invokespecial 25, 3) := by decide +kernel
theorem dX5_init_34 : decode cX5_init 34 = .ok (.putfield 26, 3) := by decide +kernel
theorem dX5_init_37 : decode cX5_init 37 = .ok (.aload_n 0, 1) := by decide +kernel
theorem dX5_init_38 : decode cX5_init 38 = .ok (.new 23, 3) := by decide +kernel
theorem dX5_init_41 : decode cX5_init 41 = .ok (.dup, 1) := by decide +kernel
theorem dX5_init_42 : decode cX5_init 42 = .ok (.invokespecial 25, 3) := by decide +kernel
theorem dX5_init_45 : decode cX5_init 45 = .ok (.putfield 30, 3) := by decide +kernel
theorem dX5_init_48 : decode cX5_init 48 = .ok (.aload_n 0, 1) := by decide +kernel
theorem dX5_init_49 : decode cX5_init 49 = .ok (.new 33, 3) := by decide +kernel
theorem dX5_init_52 : decode cX5_init 52 = .ok (.dup, 1) := by decide +kernel
theorem dX5_init_53 : decode cX5_init 53 = .ok (.invokespecial 35, 3) := by decide +kernel
theorem dX5_init_56 : decode cX5_init 56 = .ok (.putfield 36, 3) := by decide +kernel
theorem dX5_init_59 : decode cX5_init 59 = .ok (.aload_n 0, 1) := by decide +kernel
theorem dX5_init_60 : decode cX5_init 60 = .ok (.new 33, 3) := by decide +kernel
theorem dX5_init_63 : decode cX5_init 63 = .ok (.dup, 1) := by decide +kernel
theorem dX5_init_64 : decode cX5_init 64 = .ok (.invokespecial 35, 3) := by decide +kernel
theorem dX5_init_67 : decode cX5_init 67 = .ok (.putfield 40, 3) := by decide +kernel
theorem dX5_init_70 : decode cX5_init 70 = .ok (.aload_n 0, 1) := by decide +kernel
theorem dX5_init_71 : decode cX5_init 71 = .ok (.new 43, 3) := by decide +kernel
theorem dX5_init_74 : decode cX5_init 74 = .ok (.dup, 1) := by decide +kernel
theorem dX5_init_75 : decode cX5_init 75 = .ok (.invokespecial 45, 3) := by decide +kernel
theorem dX5_init_78 : decode cX5_init 78 = .ok (.putfield 46, 3) := by decide +kernel
theorem dX5_init_81 : decode cX5_init 81 = .ok (.return_, 1) := by decide +kernel
set_option maxRecDepth 20000 in
theorem ggX5_letters_X5_lettersIn : GoodIn wsX5_letters wsX5_lettersIn := goodIn_r _ [6, 7, 8, 5, 9, 10] (by decide +kernel) (by decide +kernel)
set_option maxRecDepth 20000 in
theorem gX5_letters_X5_lettersIn : GoodIn wsX5_letters (va_wsS RX5 50 yX5_lettersIn wsX5_lettersIn) := goodIn_app (goodIn_of _ (by decide +kernel)) ggX5_letters_X5_lettersIn
set_option maxRecDepth 20000 in
theorem ggX5_letters_X5_codeAt : GoodIn wsX5_letters wsX5_codeAt := goodIn_r _ [9, 10] (by decide +kernel) (by decide +kernel)
set_option maxRecDepth 20000 in
theorem gX5_letters_X5_codeAt : GoodIn wsX5_letters (va_wsS RX5 58 yX5_codeAt wsX5_codeAt) := goodIn_app (goodIn_of _ (by decide +kernel)) ggX5_letters_X5_codeAt
set_option maxRecDepth 20000 in
theorem ggX5_letters_X1_write : GoodIn wsX5_letters wsX1_write := goodIn_r _ [15, 16, 17, 28, 29] (by decide +kernel) (by decide +kernel)
set_option maxRecDepth 20000 in
theorem gX5_letters_X1_write : GoodIn wsX5_letters (wsV RX5 62 RX1 yX1_write wsX1_write) := goodIn_app (goodIn_of _ (by decide +kernel)) ggX5_letters_X1_write
theorem dX5_letters_0 : decode cX5_letters 0 = .ok (.lload_n 1, 1) := by decide +kernel
theorem dX5_letters_1 : decode cX5_letters 1 = .ok (.invokestatic 50, 3) := by decide +kernel
theorem dX5_letters_4 : decode cX5_letters 4 = .ok (.istore_n 3, 1) := by decide +kernel
theorem dX5_letters_5 : decode cX5_letters 5 = .ok (.iload_n 3, 1) := by decide +kernel
theorem dX5_letters_6 : decode cX5_letters 6 = .ok (.ifCond .ge 6, 3) := by decide +kernel
theorem dX5_letters_9 : decode cX5_letters 9 = .ok (.bipush (-102), 2) := by decide +kernel
theorem dX5_letters_11 : decode cX5_letters 11 = .ok (.ireturn, 1) := by decide +kernel
theorem dX5_letters_12 : decode cX5_letters 12 = .ok (.aload_n 0, 1) := by decide +kernel
theorem dX5_letters_13 : decode cX5_letters 13 = .ok (.getfield 12, 3) := by decide +kernel
theorem dX5_letters_16 : decode cX5_letters 16 = .ok (.getfield 54, 3) := by decide +kernel
theorem dX5_letters_19 : decode cX5_letters 19 = .ok (.iload_n 3, 1) := by decide +kernel
theorem dX5_letters_20 : decode cX5_letters 20 = .ok (.iadd, 1) := by decide +kernel
theorem dX5_letters_21 : decode cX5_letters 21 = .ok (.bipush 70, 2) := by decide +kernel
theorem dX5_letters_23 : decode cX5_letters 23 = .ok (.if_icmp .le 6, 3) := by decide +kernel
theorem dX5_letters_26 : decode cX5_letters 26 = .ok (.bipush (-104), 2) := by decide +kernel
theorem dX5_letters_28 : decode cX5_letters 28 = .ok (.ireturn, 1) := by decide +kernel
theorem dX5_letters_29 : decode cX5_letters 29 = .ok (.iconst 0, 1) := by decide +kernel
theorem dX5_letters_30 : decode cX5_letters 30 = .ok (.istore 4, 2) := by decide +kernel
theorem dX5_letters_32 : decode cX5_letters 32 = .ok (.iload 4, 2) := by decide +kernel
theorem dX5_letters_34 : decode cX5_letters 34 = .ok (.iload_n 3, 1) := by decide +kernel
theorem dX5_letters_35 : decode cX5_letters 35 = .ok (.if_icmp .ge 22, 3) := by decide +kernel
theorem dX5_letters_38 : decode cX5_letters 38 = .ok (.aload_n 0, 1) := by decide +kernel
theorem dX5_letters_39 : decode cX5_letters 39 = .ok (.getfield 12, 3) := by decide +kernel
theorem dX5_letters_42 : decode cX5_letters 42 = .ok (.lload_n 1, 1) := by decide +kernel
theorem dX5_letters_43 : decode cX5_letters 43 = .ok (.iload 4, 2) := by decide +kernel
theorem dX5_letters_45 : decode cX5_letters 45 = .ok (.invokestatic 58, 3) := by decide +kernel
theorem dX5_letters_48 : decode cX5_letters 48 = .ok (.invokevirtual 62, 3) := by decide +kernel
theorem dX5_letters_51 : decode cX5_letters 51 = .ok (.iinc 4 1, 3) := by decide +kernel
theorem dX5_letters_54 : decode cX5_letters 54 = .ok (.goto (-22), 3) := by decide +kernel
theorem dX5_letters_57 : decode cX5_letters 57 = .ok (.aload_n 0, 1) := by decide +kernel
theorem dX5_letters_58 : decode cX5_letters 58 = .ok (.getfield 12, 3) := by decide +kernel
theorem dX5_letters_61 : decode cX5_letters 61 = .ok (.getfield 54, 3) := by decide +kernel
theorem dX5_letters_64 : decode cX5_letters 64 = .ok (.ireturn, 1) := by decide +kernel
theorem dX5_blank_0 : decode cX5_blank 0 = .ok (.aload_n 0, 1) := by decide +kernel
theorem dX5_blank_1 : decode cX5_blank 1 = .ok (.getfield 12, 3) := by decide +kernel
theorem dX5_blank_4 : decode cX5_blank 4 = .ok (.getfield 54, 3) := by decide +kernel
theorem dX5_blank_7 : decode cX5_blank 7 = .ok (.istore_n 1, 1) := by decide +kernel
theorem dX5_blank_8 : decode cX5_blank 8 = .ok (.aload_n 0, 1) := by decide +kernel
theorem dX5_blank_9 : decode cX5_blank 9 = .ok (.getfield 12, 3) := by decide +kernel
theorem dX5_blank_12 : decode cX5_blank 12 = .ok (.iconst 0, 1) := by decide +kernel
theorem dX5_blank_13 : decode cX5_blank 13 = .ok (.putfield 54, 3) := by decide +kernel
theorem dX5_blank_16 : decode cX5_blank 16 = .ok (.iload_n 1, 1) := by decide +kernel
theorem dX5_blank_17 : decode cX5_blank 17 = .ok (.ireturn, 1) := by decide +kernel
set_option maxRecDepth 20000 in
theorem ggX5_fault_X2_start : GoodIn wsX5_fault wsX2_start := goodIn_r _ [8, 9, 10, 11, 12, 13, 14, 15, 16, 17, 18, 19, 179, 180, 181, 182, 183, 184, 185, 186] (by decide +kernel) (by decide +kernel)
set_option maxRecDepth 20000 in
theorem gX5_fault_X2_start : GoodIn wsX5_fault (wsV RX5 66 RX2 yX2_start wsX2_start) := goodIn_app (goodIn_of _ (by decide +kernel)) ggX5_fault_X2_start
set_option maxRecDepth 20000 in
theorem ggX5_fault_X1_codeAt : GoodIn wsX5_fault wsX1_codeAt := goodIn_r _ [24, 25, 26, 177, 178] (by decide +kernel) (by decide +kernel)
set_option maxRecDepth 20000 in
theorem gX5_fault_X1_codeAt : GoodIn wsX5_fault (wsV RX5 69 RX1 yX1_codeAt wsX1_codeAt) := goodIn_app (goodIn_of _ (by decide +kernel)) ggX5_fault_X1_codeAt
set_option maxRecDepth 20000 in
theorem ggX5_fault_X2_goesOnWith : GoodIn wsX5_fault wsX2_goesOnWith := goodIn_r _ [30, 11, 31, 32, 33, 7, 34, 9, 35, 36, 37, 38, 39, 40, 41, 42, 43, 44, 45, 46, 47, 48, 49, 50, 51, 52, 53, 54, 55, 56, 57, 58, 59, 60, 61, 62, 63, 64, 65, 66, 67, 68, 69, 70, 71, 72, 73, 74, 75, 76, 77, 78, 79, 80, 81, 82, 83, 84, 85, 86, 87, 88, 89, 90, 91, 92, 93, 94, 95, 96, 97, 98, 99, 100, 101, 102, 103, 104, 105, 106, 107, 108, 109, 110, 111, 112, 113, 114, 115, 116, 117, 118, 119, 120, 121, 122, 123, 124, 125, 126, 15, 127, 17, 18, 128, 129, 130, 131, 132, 133, 134, 135, 136, 137, 138, 139, 140, 141, 142, 143, 144, 145, 146, 147, 148, 12, 13, 14, 16, 19, 149, 150, 151, 152, 10, 153, 154, 155, 156, 157, 158, 159, 160, 161, 162, 163, 164, 165, 166, 179, 180, 181, 182, 183, 184, 185, 186] (by decide +kernel) (by decide +kernel)
set_option maxRecDepth 20000 in
theorem gX5_fault_X2_goesOnWith : GoodIn wsX5_fault (wsV RX5 72 RX2 yX2_goesOnWith wsX2_goesOnWith) := goodIn_app (goodIn_of _ (by decide +kernel)) ggX5_fault_X2_goesOnWith
theorem dX5_fault_0 : decode cX5_fault 0 = .ok (.aload_n 0, 1) := by decide +kernel
theorem dX5_fault_1 : decode cX5_fault 1 = .ok (.getfield 19, 3) := by decide +kernel
theorem dX5_fault_4 : decode cX5_fault 4 = .ok (.invokevirtual 66, 3) := by decide +kernel
theorem dX5_fault_7 : decode cX5_fault 7 = .ok (.iconst 0, 1) := by decide +kernel
theorem dX5_fault_8 : decode cX5_fault 8 = .ok (.istore_n 1, 1) := by decide +kernel
theorem dX5_fault_9 : decode cX5_fault 9 = .ok (.iload_n 1, 1) := by decide +kernel
theorem dX5_fault_10 : decode cX5_fault 10 = .ok (.aload_n 0, 1) := by decide +kernel
theorem dX5_fault_11 : decode cX5_fault 11 = .ok (.getfield 12, 3) := by decide +kernel
theorem dX5_fault_14 : decode cX5_fault 14 = .ok (.getfield 54, 3) := by decide +kernel
theorem dX5_fault_17 : decode cX5_fault 17 = .ok (.if_icmp .ge 29, 3) := by decide +kernel
theorem dX5_fault_20 : decode cX5_fault 20 = .ok (.aload_n 0, 1) := by decide +kernel
theorem dX5_fault_21 : decode cX5_fault 21 = .ok (.getfield 19, 3) := by decide +kernel
theorem dX5_fault_24 : decode cX5_fault 24 = .ok (.aload_n 0, 1) := by decide +kernel
theorem dX5_fault_25 : decode cX5_fault 25 = .ok (.getfield 12, 3) := by decide +kernel
theorem dX5_fault_28 : decode cX5_fault 28 = .ok (.iload_n 1, 1) := by decide +kernel
theorem dX5_fault_29 : decode cX5_fault 29 = .ok (.invokevirtual 69, 3) := by decide +kernel
theorem dX5_fault_32 : decode cX5_fault 32 = .ok (.invokevirtual 72, 3) := by decide +kernel
theorem dX5_fault_35 : decode cX5_fault 35 = .ok (.ifCond .ne 5, 3) := by decide +kernel
theorem dX5_fault_38 : decode cX5_fault 38 = .ok (.iload_n 1, 1) := by decide +kernel
theorem dX5_fault_39 : decode cX5_fault 39 = .ok (.ireturn, 1) := by decide +kernel
theorem dX5_fault_40 : decode cX5_fault 40 = .ok (.iinc 1 1, 3) := by decide +kernel
theorem dX5_fault_43 : decode cX5_fault 43 = .ok (.goto (-34), 3) := by decide +kernel
theorem dX5_fault_46 : decode cX5_fault 46 = .ok (.aload_n 0, 1) := by decide +kernel
theorem dX5_fault_47 : decode cX5_fault 47 = .ok (.getfield 12, 3) := by decide +kernel
theorem dX5_fault_50 : decode cX5_fault 50 = .ok (.getfield 54, 3) := by decide +kernel
theorem dX5_fault_53 : decode cX5_fault 53 = .ok (.ireturn, 1) := by decide +kernel
set_option maxRecDepth 20000 in
theorem ggX5_tower_X5_fault : GoodIn wsX5_tower wsX5_fault := goodIn_r _ [14, 3, 1, 2, 15, 16, 17, 18, 19, 20, 21, 22, 23, 24, 25, 26, 27, 28, 29, 30, 31, 32, 33, 34, 35, 36, 37, 38, 39, 40, 41, 42, 43, 44, 45, 46, 47, 48, 49, 50, 51, 52, 53, 54, 55, 56, 57, 58, 59, 60, 61, 62, 63, 64, 65, 66, 67, 68, 69, 70, 71, 72, 73, 74, 75, 76, 77, 78, 79, 80, 81, 82, 83, 84, 85, 86, 87, 88, 89, 90, 91, 92, 93, 94, 95, 96, 97, 98, 99, 100, 101, 102, 103, 104, 105, 106, 107, 108, 109, 110, 111, 112, 113, 114, 115, 116, 117, 118, 119, 120, 121, 122, 123, 124, 125, 126, 127, 128, 129, 130, 131, 132, 133, 134, 135, 136, 137, 138, 139, 140, 141, 142, 143, 144, 145, 146, 147, 148, 149, 13, 150, 151, 152, 153, 154, 155, 156, 157, 158, 159, 160, 161, 162, 163, 164, 165, 166, 167, 168, 169, 170, 171, 172, 173, 174, 175, 176, 229, 230, 231, 232, 233, 234, 235, 236, 237, 238, 239, 240, 241, 242, 243, 244, 245, 246, 247, 248] (by decide +kernel) (by decide +kernel)
set_option maxRecDepth 20000 in
theorem gX5_tower_X5_fault : GoodIn wsX5_tower (wsV RX5 76 RX5 yX5_fault wsX5_fault) := goodIn_app (goodIn_of _ (by decide +kernel)) ggX5_tower_X5_fault
set_option maxRecDepth 20000 in
theorem ggX5_tower_X2_mayEnd : GoodIn wsX5_tower wsX2_mayEnd := goodIn_r _ [180, 20, 172, 173, 174, 18, 175, 22, 176, 169, 170, 26, 171, 28, 30, 181, 182, 183, 184, 185, 186, 187, 188, 167, 189, 190, 191, 192, 241, 242, 243, 244, 245, 246, 247, 248] (by decide +kernel) (by decide +kernel)
set_option maxRecDepth 20000 in
theorem gX5_tower_X2_mayEnd : GoodIn wsX5_tower (wsV RX5 80 RX2 yX2_mayEnd wsX2_mayEnd) := goodIn_app (goodIn_of _ (by decide +kernel)) ggX5_tower_X2_mayEnd
set_option maxRecDepth 20000 in
theorem ggX5_tower_X3_copyFrom : GoodIn wsX5_tower wsX3_copyFrom := goodIn_r _ [196, 29, 197, 198, 199, 200, 147, 148, 30, 167, 28, 243, 244, 245, 246, 247, 248] (by decide +kernel) (by decide +kernel)
set_option maxRecDepth 20000 in
theorem gX5_tower_X3_copyFrom : GoodIn wsX5_tower (wsV RX5 87 RX3 yX3_copyFrom wsX3_copyFrom) := goodIn_app (goodIn_of _ (by decide +kernel)) ggX5_tower_X3_copyFrom
set_option maxRecDepth 20000 in
theorem ggX5_tower_X4_makeNew : GoodIn wsX5_tower wsX4_makeNew := goodIn_r _ [205, 206, 207, 208, 209, 204, 210, 211, 212, 213, 214, 215, 216, 217, 218, 219, 220, 221, 222, 223, 224, 225, 226, 227, 228, 249, 250, 251, 252, 253, 254] (by decide +kernel) (by decide +kernel)
set_option maxRecDepth 20000 in
theorem gX5_tower_X4_makeNew : GoodIn wsX5_tower (wsV RX5 91 RX4 yX4_makeNew wsX4_makeNew) := goodIn_app (goodIn_of _ (by decide +kernel)) ggX5_tower_X4_makeNew
theorem dX5_tower_0 : decode cX5_tower 0 = .ok (.aload_n 0, 1) := by decide +kernel
theorem dX5_tower_1 : decode cX5_tower 1 = .ok (.invokevirtual 76, 3) := by decide +kernel
theorem dX5_tower_4 : decode cX5_tower 4 = .ok (.aload_n 0, 1) := by decide +kernel
theorem dX5_tower_5 : decode cX5_tower 5 = .ok (.getfield 12, 3) := by decide +kernel
theorem dX5_tower_8 : decode cX5_tower 8 = .ok (.getfield 54, 3) := by decide +kernel
theorem dX5_tower_11 : decode cX5_tower 11 = .ok (.if_icmp .lt 13, 3) := by decide +kernel
theorem dX5_tower_14 : decode cX5_tower 14 = .ok (.aload_n 0, 1) := by decide +kernel
theorem dX5_tower_15 : decode cX5_tower 15 = .ok (.getfield 19, 3) := by decide +kernel
theorem dX5_tower_18 : decode cX5_tower 18 = .ok (.invokevirtual 80, 3) := by decide +kernel
theorem dX5_tower_21 : decode cX5_tower 21 = .ok (.ifCond .ne 6, 3) := by decide +kernel
theorem dX5_tower_24 : decode cX5_tower 24 = .ok (.bipush (-103), 2) := by decide +kernel
theorem dX5_tower_26 : decode cX5_tower 26 = .ok (.ireturn, 1) := by decide +kernel
theorem dX5_tower_27 : decode cX5_tower 27 = .ok (.aload_n 0, 1) := by decide +kernel
theorem dX5_tower_28 : decode cX5_tower 28 = .ok (.getfield 26, 3) := by decide +kernel
theorem dX5_tower_31 : decode cX5_tower 31 = .ok (.aload_n 0, 1) := by decide +kernel
theorem dX5_tower_32 : decode cX5_tower 32 = .ok (.getfield 19, 3) := by decide +kernel
theorem dX5_tower_35 : decode cX5_tower 35 = .ok (.getfield 84, 3) := by decide +kernel
theorem dX5_tower_38 : decode cX5_tower 38 = .ok (.invokevirtual 87, 3) := by decide +kernel
theorem dX5_tower_41 : decode cX5_tower 41 = .ok (.aload_n 0, 1) := by decide +kernel
theorem dX5_tower_42 : decode cX5_tower 42 = .ok (.getfield 36, 3) := by decide +kernel
theorem dX5_tower_45 : decode cX5_tower 45 = .ok (.invokevirtual 91, 3) := by decide +kernel
theorem dX5_tower_48 : decode cX5_tower 48 = .ok (.aload_n 0, 1) := by decide +kernel
theorem dX5_tower_49 : decode cX5_tower 49 = .ok (.getfield 12, 3) := by decide +kernel
theorem dX5_tower_52 : decode cX5_tower 52 = .ok (.iconst 0, 1) := by decide +kernel
theorem dX5_tower_53 : decode cX5_tower 53 = .ok (.putfield 54, 3) := by decide +kernel
theorem dX5_tower_56 : decode cX5_tower 56 = .ok (.aload_n 0, 1) := by decide +kernel
theorem dX5_tower_57 : decode cX5_tower 57 = .ok (.iconst 0, 1) := by decide +kernel
theorem dX5_tower_58 : decode cX5_tower 58 = .ok (.putfield 94, 3) := by decide +kernel
theorem dX5_tower_61 : decode cX5_tower 61 = .ok (.aload_n 0, 1) := by decide +kernel
theorem dX5_tower_62 : decode cX5_tower 62 = .ok (.dup, 1) := by decide +kernel
theorem dX5_tower_63 : decode cX5_tower 63 = .ok (.getfield 98, 3) := by decide +kernel
theorem dX5_tower_66 : decode cX5_tower 66 = .ok (.iconst 1, 1) := by decide +kernel
theorem dX5_tower_67 : decode cX5_tower 67 = .ok (.iadd, 1) := by decide +kernel
theorem dX5_tower_68 : decode cX5_tower 68 = .ok (.putfield 98, 3) := by decide +kernel
theorem dX5_tower_71 : decode cX5_tower 71 = .ok (.aload_n 0, 1) := by decide +kernel
theorem dX5_tower_72 : decode cX5_tower 72 = .ok (.getfield 26, 3) := by decide +kernel
theorem dX5_tower_75 : decode cX5_tower 75 = .ok (.getfield 101, 3) := by decide +kernel
theorem dX5_tower_78 : decode cX5_tower 78 = .ok (.ireturn, 1) := by decide +kernel
set_option maxRecDepth 20000 in
theorem ggX5_about_X3_has : GoodIn wsX5_about wsX3_has := goodIn_r _ [13, 14, 41, 42, 43, 44, 45, 46] (by decide +kernel) (by decide +kernel)
set_option maxRecDepth 20000 in
theorem gX5_about_X3_has : GoodIn wsX5_about (wsV RX5 102 RX3 yX3_has wsX3_has) := goodIn_app (goodIn_of _ (by decide +kernel)) ggX5_about_X3_has
set_option maxRecDepth 20000 in
theorem ggX5_about_X3_shareOf : GoodIn wsX5_about wsX3_shareOf := goodIn_r _ [18, 19, 20, 21, 10, 11, 12, 13, 14, 41, 42, 43, 44, 45, 46] (by decide +kernel) (by decide +kernel)
set_option maxRecDepth 20000 in
theorem gX5_about_X3_shareOf : GoodIn wsX5_about (wsV RX5 119 RX3 yX3_shareOf wsX3_shareOf) := goodIn_app (goodIn_of _ (by decide +kernel)) ggX5_about_X3_shareOf
set_option maxRecDepth 20000 in
theorem ggX5_about_X0_isFull : GoodIn wsX5_about wsX0_isFull := goodIn_r _ [26, 27, 28, 29, 30, 10, 11, 12, 13, 14, 51, 52, 41, 42, 43, 44, 45, 46] (by decide +kernel) (by decide +kernel)
set_option maxRecDepth 20000 in
theorem gX5_about_X0_isFull : GoodIn wsX5_about (wsV RX5 129 RX0 yX0_isFull wsX0_isFull) := goodIn_app (goodIn_of _ (by decide +kernel)) ggX5_about_X0_isFull
theorem dX5_about_0 : decode cX5_about 0 = .ok (.aload_n 0, 1) := by decide +kernel
theorem dX5_about_1 : decode cX5_about 1 = .ok (.getfield 26, 3) := by decide +kernel
theorem dX5_about_4 : decode cX5_about 4 = .ok (.iload_n 1, 1) := by decide +kernel
theorem dX5_about_5 : decode cX5_about 5 = .ok (.invokevirtual 102, 3) := by decide +kernel
theorem dX5_about_8 : decode cX5_about 8 = .ok (.ifCond .ne 6, 3) := by decide +kernel
theorem dX5_about_11 : decode cX5_about 11 = .ok (.bipush (-101), 2) := by decide +kernel
theorem dX5_about_13 : decode cX5_about 13 = .ok (.ireturn, 1) := by decide +kernel
theorem dX5_about_14 : decode cX5_about 14 = .ok (.iload_n 2, 1) := by decide +kernel
theorem dX5_about_15 : decode cX5_about 15 = .ok (.tableswitch 135 0 8 #[49, 59, 69, 79, 89, 89, 89, 101, 111], 49) := by decide +kernel
theorem dX5_about_64 : decode cX5_about 64 = .ok (.aload_n 0, 1) := by decide +kernel
theorem dX5_about_65 : decode cX5_about 65 = .ok (.getfield 26, 3) := by decide +kernel
theorem dX5_about_68 : decode cX5_about 68 = .ok (.getfield 106, 3) := by decide +kernel
theorem dX5_about_71 : decode cX5_about 71 = .ok (.iload_n 1, 1) := by decide +kernel
theorem dX5_about_72 : decode cX5_about 72 = .ok (.iaload, 1) := by decide +kernel
theorem dX5_about_73 : decode cX5_about 73 = .ok (.ireturn, 1) := by decide +kernel
theorem dX5_about_74 : decode cX5_about 74 = .ok (.aload_n 0, 1) := by decide +kernel
theorem dX5_about_75 : decode cX5_about 75 = .ok (.getfield 26, 3) := by decide +kernel
theorem dX5_about_78 : decode cX5_about 78 = .ok (.getfield 110, 3) := by decide +kernel
theorem dX5_about_81 : decode cX5_about 81 = .ok (.iload_n 1, 1) := by decide +kernel
theorem dX5_about_82 : decode cX5_about 82 = .ok (.iaload, 1) := by decide +kernel
theorem dX5_about_83 : decode cX5_about 83 = .ok (.ireturn, 1) := by decide +kernel
theorem dX5_about_84 : decode cX5_about 84 = .ok (.aload_n 0, 1) := by decide +kernel
theorem dX5_about_85 : decode cX5_about 85 = .ok (.getfield 26, 3) := by decide +kernel
theorem dX5_about_88 : decode cX5_about 88 = .ok (.getfield 113, 3) := by decide +kernel
theorem dX5_about_91 : decode cX5_about 91 = .ok (.iload_n 1, 1) := by decide +kernel
theorem dX5_about_92 : decode cX5_about 92 = .ok (.iaload, 1) := by decide +kernel
theorem dX5_about_93 : decode cX5_about 93 = .ok (.ireturn, 1) := by decide +kernel
theorem dX5_about_94 : decode cX5_about 94 = .ok (.aload_n 0, 1) := by decide +kernel
theorem dX5_about_95 : decode cX5_about 95 = .ok (.getfield 26, 3) := by decide +kernel
theorem dX5_about_98 : decode cX5_about 98 = .ok (.getfield 116, 3) := by decide +kernel
theorem dX5_about_101 : decode cX5_about 101 = .ok (.iload_n 1, 1) := by decide +kernel
theorem dX5_about_102 : decode cX5_about 102 = .ok (.iaload, 1) := by decide +kernel
theorem dX5_about_103 : decode cX5_about 103 = .ok (.ireturn, 1) := by decide +kernel
theorem dX5_about_104 : decode cX5_about 104 = .ok (.aload_n 0, 1) := by decide +kernel
theorem dX5_about_105 : decode cX5_about 105 = .ok (.getfield 26, 3) := by decide +kernel
theorem dX5_about_108 : decode cX5_about 108 = .ok (.iload_n 1, 1) := by decide +kernel
theorem dX5_about_109 : decode cX5_about 109 = .ok (.iload_n 2, 1) := by decide +kernel
theorem dX5_about_110 : decode cX5_about 110 = .ok (.iconst 4, 1) := by decide +kernel
theorem dX5_about_111 : decode cX5_about 111 = .ok (.isub, 1) := by decide +kernel
theorem dX5_about_112 : decode cX5_about 112 = .ok (.invokevirtual 119, 3) := by decide +kernel
theorem dX5_about_115 : decode cX5_about 115 = .ok (.ireturn, 1) := by decide +kernel
theorem dX5_about_116 : decode cX5_about 116 = .ok (.aload_n 0, 1) := by decide +kernel
theorem dX5_about_117 : decode cX5_about 117 = .ok (.getfield 36, 3) := by decide +kernel
theorem dX5_about_120 : decode cX5_about 120 = .ok (.getfield 123, 3) := by decide +kernel
theorem dX5_about_123 : decode cX5_about 123 = .ok (.iload_n 1, 1) := by decide +kernel
theorem dX5_about_124 : decode cX5_about 124 = .ok (.iaload, 1) := by decide +kernel
theorem dX5_about_125 : decode cX5_about 125 = .ok (.ireturn, 1) := by decide +kernel
theorem dX5_about_126 : decode cX5_about 126 = .ok (.aload_n 0, 1) := by decide +kernel
theorem dX5_about_127 : decode cX5_about 127 = .ok (.getfield 36, 3) := by decide +kernel
theorem dX5_about_130 : decode cX5_about 130 = .ok (.getfield 126, 3) := by decide +kernel
theorem dX5_about_133 : decode cX5_about 133 = .ok (.aload_n 0, 1) := by decide +kernel
theorem dX5_about_134 : decode cX5_about 134 = .ok (.getfield 26, 3) := by decide +kernel
theorem dX5_about_137 : decode cX5_about 137 = .ok (.iload_n 1, 1) := by decide +kernel
theorem dX5_about_138 : decode cX5_about 138 = .ok (.invokevirtual 129, 3) := by decide +kernel
theorem dX5_about_141 : decode cX5_about 141 = .ok (.ifCond .eq 7, 3) := by decide +kernel
theorem dX5_about_144 : decode cX5_about 144 = .ok (.iconst 1, 1) := by decide +kernel
theorem dX5_about_145 : decode cX5_about 145 = .ok (.goto 4, 3) := by decide +kernel
theorem dX5_about_148 : decode cX5_about 148 = .ok (.iconst 0, 1) := by decide +kernel
theorem dX5_about_149 : decode cX5_about 149 = .ok (.ireturn, 1) := by decide +kernel
theorem dX5_about_150 : decode cX5_about 150 = .ok (.bipush (-102), 2) := by decide +kernel
theorem dX5_about_152 : decode cX5_about 152 = .ok (.ireturn, 1) := by decide +kernel
set_option maxRecDepth 20000 in
theorem ggX5_as_X3_has : GoodIn wsX5_as wsX3_has := goodIn_r _ [6, 7, 24, 25, 26, 27, 28, 29] (by decide +kernel) (by decide +kernel)
set_option maxRecDepth 20000 in
theorem gX5_as_X3_has : GoodIn wsX5_as (wsV RX5 102 RX3 yX3_has wsX3_has) := goodIn_app (goodIn_of _ (by decide +kernel)) ggX5_as_X3_has
set_option maxRecDepth 20000 in
theorem ggX5_as_X3_isOfKind : GoodIn wsX5_as wsX3_isOfKind := goodIn_r _ [11, 12, 13, 3, 4, 5, 6, 7, 24, 25, 26, 27, 28, 29] (by decide +kernel) (by decide +kernel)
set_option maxRecDepth 20000 in
theorem gX5_as_X3_isOfKind : GoodIn wsX5_as (wsV RX5 133 RX3 yX3_isOfKind wsX3_isOfKind) := goodIn_app (goodIn_of _ (by decide +kernel)) ggX5_as_X3_isOfKind
theorem dX5_as_0 : decode cX5_as 0 = .ok (.aload_n 0, 1) := by decide +kernel
theorem dX5_as_1 : decode cX5_as 1 = .ok (.getfield 26, 3) := by decide +kernel
theorem dX5_as_4 : decode cX5_as 4 = .ok (.iload_n 1, 1) := by decide +kernel
theorem dX5_as_5 : decode cX5_as 5 = .ok (.invokevirtual 102, 3) := by decide +kernel
theorem dX5_as_8 : decode cX5_as 8 = .ok (.ifCond .ne 6, 3) := by decide +kernel
theorem dX5_as_11 : decode cX5_as 11 = .ok (.bipush (-101), 2) := by decide +kernel
theorem dX5_as_13 : decode cX5_as 13 = .ok (.ireturn, 1) := by decide +kernel
theorem dX5_as_14 : decode cX5_as 14 = .ok (.iload_n 2, 1) := by decide +kernel
theorem dX5_as_15 : decode cX5_as 15 = .ok (.ifCond .lt 8, 3) := by decide +kernel
theorem dX5_as_18 : decode cX5_as 18 = .ok (.iload_n 2, 1) := by decide +kernel
theorem dX5_as_19 : decode cX5_as 19 = .ok (.iconst 4, 1) := by decide +kernel
theorem dX5_as_20 : decode cX5_as 20 = .ok (.if_icmp .le 6, 3) := by decide +kernel
theorem dX5_as_23 : decode cX5_as 23 = .ok (.bipush (-102), 2) := by decide +kernel
theorem dX5_as_25 : decode cX5_as 25 = .ok (.ireturn, 1) := by decide +kernel
theorem dX5_as_26 : decode cX5_as 26 = .ok (.aload_n 0, 1) := by decide +kernel
theorem dX5_as_27 : decode cX5_as 27 = .ok (.getfield 26, 3) := by decide +kernel
theorem dX5_as_30 : decode cX5_as 30 = .ok (.iload_n 1, 1) := by decide +kernel
theorem dX5_as_31 : decode cX5_as 31 = .ok (.iload_n 2, 1) := by decide +kernel
theorem dX5_as_32 : decode cX5_as 32 = .ok (.invokevirtual 133, 3) := by decide +kernel
theorem dX5_as_35 : decode cX5_as 35 = .ok (.ifCond .eq 7, 3) := by decide +kernel
theorem dX5_as_38 : decode cX5_as 38 = .ok (.iload_n 1, 1) := by decide +kernel
theorem dX5_as_39 : decode cX5_as 39 = .ok (.goto 4, 3) := by decide +kernel
theorem dX5_as_42 : decode cX5_as 42 = .ok (.iconst (-1), 1) := by decide +kernel
theorem dX5_as_43 : decode cX5_as 43 = .ok (.ireturn, 1) := by decide +kernel
set_option maxRecDepth 20000 in
theorem ggX5_pour_X3_has : GoodIn wsX5_pour wsX3_has := goodIn_r _ [8, 9, 63, 64, 65, 66, 67, 68] (by decide +kernel) (by decide +kernel)
set_option maxRecDepth 20000 in
theorem gX5_pour_X3_has : GoodIn wsX5_pour (wsV RX5 102 RX3 yX3_has wsX3_has) := goodIn_app (goodIn_of _ (by decide +kernel)) ggX5_pour_X3_has
set_option maxRecDepth 20000 in
theorem ggX5_pour_X5_isFromOneTo : GoodIn wsX5_pour wsX5_isFromOneTo := goodIn_r _ [13] (by decide +kernel) (by decide +kernel)
set_option maxRecDepth 20000 in
theorem gX5_pour_X5_isFromOneTo : GoodIn wsX5_pour (va_wsS RX5 137 yX5_isFromOneTo wsX5_isFromOneTo) := goodIn_app (goodIn_of _ (by decide +kernel)) ggX5_pour_X5_isFromOneTo
set_option maxRecDepth 20000 in
theorem ggX5_pour_X4_addTo : GoodIn wsX5_pour wsX4_addTo := goodIn_r _ [18, 19, 20, 21, 22, 23, 24, 25, 26, 27, 28, 5, 6, 7, 8, 9, 29, 30, 31, 32, 33, 34, 35, 36, 37, 38, 39, 40, 41, 42, 43, 44, 45, 46, 47, 48, 59, 60, 61, 62, 69, 70, 63, 64, 65, 66, 67, 68] (by decide +kernel) (by decide +kernel)
set_option maxRecDepth 20000 in
theorem gX5_pour_X4_addTo : GoodIn wsX5_pour (wsV RX5 143 RX4 yX4_addTo wsX4_addTo) := goodIn_app (goodIn_of _ (by decide +kernel)) ggX5_pour_X4_addTo
theorem dX5_pour_0 : decode cX5_pour 0 = .ok (.aload_n 0, 1) := by decide +kernel
theorem dX5_pour_1 : decode cX5_pour 1 = .ok (.getfield 26, 3) := by decide +kernel
theorem dX5_pour_4 : decode cX5_pour 4 = .ok (.iload_n 1, 1) := by decide +kernel
theorem dX5_pour_5 : decode cX5_pour 5 = .ok (.invokevirtual 102, 3) := by decide +kernel
theorem dX5_pour_8 : decode cX5_pour 8 = .ok (.ifCond .ne 6, 3) := by decide +kernel
theorem dX5_pour_11 : decode cX5_pour 11 = .ok (.bipush (-101), 2) := by decide +kernel
theorem dX5_pour_13 : decode cX5_pour 13 = .ok (.ireturn, 1) := by decide +kernel
theorem dX5_pour_14 : decode cX5_pour 14 = .ok (.bipush 99, 2) := by decide +kernel
theorem dX5_pour_16 : decode cX5_pour 16 = .ok (.iload_n 2, 1) := by decide +kernel
theorem dX5_pour_17 : decode cX5_pour 17 = .ok (.invokestatic 137, 3) := by decide +kernel
theorem dX5_pour_20 : decode cX5_pour 20 = .ok (.ifCond .ne 6, 3) := by decide +kernel
theorem dX5_pour_23 : decode cX5_pour 23 = .ok (.bipush (-102), 2) := by decide +kernel
theorem dX5_pour_25 : decode cX5_pour 25 = .ok (.ireturn, 1) := by decide +kernel
theorem dX5_pour_26 : decode cX5_pour 26 = .ok (.aload_n 0, 1) := by decide +kernel
theorem dX5_pour_27 : decode cX5_pour 27 = .ok (.getfield 36, 3) := by decide +kernel
theorem dX5_pour_30 : decode cX5_pour 30 = .ok (.getfield 140, 3) := by decide +kernel
theorem dX5_pour_33 : decode cX5_pour 33 = .ok (.iload_n 2, 1) := by decide +kernel
theorem dX5_pour_34 : decode cX5_pour 34 = .ok (.iadd, 1) := by decide +kernel
theorem dX5_pour_35 : decode cX5_pour 35 = .ok (.sipush 9999, 3) := by decide +kernel
theorem dX5_pour_38 : decode cX5_pour 38 = .ok (.if_icmp .le 6, 3) := by decide +kernel
theorem dX5_pour_41 : decode cX5_pour 41 = .ok (.bipush (-103), 2) := by decide +kernel
theorem dX5_pour_43 : decode cX5_pour 43 = .ok (.ireturn, 1) := by decide +kernel
theorem dX5_pour_44 : decode cX5_pour 44 = .ok (.aload_n 0, 1) := by decide +kernel
theorem dX5_pour_45 : decode cX5_pour 45 = .ok (.getfield 36, 3) := by decide +kernel
theorem dX5_pour_48 : decode cX5_pour 48 = .ok (.aload_n 0, 1) := by decide +kernel
theorem dX5_pour_49 : decode cX5_pour 49 = .ok (.getfield 26, 3) := by decide +kernel
theorem dX5_pour_52 : decode cX5_pour 52 = .ok (.iload_n 1, 1) := by decide +kernel
theorem dX5_pour_53 : decode cX5_pour 53 = .ok (.iload_n 2, 1) := by decide +kernel
theorem dX5_pour_54 : decode cX5_pour 54 = .ok (.invokevirtual 143, 3) := by decide +kernel
theorem dX5_pour_57 : decode cX5_pour 57 = .ok (.aload_n 0, 1) := by decide +kernel
theorem dX5_pour_58 : decode cX5_pour 58 = .ok (.getfield 36, 3) := by decide +kernel
theorem dX5_pour_61 : decode cX5_pour 61 = .ok (.getfield 140, 3) := by decide +kernel
theorem dX5_pour_64 : decode cX5_pour 64 = .ok (.ireturn, 1) := by decide +kernel
set_option maxRecDepth 20000 in
theorem ggX5_in_X3_has : GoodIn wsX5_in wsX3_has := goodIn_r _ [11, 12, 44, 45, 46, 47, 48, 49] (by decide +kernel) (by decide +kernel)
set_option maxRecDepth 20000 in
theorem gX5_in_X3_has : GoodIn wsX5_in (wsV RX5 102 RX3 yX3_has wsX3_has) := goodIn_app (goodIn_of _ (by decide +kernel)) ggX5_in_X3_has
set_option maxRecDepth 20000 in
theorem ggX5_in_X5_isPart : GoodIn wsX5_in wsX5_isPart := goodIn_r _ [16] (by decide +kernel) (by decide +kernel)
set_option maxRecDepth 20000 in
theorem gX5_in_X5_isPart : GoodIn wsX5_in (va_wsS RX5 149 yX5_isPart wsX5_isPart) := goodIn_app (goodIn_of _ (by decide +kernel)) ggX5_in_X5_isPart
set_option maxRecDepth 20000 in
theorem ggX5_in_X5_partOf : GoodIn wsX5_in wsX5_partOf := goodIn_r _ [19, 20, 21, 22, 23, 24, 25, 26, 15, 27] (by decide +kernel) (by decide +kernel)
set_option maxRecDepth 20000 in
theorem gX5_in_X5_partOf : GoodIn wsX5_in (va_wsS RX5 158 yX5_partOf wsX5_partOf) := goodIn_app (goodIn_of _ (by decide +kernel)) ggX5_in_X5_partOf
theorem dX5_in_0 : decode cX5_in 0 = .ok (.aload_n 0, 1) := by decide +kernel
theorem dX5_in_1 : decode cX5_in 1 = .ok (.getfield 26, 3) := by decide +kernel
theorem dX5_in_4 : decode cX5_in 4 = .ok (.iload_n 1, 1) := by decide +kernel
theorem dX5_in_5 : decode cX5_in 5 = .ok (.invokevirtual 102, 3) := by decide +kernel
theorem dX5_in_8 : decode cX5_in 8 = .ok (.ifCond .ne 7, 3) := by decide +kernel
theorem dX5_in_11 : decode cX5_in 11 = .ok (.ldc2_w 147, 3) := by decide +kernel
theorem dX5_in_14 : decode cX5_in 14 = .ok (.lreturn, 1) := by decide +kernel
theorem dX5_in_15 : decode cX5_in 15 = .ok (.iload_n 2, 1) := by decide +kernel
theorem dX5_in_16 : decode cX5_in 16 = .ok (.invokestatic 149, 3) := by decide +kernel
theorem dX5_in_19 : decode cX5_in 19 = .ok (.ifCond .ne 7, 3) := by decide +kernel
theorem dX5_in_22 : decode cX5_in 22 = .ok (.ldc2_w 152, 3) := by decide +kernel
theorem dX5_in_25 : decode cX5_in 25 = .ok (.lreturn, 1) := by decide +kernel
theorem dX5_in_26 : decode cX5_in 26 = .ok (.aload_n 0, 1) := by decide +kernel
theorem dX5_in_27 : decode cX5_in 27 = .ok (.getfield 36, 3) := by decide +kernel
theorem dX5_in_30 : decode cX5_in 30 = .ok (.getfield 126, 3) := by decide +kernel
theorem dX5_in_33 : decode cX5_in 33 = .ok (.getfield 154, 3) := by decide +kernel
theorem dX5_in_36 : decode cX5_in 36 = .ok (.iload_n 1, 1) := by decide +kernel
theorem dX5_in_37 : decode cX5_in 37 = .ok (.laload, 1) := by decide +kernel
theorem dX5_in_38 : decode cX5_in 38 = .ok (.iload_n 2, 1) := by decide +kernel
theorem dX5_in_39 : decode cX5_in 39 = .ok (.invokestatic 158, 3) := by decide +kernel
theorem dX5_in_42 : decode cX5_in 42 = .ok (.lreturn, 1) := by decide +kernel
set_option maxRecDepth 20000 in
theorem ggX5_all_X5_isPart : GoodIn wsX5_all wsX5_isPart := goodIn_r _ [8] (by decide +kernel) (by decide +kernel)
set_option maxRecDepth 20000 in
theorem gX5_all_X5_isPart : GoodIn wsX5_all (va_wsS RX5 149 yX5_isPart wsX5_isPart) := goodIn_app (goodIn_of _ (by decide +kernel)) ggX5_all_X5_isPart
set_option maxRecDepth 20000 in
theorem ggX5_all_X0_together : GoodIn wsX5_all wsX0_together := goodIn_r _ [13, 14, 40, 41] (by decide +kernel) (by decide +kernel)
set_option maxRecDepth 20000 in
theorem gX5_all_X0_together : GoodIn wsX5_all (wsV RX5 166 RX0 yX0_together wsX0_together) := goodIn_app (goodIn_of _ (by decide +kernel)) ggX5_all_X0_together
set_option maxRecDepth 20000 in
theorem ggX5_all_X5_partOf : GoodIn wsX5_all wsX5_partOf := goodIn_r _ [17, 18, 19, 20, 21, 22, 23, 24, 7, 25] (by decide +kernel) (by decide +kernel)
set_option maxRecDepth 20000 in
theorem gX5_all_X5_partOf : GoodIn wsX5_all (va_wsS RX5 158 yX5_partOf wsX5_partOf) := goodIn_app (goodIn_of _ (by decide +kernel)) ggX5_all_X5_partOf
theorem dX5_all_0 : decode cX5_all 0 = .ok (.iload_n 1, 1) := by decide +kernel
theorem dX5_all_1 : decode cX5_all 1 = .ok (.ifCond .lt 15, 3) := by decide +kernel
theorem dX5_all_4 : decode cX5_all 4 = .ok (.iload_n 1, 1) := by decide +kernel
theorem dX5_all_5 : decode cX5_all 5 = .ok (.iconst 1, 1) := by decide +kernel
theorem dX5_all_6 : decode cX5_all 6 = .ok (.if_icmp .gt 10, 3) := by decide +kernel
theorem dX5_all_9 : decode cX5_all 9 = .ok (.iload_n 2, 1) := by decide +kernel
theorem dX5_all_10 : decode cX5_all 10 = .ok (.invokestatic 149, 3) := by decide +kernel
theorem dX5_all_13 : decode cX5_all 13 = .ok (.ifCond .ne 7, 3) := by decide +kernel
theorem dX5_all_16 : decode cX5_all 16 = .ok (.ldc2_w 152, 3) := by decide +kernel
theorem dX5_all_19 : decode cX5_all 19 = .ok (.lreturn, 1) := by decide +kernel
theorem dX5_all_20 : decode cX5_all 20 = .ok (.iload_n 1, 1) := by decide +kernel
theorem dX5_all_21 : decode cX5_all 21 = .ok (.ifCond .ne 16, 3) := by decide +kernel
theorem dX5_all_24 : decode cX5_all 24 = .ok (.aload_n 0, 1) := by decide +kernel
theorem dX5_all_25 : decode cX5_all 25 = .ok (.getfield 36, 3) := by decide +kernel
theorem dX5_all_28 : decode cX5_all 28 = .ok (.getfield 126, 3) := by decide +kernel
theorem dX5_all_31 : decode cX5_all 31 = .ok (.getfield 162, 3) := by decide +kernel
theorem dX5_all_34 : decode cX5_all 34 = .ok (.goto 13, 3) := by decide +kernel
theorem dX5_all_37 : decode cX5_all 37 = .ok (.aload_n 0, 1) := by decide +kernel
theorem dX5_all_38 : decode cX5_all 38 = .ok (.getfield 36, 3) := by decide +kernel
theorem dX5_all_41 : decode cX5_all 41 = .ok (.getfield 126, 3) := by decide +kernel
theorem dX5_all_44 : decode cX5_all 44 = .ok (.invokevirtual 166, 3) := by decide +kernel
theorem dX5_all_47 : decode cX5_all 47 = .ok (.iload_n 2, 1) := by decide +kernel
theorem dX5_all_48 : decode cX5_all 48 = .ok (.invokestatic 158, 3) := by decide +kernel
theorem dX5_all_51 : decode cX5_all 51 = .ok (.lreturn, 1) := by decide +kernel
set_option maxRecDepth 20000 in
theorem ggX5_drink_X3_has : GoodIn wsX5_drink wsX3_has := goodIn_r _ [8, 9, 33, 34, 35, 36, 37, 38] (by decide +kernel) (by decide +kernel)
set_option maxRecDepth 20000 in
theorem gX5_drink_X3_has : GoodIn wsX5_drink (wsV RX5 102 RX3 yX3_has wsX3_has) := goodIn_app (goodIn_of _ (by decide +kernel)) ggX5_drink_X3_has
set_option maxRecDepth 20000 in
theorem ggX5_drink_X4_drinkFrom : GoodIn wsX5_drink wsX4_drinkFrom := goodIn_r _ [14, 15, 16, 17, 18, 19, 20, 21, 22, 39, 40, 41, 42, 43, 44] (by decide +kernel) (by decide +kernel)
set_option maxRecDepth 20000 in
theorem gX5_drink_X4_drinkFrom : GoodIn wsX5_drink (wsV RX5 170 RX4 yX4_drinkFrom wsX4_drinkFrom) := goodIn_app (goodIn_of _ (by decide +kernel)) ggX5_drink_X4_drinkFrom
theorem dX5_drink_0 : decode cX5_drink 0 = .ok (.aload_n 0, 1) := by decide +kernel
theorem dX5_drink_1 : decode cX5_drink 1 = .ok (.getfield 26, 3) := by decide +kernel
theorem dX5_drink_4 : decode cX5_drink 4 = .ok (.iload_n 1, 1) := by decide +kernel
theorem dX5_drink_5 : decode cX5_drink 5 = .ok (.invokevirtual 102, 3) := by decide +kernel
theorem dX5_drink_8 : decode cX5_drink 8 = .ok (.ifCond .ne 6, 3) := by decide +kernel
theorem dX5_drink_11 : decode cX5_drink 11 = .ok (.bipush (-101), 2) := by decide +kernel
theorem dX5_drink_13 : decode cX5_drink 13 = .ok (.ireturn, 1) := by decide +kernel
theorem dX5_drink_14 : decode cX5_drink 14 = .ok (.aload_n 0, 1) := by decide +kernel
theorem dX5_drink_15 : decode cX5_drink 15 = .ok (.getfield 26, 3) := by decide +kernel
theorem dX5_drink_18 : decode cX5_drink 18 = .ok (.getfield 106, 3) := by decide +kernel
theorem dX5_drink_21 : decode cX5_drink 21 = .ok (.iload_n 1, 1) := by decide +kernel
theorem dX5_drink_22 : decode cX5_drink 22 = .ok (.iaload, 1) := by decide +kernel
theorem dX5_drink_23 : decode cX5_drink 23 = .ok (.iconst 4, 1) := by decide +kernel
theorem dX5_drink_24 : decode cX5_drink 24 = .ok (.if_icmp .ne 6, 3) := by decide +kernel
theorem dX5_drink_27 : decode cX5_drink 27 = .ok (.bipush (-103), 2) := by decide +kernel
theorem dX5_drink_29 : decode cX5_drink 29 = .ok (.ireturn, 1) := by decide +kernel
theorem dX5_drink_30 : decode cX5_drink 30 = .ok (.aload_n 0, 1) := by decide +kernel
theorem dX5_drink_31 : decode cX5_drink 31 = .ok (.getfield 36, 3) := by decide +kernel
theorem dX5_drink_34 : decode cX5_drink 34 = .ok (.iload_n 1, 1) := by decide +kernel
theorem dX5_drink_35 : decode cX5_drink 35 = .ok (.invokevirtual 170, 3) := by decide +kernel
theorem dX5_drink_38 : decode cX5_drink 38 = .ok (.lconst 0, 1) := by decide +kernel
theorem dX5_drink_39 : decode cX5_drink 39 = .ok (.lcmp, 1) := by decide +kernel
theorem dX5_drink_40 : decode cX5_drink 40 = .ok (.ifCond .le 7, 3) := by decide +kernel
theorem dX5_drink_43 : decode cX5_drink 43 = .ok (.iconst 1, 1) := by decide +kernel
theorem dX5_drink_44 : decode cX5_drink 44 = .ok (.goto 4, 3) := by decide +kernel
theorem dX5_drink_47 : decode cX5_drink 47 = .ok (.iconst 0, 1) := by decide +kernel
theorem dX5_drink_48 : decode cX5_drink 48 = .ok (.ireturn, 1) := by decide +kernel
set_option maxRecDepth 20000 in
theorem ggX5_drunk_X3_has : GoodIn wsX5_drunk wsX3_has := goodIn_r _ [10, 11, 41, 42, 43, 44, 45, 46] (by decide +kernel) (by decide +kernel)
set_option maxRecDepth 20000 in
theorem gX5_drunk_X3_has : GoodIn wsX5_drunk (wsV RX5 102 RX3 yX3_has wsX3_has) := goodIn_app (goodIn_of _ (by decide +kernel)) ggX5_drunk_X3_has
set_option maxRecDepth 20000 in
theorem ggX5_drunk_X5_isPart : GoodIn wsX5_drunk wsX5_isPart := goodIn_r _ [15] (by decide +kernel) (by decide +kernel)
set_option maxRecDepth 20000 in
theorem gX5_drunk_X5_isPart : GoodIn wsX5_drunk (va_wsS RX5 149 yX5_isPart wsX5_isPart) := goodIn_app (goodIn_of _ (by decide +kernel)) ggX5_drunk_X5_isPart
set_option maxRecDepth 20000 in
theorem ggX5_drunk_X5_partOf : GoodIn wsX5_drunk wsX5_partOf := goodIn_r _ [18, 19, 20, 21, 22, 23, 24, 25, 14, 26] (by decide +kernel) (by decide +kernel)
set_option maxRecDepth 20000 in
theorem gX5_drunk_X5_partOf : GoodIn wsX5_drunk (va_wsS RX5 158 yX5_partOf wsX5_partOf) := goodIn_app (goodIn_of _ (by decide +kernel)) ggX5_drunk_X5_partOf
theorem dX5_drunk_0 : decode cX5_drunk 0 = .ok (.aload_n 0, 1) := by decide +kernel
theorem dX5_drunk_1 : decode cX5_drunk 1 = .ok (.getfield 26, 3) := by decide +kernel
theorem dX5_drunk_4 : decode cX5_drunk 4 = .ok (.iload_n 1, 1) := by decide +kernel
theorem dX5_drunk_5 : decode cX5_drunk 5 = .ok (.invokevirtual 102, 3) := by decide +kernel
theorem dX5_drunk_8 : decode cX5_drunk 8 = .ok (.ifCond .ne 7, 3) := by decide +kernel
theorem dX5_drunk_11 : decode cX5_drunk 11 = .ok (.ldc2_w 147, 3) := by decide +kernel
theorem dX5_drunk_14 : decode cX5_drunk 14 = .ok (.lreturn, 1) := by decide +kernel
theorem dX5_drunk_15 : decode cX5_drunk 15 = .ok (.iload_n 2, 1) := by decide +kernel
theorem dX5_drunk_16 : decode cX5_drunk 16 = .ok (.invokestatic 149, 3) := by decide +kernel
theorem dX5_drunk_19 : decode cX5_drunk 19 = .ok (.ifCond .ne 7, 3) := by decide +kernel
theorem dX5_drunk_22 : decode cX5_drunk 22 = .ok (.ldc2_w 152, 3) := by decide +kernel
theorem dX5_drunk_25 : decode cX5_drunk 25 = .ok (.lreturn, 1) := by decide +kernel
theorem dX5_drunk_26 : decode cX5_drunk 26 = .ok (.aload_n 0, 1) := by decide +kernel
theorem dX5_drunk_27 : decode cX5_drunk 27 = .ok (.getfield 36, 3) := by decide +kernel
theorem dX5_drunk_30 : decode cX5_drunk 30 = .ok (.getfield 174, 3) := by decide +kernel
theorem dX5_drunk_33 : decode cX5_drunk 33 = .ok (.iload_n 1, 1) := by decide +kernel
theorem dX5_drunk_34 : decode cX5_drunk 34 = .ok (.laload, 1) := by decide +kernel
theorem dX5_drunk_35 : decode cX5_drunk 35 = .ok (.iload_n 2, 1) := by decide +kernel
theorem dX5_drunk_36 : decode cX5_drunk 36 = .ok (.invokestatic 158, 3) := by decide +kernel
theorem dX5_drunk_39 : decode cX5_drunk 39 = .ok (.lreturn, 1) := by decide +kernel
set_option maxRecDepth 20000 in
theorem ggX5_clear_X4_makeEmpty : GoodIn wsX5_clear wsX4_makeEmpty := goodIn_r _ [7, 8, 9, 10, 11, 12, 13, 14, 15, 16, 17, 18, 19, 20, 21, 22, 33, 34, 35, 36, 37, 38] (by decide +kernel) (by decide +kernel)
set_option maxRecDepth 20000 in
theorem gX5_clear_X4_makeEmpty : GoodIn wsX5_clear (wsV RX5 177 RX4 yX4_makeEmpty wsX4_makeEmpty) := goodIn_app (goodIn_of _ (by decide +kernel)) ggX5_clear_X4_makeEmpty
theorem dX5_clear_0 : decode cX5_clear 0 = .ok (.aload_n 0, 1) := by decide +kernel
theorem dX5_clear_1 : decode cX5_clear 1 = .ok (.getfield 36, 3) := by decide +kernel
theorem dX5_clear_4 : decode cX5_clear 4 = .ok (.getfield 140, 3) := by decide +kernel
theorem dX5_clear_7 : decode cX5_clear 7 = .ok (.istore_n 1, 1) := by decide +kernel
theorem dX5_clear_8 : decode cX5_clear 8 = .ok (.aload_n 0, 1) := by decide +kernel
theorem dX5_clear_9 : decode cX5_clear 9 = .ok (.getfield 36, 3) := by decide +kernel
theorem dX5_clear_12 : decode cX5_clear 12 = .ok (.invokevirtual 177, 3) := by decide +kernel
theorem dX5_clear_15 : decode cX5_clear 15 = .ok (.iload_n 1, 1) := by decide +kernel
theorem dX5_clear_16 : decode cX5_clear 16 = .ok (.ireturn, 1) := by decide +kernel
set_option maxRecDepth 20000 in
theorem ggX5_need_X3_has : GoodIn wsX5_need wsX3_has := goodIn_r _ [6, 7, 74, 75, 76, 77, 78, 79] (by decide +kernel) (by decide +kernel)
set_option maxRecDepth 20000 in
theorem gX5_need_X3_has : GoodIn wsX5_need (wsV RX5 102 RX3 yX3_has wsX3_has) := goodIn_app (goodIn_of _ (by decide +kernel)) ggX5_need_X3_has
set_option maxRecDepth 20000 in
theorem ggX5_need_X5_leastToFill : GoodIn wsX5_need wsX5_leastToFill := goodIn_r _ [12, 13, 14, 15, 11, 16, 17, 18, 19, 1, 20, 21, 22, 23, 24, 25, 26, 27, 28, 29, 30, 31, 32, 33, 34, 35, 36, 3, 4, 5, 6, 7, 37, 38, 39, 40, 41, 42, 43, 44, 45, 46, 47, 48, 49, 50, 51, 52, 53, 54, 55, 56, 57, 58, 59, 60, 61, 62, 63, 64, 65, 66, 67, 68, 69, 70, 71, 72, 73, 80, 81, 82, 83, 84, 85, 74, 75, 76, 77, 78, 79] (by decide +kernel) (by decide +kernel)
set_option maxRecDepth 20000 in
theorem gX5_need_X5_leastToFill : GoodIn wsX5_need (wsV RX5 180 RX5 yX5_leastToFill wsX5_leastToFill) := goodIn_app (goodIn_of _ (by decide +kernel)) ggX5_need_X5_leastToFill
theorem dX5_need_0 : decode cX5_need 0 = .ok (.aload_n 0, 1) := by decide +kernel
theorem dX5_need_1 : decode cX5_need 1 = .ok (.getfield 26, 3) := by decide +kernel
theorem dX5_need_4 : decode cX5_need 4 = .ok (.iload_n 1, 1) := by decide +kernel
theorem dX5_need_5 : decode cX5_need 5 = .ok (.invokevirtual 102, 3) := by decide +kernel
theorem dX5_need_8 : decode cX5_need 8 = .ok (.ifCond .eq 14, 3) := by decide +kernel
theorem dX5_need_11 : decode cX5_need 11 = .ok (.aload_n 0, 1) := by decide +kernel
theorem dX5_need_12 : decode cX5_need 12 = .ok (.getfield 26, 3) := by decide +kernel
theorem dX5_need_15 : decode cX5_need 15 = .ok (.iload_n 2, 1) := by decide +kernel
theorem dX5_need_16 : decode cX5_need 16 = .ok (.invokevirtual 102, 3) := by decide +kernel
theorem dX5_need_19 : decode cX5_need 19 = .ok (.ifCond .ne 6, 3) := by decide +kernel
theorem dX5_need_22 : decode cX5_need 22 = .ok (.bipush (-101), 2) := by decide +kernel
theorem dX5_need_24 : decode cX5_need 24 = .ok (.ireturn, 1) := by decide +kernel
theorem dX5_need_25 : decode cX5_need 25 = .ok (.aload_n 0, 1) := by decide +kernel
theorem dX5_need_26 : decode cX5_need 26 = .ok (.iconst 1, 1) := by decide +kernel
theorem dX5_need_27 : decode cX5_need 27 = .ok (.iload_n 1, 1) := by decide +kernel
theorem dX5_need_28 : decode cX5_need 28 = .ok (.ishl, 1) := by decide +kernel
theorem dX5_need_29 : decode cX5_need 29 = .ok (.iload_n 2, 1) := by decide +kernel
theorem dX5_need_30 : decode cX5_need 30 = .ok (.invokevirtual 180, 3) := by decide +kernel
theorem dX5_need_33 : decode cX5_need 33 = .ok (.ireturn, 1) := by decide +kernel
set_option maxRecDepth 20000 in
theorem ggX5_needAll_X3_isSet : GoodIn wsX5_needAll wsX3_isSet := goodIn_r _ [7, 8, 78, 79, 80, 81, 82, 83] (by decide +kernel) (by decide +kernel)
set_option maxRecDepth 20000 in
theorem gX5_needAll_X3_isSet : GoodIn wsX5_needAll (wsV RX5 183 RX3 yX3_isSet wsX3_isSet) := goodIn_app (goodIn_of _ (by decide +kernel)) ggX5_needAll_X3_isSet
set_option maxRecDepth 20000 in
theorem ggX5_needAll_X5_leastToFill : GoodIn wsX5_needAll wsX5_leastToFill := goodIn_r _ [13, 14, 15, 16, 12, 17, 18, 19, 20, 1, 21, 22, 23, 24, 25, 26, 27, 28, 29, 30, 31, 32, 33, 34, 35, 36, 37, 38, 39, 6, 40, 8, 41, 42, 43, 44, 45, 46, 47, 48, 49, 50, 51, 52, 53, 54, 55, 56, 57, 58, 59, 60, 61, 62, 63, 64, 65, 66, 67, 68, 69, 70, 71, 72, 73, 74, 75, 76, 77, 84, 85, 86, 87, 88, 89, 78, 79, 80, 81, 82, 83] (by decide +kernel) (by decide +kernel)
set_option maxRecDepth 20000 in
theorem gX5_needAll_X5_leastToFill : GoodIn wsX5_needAll (wsV RX5 180 RX5 yX5_leastToFill wsX5_leastToFill) := goodIn_app (goodIn_of _ (by decide +kernel)) ggX5_needAll_X5_leastToFill
theorem dX5_needAll_0 : decode cX5_needAll 0 = .ok (.aload_n 0, 1) := by decide +kernel
theorem dX5_needAll_1 : decode cX5_needAll 1 = .ok (.getfield 26, 3) := by decide +kernel
theorem dX5_needAll_4 : decode cX5_needAll 4 = .ok (.getfield 101, 3) := by decide +kernel
theorem dX5_needAll_7 : decode cX5_needAll 7 = .ok (.ifCond .ne 6, 3) := by decide +kernel
theorem dX5_needAll_10 : decode cX5_needAll 10 = .ok (.bipush (-103), 2) := by decide +kernel
theorem dX5_needAll_12 : decode cX5_needAll 12 = .ok (.ireturn, 1) := by decide +kernel
theorem dX5_needAll_13 : decode cX5_needAll 13 = .ok (.aload_n 0, 1) := by decide +kernel
theorem dX5_needAll_14 : decode cX5_needAll 14 = .ok (.getfield 26, 3) := by decide +kernel
theorem dX5_needAll_17 : decode cX5_needAll 17 = .ok (.iload_n 1, 1) := by decide +kernel
theorem dX5_needAll_18 : decode cX5_needAll 18 = .ok (.invokevirtual 183, 3) := by decide +kernel
theorem dX5_needAll_21 : decode cX5_needAll 21 = .ok (.ifCond .ne 6, 3) := by decide +kernel
theorem dX5_needAll_24 : decode cX5_needAll 24 = .ok (.bipush (-102), 2) := by decide +kernel
theorem dX5_needAll_26 : decode cX5_needAll 26 = .ok (.ireturn, 1) := by decide +kernel
theorem dX5_needAll_27 : decode cX5_needAll 27 = .ok (.aload_n 0, 1) := by decide +kernel
theorem dX5_needAll_28 : decode cX5_needAll 28 = .ok (.iload_n 1, 1) := by decide +kernel
theorem dX5_needAll_29 : decode cX5_needAll 29 = .ok (.iconst 0, 1) := by decide +kernel
theorem dX5_needAll_30 : decode cX5_needAll 30 = .ok (.invokevirtual 180, 3) := by decide +kernel
theorem dX5_needAll_33 : decode cX5_needAll 33 = .ok (.ireturn, 1) := by decide +kernel
set_option maxRecDepth 20000 in
theorem ggX5_change_X5_isFromOneTo : GoodIn wsX5_change wsX5_isFromOneTo := goodIn_r _ [7] (by decide +kernel) (by decide +kernel)
set_option maxRecDepth 20000 in
theorem gX5_change_X5_isFromOneTo : GoodIn wsX5_change (va_wsS RX5 137 yX5_isFromOneTo wsX5_isFromOneTo) := goodIn_app (goodIn_of _ (by decide +kernel)) ggX5_change_X5_isFromOneTo
set_option maxRecDepth 20000 in
theorem ggX5_change_X5_bestOfPair : GoodIn wsX5_change wsX5_bestOfPair := goodIn_r _ [11, 12, 1, 2, 13, 14, 15, 16, 17, 18, 19, 20, 21, 22, 23, 24, 25, 26, 27, 28, 29, 30, 6, 31, 32, 33, 34, 35, 36, 37, 38, 39, 40, 41, 42, 43, 44, 45, 46, 47, 48, 49, 50, 51, 52, 53, 54, 55, 56, 57, 58, 59, 60, 61, 62, 63, 64, 65, 66, 67, 68, 69, 70, 71, 72, 73, 74, 75, 76, 77, 78, 79, 80, 81, 82, 83, 84, 85, 86, 87, 88, 89, 90, 91, 92, 93, 94, 95, 96, 97, 98, 99] (by decide +kernel) (by decide +kernel)
set_option maxRecDepth 20000 in
theorem gX5_change_X5_bestOfPair : GoodIn wsX5_change (wsV RX5 189 RX5 yX5_bestOfPair wsX5_bestOfPair) := goodIn_app (goodIn_of _ (by decide +kernel)) ggX5_change_X5_bestOfPair
theorem dX5_change_0 : decode cX5_change 0 = .ok (.aload_n 0, 1) := by decide +kernel
theorem dX5_change_1 : decode cX5_change 1 = .ok (.getfield 26, 3) := by decide +kernel
theorem dX5_change_4 : decode cX5_change 4 = .ok (.getfield 101, 3) := by decide +kernel
theorem dX5_change_7 : decode cX5_change 7 = .ok (.ifCond .ne 6, 3) := by decide +kernel
theorem dX5_change_10 : decode cX5_change 10 = .ok (.bipush (-103), 2) := by decide +kernel
theorem dX5_change_12 : decode cX5_change 12 = .ok (.ireturn, 1) := by decide +kernel
theorem dX5_change_13 : decode cX5_change 13 = .ok (.bipush 99, 2) := by decide +kernel
theorem dX5_change_15 : decode cX5_change 15 = .ok (.iload_n 1, 1) := by decide +kernel
theorem dX5_change_16 : decode cX5_change 16 = .ok (.invokestatic 137, 3) := by decide +kernel
theorem dX5_change_19 : decode cX5_change 19 = .ok (.ifCond .eq 12, 3) := by decide +kernel
theorem dX5_change_22 : decode cX5_change 22 = .ok (.iload_n 2, 1) := by decide +kernel
theorem dX5_change_23 : decode cX5_change 23 = .ok (.ifCond .lt 8, 3) := by decide +kernel
theorem dX5_change_26 : decode cX5_change 26 = .ok (.iload_n 2, 1) := by decide +kernel
theorem dX5_change_27 : decode cX5_change 27 = .ok (.iconst 1, 1) := by decide +kernel
theorem dX5_change_28 : decode cX5_change 28 = .ok (.if_icmp .le 6, 3) := by decide +kernel
theorem dX5_change_31 : decode cX5_change 31 = .ok (.bipush (-102), 2) := by decide +kernel
theorem dX5_change_33 : decode cX5_change 33 = .ok (.ireturn, 1) := by decide +kernel
theorem dX5_change_34 : decode cX5_change 34 = .ok (.aload_n 0, 1) := by decide +kernel
theorem dX5_change_35 : decode cX5_change 35 = .ok (.getfield 186, 3) := by decide +kernel
theorem dX5_change_38 : decode cX5_change 38 = .ok (.bipush 30, 2) := by decide +kernel
theorem dX5_change_40 : decode cX5_change 40 = .ok (.if_icmp .lt 6, 3) := by decide +kernel
theorem dX5_change_43 : decode cX5_change 43 = .ok (.bipush (-103), 2) := by decide +kernel
theorem dX5_change_45 : decode cX5_change 45 = .ok (.ireturn, 1) := by decide +kernel
theorem dX5_change_46 : decode cX5_change 46 = .ok (.aload_n 0, 1) := by decide +kernel
theorem dX5_change_47 : decode cX5_change 47 = .ok (.dup, 1) := by decide +kernel
theorem dX5_change_48 : decode cX5_change 48 = .ok (.getfield 186, 3) := by decide +kernel
theorem dX5_change_51 : decode cX5_change 51 = .ok (.iconst 1, 1) := by decide +kernel
theorem dX5_change_52 : decode cX5_change 52 = .ok (.iadd, 1) := by decide +kernel
theorem dX5_change_53 : decode cX5_change 53 = .ok (.putfield 186, 3) := by decide +kernel
theorem dX5_change_56 : decode cX5_change 56 = .ok (.aload_n 0, 1) := by decide +kernel
theorem dX5_change_57 : decode cX5_change 57 = .ok (.iload_n 1, 1) := by decide +kernel
theorem dX5_change_58 : decode cX5_change 58 = .ok (.iload_n 2, 1) := by decide +kernel
theorem dX5_change_59 : decode cX5_change 59 = .ok (.invokevirtual 189, 3) := by decide +kernel
theorem dX5_change_62 : decode cX5_change 62 = .ok (.ireturn, 1) := by decide +kernel
set_option maxRecDepth 20000 in
theorem ggX5_costs_X3_has : GoodIn wsX5_costs wsX3_has := goodIn_r _ [10, 11, 100, 101, 102, 103, 104, 105] (by decide +kernel) (by decide +kernel)
set_option maxRecDepth 20000 in
theorem gX5_costs_X3_has : GoodIn wsX5_costs (wsV RX5 102 RX3 yX3_has wsX3_has) := goodIn_app (goodIn_of _ (by decide +kernel)) ggX5_costs_X3_has
set_option maxRecDepth 20000 in
theorem ggX5_costs_X5_isFromOneTo : GoodIn wsX5_costs wsX5_isFromOneTo := goodIn_r _ [15] (by decide +kernel) (by decide +kernel)
set_option maxRecDepth 20000 in
theorem gX5_costs_X5_isFromOneTo : GoodIn wsX5_costs (va_wsS RX5 137 yX5_isFromOneTo wsX5_isFromOneTo) := goodIn_app (goodIn_of _ (by decide +kernel)) ggX5_costs_X5_isFromOneTo
set_option maxRecDepth 20000 in
theorem ggX5_costs_X5_isPart : GoodIn wsX5_costs wsX5_isPart := goodIn_r _ [18] (by decide +kernel) (by decide +kernel)
set_option maxRecDepth 20000 in
theorem gX5_costs_X5_isPart : GoodIn wsX5_costs (va_wsS RX5 149 yX5_isPart wsX5_isPart) := goodIn_app (goodIn_of _ (by decide +kernel)) ggX5_costs_X5_isPart
set_option maxRecDepth 20000 in
theorem ggX5_costs_X3_copyFrom : GoodIn wsX5_costs wsX3_copyFrom := goodIn_r _ [22, 23, 24, 25, 26, 27, 28, 29, 30, 31, 11, 100, 101, 102, 103, 104, 105] (by decide +kernel) (by decide +kernel)
set_option maxRecDepth 20000 in
theorem gX5_costs_X3_copyFrom : GoodIn wsX5_costs (wsV RX5 87 RX3 yX3_copyFrom wsX3_copyFrom) := goodIn_app (goodIn_of _ (by decide +kernel)) ggX5_costs_X3_copyFrom
set_option maxRecDepth 20000 in
theorem ggX5_costs_X5_inOthers : GoodIn wsX5_costs wsX5_inOthers := goodIn_r _ [35, 36, 4, 37, 38, 39, 40, 41, 42, 43, 44, 45, 46, 47, 48, 49, 50, 51, 52, 53, 7, 8, 9, 10, 11, 54, 55, 56, 57, 58, 59, 60, 61, 62, 63, 64, 65, 66, 67, 68, 69, 30, 23, 70, 71, 72, 73, 74, 75, 76, 77, 78, 90, 91, 92, 93, 94, 95, 96, 97, 98, 99, 106, 107, 100, 101, 102, 103, 104, 105] (by decide +kernel) (by decide +kernel)
set_option maxRecDepth 20000 in
theorem gX5_costs_X5_inOthers : GoodIn wsX5_costs (wsV RX5 192 RX5 yX5_inOthers wsX5_inOthers) := goodIn_app (goodIn_of _ (by decide +kernel)) ggX5_costs_X5_inOthers
set_option maxRecDepth 20000 in
theorem ggX5_costs_X5_partOf : GoodIn wsX5_costs wsX5_partOf := goodIn_r _ [81, 82, 83, 84, 85, 86, 87, 88, 14, 89] (by decide +kernel) (by decide +kernel)
set_option maxRecDepth 20000 in
theorem gX5_costs_X5_partOf : GoodIn wsX5_costs (va_wsS RX5 158 yX5_partOf wsX5_partOf) := goodIn_app (goodIn_of _ (by decide +kernel)) ggX5_costs_X5_partOf
theorem dX5_costs_0 : decode cX5_costs 0 = .ok (.aload_n 0, 1) := by decide +kernel
theorem dX5_costs_1 : decode cX5_costs 1 = .ok (.getfield 26, 3) := by decide +kernel
theorem dX5_costs_4 : decode cX5_costs 4 = .ok (.iload_n 1, 1) := by decide +kernel
theorem dX5_costs_5 : decode cX5_costs 5 = .ok (.invokevirtual 102, 3) := by decide +kernel
theorem dX5_costs_8 : decode cX5_costs 8 = .ok (.ifCond .ne 7, 3) := by decide +kernel
theorem dX5_costs_11 : decode cX5_costs 11 = .ok (.ldc2_w 147, 3) := by decide +kernel
theorem dX5_costs_14 : decode cX5_costs 14 = .ok (.lreturn, 1) := by decide +kernel
theorem dX5_costs_15 : decode cX5_costs 15 = .ok (.bipush 99, 2) := by decide +kernel
theorem dX5_costs_17 : decode cX5_costs 17 = .ok (.iload_n 2, 1) := by decide +kernel
theorem dX5_costs_18 : decode cX5_costs 18 = .ok (.invokestatic 137, 3) := by decide +kernel
theorem dX5_costs_21 : decode cX5_costs 21 = .ok (.ifCond .eq 10, 3) := by decide +kernel
theorem dX5_costs_24 : decode cX5_costs 24 = .ok (.iload_n 3, 1) := by decide +kernel
theorem dX5_costs_25 : decode cX5_costs 25 = .ok (.invokestatic 149, 3) := by decide +kernel
theorem dX5_costs_28 : decode cX5_costs 28 = .ok (.ifCond .ne 7, 3) := by decide +kernel
theorem dX5_costs_31 : decode cX5_costs 31 = .ok (.ldc2_w 152, 3) := by decide +kernel
theorem dX5_costs_34 : decode cX5_costs 34 = .ok (.lreturn, 1) := by decide +kernel
theorem dX5_costs_35 : decode cX5_costs 35 = .ok (.aload_n 0, 1) := by decide +kernel
theorem dX5_costs_36 : decode cX5_costs 36 = .ok (.getfield 30, 3) := by decide +kernel
theorem dX5_costs_39 : decode cX5_costs 39 = .ok (.aload_n 0, 1) := by decide +kernel
theorem dX5_costs_40 : decode cX5_costs 40 = .ok (.getfield 26, 3) := by decide +kernel
theorem dX5_costs_43 : decode cX5_costs 43 = .ok (.invokevirtual 87, 3) := by decide +kernel
theorem dX5_costs_46 : decode cX5_costs 46 = .ok (.aload_n 0, 1) := by decide +kernel
theorem dX5_costs_47 : decode cX5_costs 47 = .ok (.iload_n 1, 1) := by decide +kernel
theorem dX5_costs_48 : decode cX5_costs 48 = .ok (.iload_n 2, 1) := by decide +kernel
theorem dX5_costs_49 : decode cX5_costs 49 = .ok (.invokevirtual 192, 3) := by decide +kernel
theorem dX5_costs_52 : decode cX5_costs 52 = .ok (.lstore 4, 2) := by decide +kernel
theorem dX5_costs_54 : decode cX5_costs 54 = .ok (.aload_n 0, 1) := by decide +kernel
theorem dX5_costs_55 : decode cX5_costs 55 = .ok (.getfield 30, 3) := by decide +kernel
theorem dX5_costs_58 : decode cX5_costs 58 = .ok (.getfield 113, 3) := by decide +kernel
theorem dX5_costs_61 : decode cX5_costs 61 = .ok (.iload_n 1, 1) := by decide +kernel
theorem dX5_costs_62 : decode cX5_costs 62 = .ok (.iconst 0, 1) := by decide +kernel
theorem dX5_costs_63 : decode cX5_costs 63 = .ok (.iastore, 1) := by decide +kernel
theorem dX5_costs_64 : decode cX5_costs 64 = .ok (.aload_n 0, 1) := by decide +kernel
theorem dX5_costs_65 : decode cX5_costs 65 = .ok (.iload_n 1, 1) := by decide +kernel
theorem dX5_costs_66 : decode cX5_costs 66 = .ok (.iload_n 2, 1) := by decide +kernel
theorem dX5_costs_67 : decode cX5_costs 67 = .ok (.invokevirtual 192, 3) := by decide +kernel
theorem dX5_costs_70 : decode cX5_costs 70 = .ok (.lstore 6, 2) := by decide +kernel
theorem dX5_costs_72 : decode cX5_costs 72 = .ok (.lload 6, 2) := by decide +kernel
theorem dX5_costs_74 : decode cX5_costs 74 = .ok (.lload 4, 2) := by decide +kernel
theorem dX5_costs_76 : decode cX5_costs 76 = .ok (.lsub, 1) := by decide +kernel
theorem dX5_costs_77 : decode cX5_costs 77 = .ok (.iload_n 3, 1) := by decide +kernel
theorem dX5_costs_78 : decode cX5_costs 78 = .ok (.invokestatic 158, 3) := by decide +kernel
theorem dX5_costs_81 : decode cX5_costs 81 = .ok (.lreturn, 1) := by decide +kernel
set_option maxRecDepth 20000 in
theorem ggX5_turn_X3_has : GoodIn wsX5_turn wsX3_has := goodIn_r _ [9, 10, 21, 22, 23, 24, 25, 26] (by decide +kernel) (by decide +kernel)
set_option maxRecDepth 20000 in
theorem gX5_turn_X3_has : GoodIn wsX5_turn (wsV RX5 102 RX3 yX3_has wsX3_has) := goodIn_app (goodIn_of _ (by decide +kernel)) ggX5_turn_X3_has
theorem dX5_turn_0 : decode cX5_turn 0 = .ok (.aload_n 0, 1) := by decide +kernel
theorem dX5_turn_1 : decode cX5_turn 1 = .ok (.getfield 26, 3) := by decide +kernel
theorem dX5_turn_4 : decode cX5_turn 4 = .ok (.iload_n 1, 1) := by decide +kernel
theorem dX5_turn_5 : decode cX5_turn 5 = .ok (.invokevirtual 102, 3) := by decide +kernel
theorem dX5_turn_8 : decode cX5_turn 8 = .ok (.ifCond .ne 6, 3) := by decide +kernel
theorem dX5_turn_11 : decode cX5_turn 11 = .ok (.bipush (-101), 2) := by decide +kernel
theorem dX5_turn_13 : decode cX5_turn 13 = .ok (.ireturn, 1) := by decide +kernel
theorem dX5_turn_14 : decode cX5_turn 14 = .ok (.iload_n 2, 1) := by decide +kernel
theorem dX5_turn_15 : decode cX5_turn 15 = .ok (.ifCond .lt 9, 3) := by decide +kernel
theorem dX5_turn_18 : decode cX5_turn 18 = .ok (.iload_n 2, 1) := by decide +kernel
theorem dX5_turn_19 : decode cX5_turn 19 = .ok (.bipush 9, 2) := by decide +kernel
theorem dX5_turn_21 : decode cX5_turn 21 = .ok (.if_icmp .le 6, 3) := by decide +kernel
theorem dX5_turn_24 : decode cX5_turn 24 = .ok (.bipush (-102), 2) := by decide +kernel
theorem dX5_turn_26 : decode cX5_turn 26 = .ok (.ireturn, 1) := by decide +kernel
theorem dX5_turn_27 : decode cX5_turn 27 = .ok (.aload_n 0, 1) := by decide +kernel
theorem dX5_turn_28 : decode cX5_turn 28 = .ok (.getfield 26, 3) := by decide +kernel
theorem dX5_turn_31 : decode cX5_turn 31 = .ok (.getfield 106, 3) := by decide +kernel
theorem dX5_turn_34 : decode cX5_turn 34 = .ok (.iload_n 1, 1) := by decide +kernel
theorem dX5_turn_35 : decode cX5_turn 35 = .ok (.iaload, 1) := by decide +kernel
theorem dX5_turn_36 : decode cX5_turn 36 = .ok (.iconst 4, 1) := by decide +kernel
theorem dX5_turn_37 : decode cX5_turn 37 = .ok (.if_icmp .ne 10, 3) := by decide +kernel
theorem dX5_turn_40 : decode cX5_turn 40 = .ok (.iload_n 2, 1) := by decide +kernel
theorem dX5_turn_41 : decode cX5_turn 41 = .ok (.ifCond .eq 6, 3) := by decide +kernel
theorem dX5_turn_44 : decode cX5_turn 44 = .ok (.bipush (-103), 2) := by decide +kernel
theorem dX5_turn_46 : decode cX5_turn 46 = .ok (.ireturn, 1) := by decide +kernel
theorem dX5_turn_47 : decode cX5_turn 47 = .ok (.aload_n 0, 1) := by decide +kernel
theorem dX5_turn_48 : decode cX5_turn 48 = .ok (.getfield 36, 3) := by decide +kernel
theorem dX5_turn_51 : decode cX5_turn 51 = .ok (.getfield 123, 3) := by decide +kernel
theorem dX5_turn_54 : decode cX5_turn 54 = .ok (.iload_n 1, 1) := by decide +kernel
theorem dX5_turn_55 : decode cX5_turn 55 = .ok (.iaload, 1) := by decide +kernel
theorem dX5_turn_56 : decode cX5_turn 56 = .ok (.istore_n 3, 1) := by decide +kernel
theorem dX5_turn_57 : decode cX5_turn 57 = .ok (.aload_n 0, 1) := by decide +kernel
theorem dX5_turn_58 : decode cX5_turn 58 = .ok (.getfield 36, 3) := by decide +kernel
theorem dX5_turn_61 : decode cX5_turn 61 = .ok (.getfield 123, 3) := by decide +kernel
theorem dX5_turn_64 : decode cX5_turn 64 = .ok (.iload_n 1, 1) := by decide +kernel
theorem dX5_turn_65 : decode cX5_turn 65 = .ok (.iload_n 2, 1) := by decide +kernel
theorem dX5_turn_66 : decode cX5_turn 66 = .ok (.iastore, 1) := by decide +kernel
theorem dX5_turn_67 : decode cX5_turn 67 = .ok (.iload_n 3, 1) := by decide +kernel
theorem dX5_turn_68 : decode cX5_turn 68 = .ok (.ireturn, 1) := by decide +kernel
set_option maxRecDepth 20000 in
theorem ggX5_evening_X5_isFromOneTo : GoodIn wsX5_evening wsX5_isFromOneTo := goodIn_r _ [8] (by decide +kernel) (by decide +kernel)
set_option maxRecDepth 20000 in
theorem gX5_evening_X5_isFromOneTo : GoodIn wsX5_evening (va_wsS RX5 137 yX5_isFromOneTo wsX5_isFromOneTo) := goodIn_app (goodIn_of _ (by decide +kernel)) ggX5_evening_X5_isFromOneTo
set_option maxRecDepth 20000 in
theorem ggX5_evening_X4_addTo : GoodIn wsX5_evening wsX4_addTo := goodIn_r _ [13, 14, 15, 16, 17, 18, 19, 20, 21, 22, 23, 24, 25, 26, 27, 28, 29, 30, 31, 32, 33, 34, 35, 36, 37, 38, 39, 40, 41, 42, 43, 44, 45, 46, 47, 48, 79, 80, 81, 82, 83, 84, 73, 74, 75, 76, 77, 78] (by decide +kernel) (by decide +kernel)
set_option maxRecDepth 20000 in
theorem gX5_evening_X4_addTo : GoodIn wsX5_evening (wsV RX5 143 RX4 yX4_addTo wsX4_addTo) := goodIn_app (goodIn_of _ (by decide +kernel)) ggX5_evening_X4_addTo
set_option maxRecDepth 20000 in
theorem ggX5_evening_X4_drinkersOf : GoodIn wsX5_evening wsX4_drinkersOf := goodIn_r _ [52, 53, 54, 55, 56, 12, 57, 58, 14, 59, 60, 61, 19, 62, 21, 79, 80, 81, 82, 83, 84] (by decide +kernel) (by decide +kernel)
set_option maxRecDepth 20000 in
theorem gX5_evening_X4_drinkersOf : GoodIn wsX5_evening (wsV RX5 196 RX4 yX4_drinkersOf wsX4_drinkersOf) := goodIn_app (goodIn_of _ (by decide +kernel)) ggX5_evening_X4_drinkersOf
theorem dX5_evening_0 : decode cX5_evening 0 = .ok (.aload_n 0, 1) := by decide +kernel
theorem dX5_evening_1 : decode cX5_evening 1 = .ok (.getfield 26, 3) := by decide +kernel
theorem dX5_evening_4 : decode cX5_evening 4 = .ok (.getfield 101, 3) := by decide +kernel
theorem dX5_evening_7 : decode cX5_evening 7 = .ok (.ifCond .ne 6, 3) := by decide +kernel
theorem dX5_evening_10 : decode cX5_evening 10 = .ok (.bipush (-103), 2) := by decide +kernel
theorem dX5_evening_12 : decode cX5_evening 12 = .ok (.ireturn, 1) := by decide +kernel
theorem dX5_evening_13 : decode cX5_evening 13 = .ok (.bipush 24, 2) := by decide +kernel
theorem dX5_evening_15 : decode cX5_evening 15 = .ok (.iload_n 1, 1) := by decide +kernel
theorem dX5_evening_16 : decode cX5_evening 16 = .ok (.invokestatic 137, 3) := by decide +kernel
theorem dX5_evening_19 : decode cX5_evening 19 = .ok (.ifCond .eq 12, 3) := by decide +kernel
theorem dX5_evening_22 : decode cX5_evening 22 = .ok (.bipush 9, 2) := by decide +kernel
theorem dX5_evening_24 : decode cX5_evening 24 = .ok (.iload_n 2, 1) := by decide +kernel
theorem dX5_evening_25 : decode cX5_evening 25 = .ok (.invokestatic 137, 3) := by decide +kernel
theorem dX5_evening_28 : decode cX5_evening 28 = .ok (.ifCond .ne 6, 3) := by decide +kernel
theorem dX5_evening_31 : decode cX5_evening 31 = .ok (.bipush (-102), 2) := by decide +kernel
theorem dX5_evening_33 : decode cX5_evening 33 = .ok (.ireturn, 1) := by decide +kernel
theorem dX5_evening_34 : decode cX5_evening 34 = .ok (.aload_n 0, 1) := by decide +kernel
theorem dX5_evening_35 : decode cX5_evening 35 = .ok (.getfield 36, 3) := by decide +kernel
theorem dX5_evening_38 : decode cX5_evening 38 = .ok (.getfield 140, 3) := by decide +kernel
theorem dX5_evening_41 : decode cX5_evening 41 = .ok (.iload_n 1, 1) := by decide +kernel
theorem dX5_evening_42 : decode cX5_evening 42 = .ok (.iload_n 2, 1) := by decide +kernel
theorem dX5_evening_43 : decode cX5_evening 43 = .ok (.imul, 1) := by decide +kernel
theorem dX5_evening_44 : decode cX5_evening 44 = .ok (.iadd, 1) := by decide +kernel
theorem dX5_evening_45 : decode cX5_evening 45 = .ok (.sipush 9999, 3) := by decide +kernel
theorem dX5_evening_48 : decode cX5_evening 48 = .ok (.if_icmp .le 6, 3) := by decide +kernel
theorem dX5_evening_51 : decode cX5_evening 51 = .ok (.bipush (-103), 2) := by decide +kernel
theorem dX5_evening_53 : decode cX5_evening 53 = .ok (.ireturn, 1) := by decide +kernel
theorem dX5_evening_54 : decode cX5_evening 54 = .ok (.iconst 1, 1) := by decide +kernel
theorem dX5_evening_55 : decode cX5_evening 55 = .ok (.istore_n 3, 1) := by decide +kernel
theorem dX5_evening_56 : decode cX5_evening 56 = .ok (.iload_n 3, 1) := by decide +kernel
theorem dX5_evening_57 : decode cX5_evening 57 = .ok (.iload_n 1, 1) := by decide +kernel
theorem dX5_evening_58 : decode cX5_evening 58 = .ok (.if_icmp .gt 30, 3) := by decide +kernel
theorem dX5_evening_61 : decode cX5_evening 61 = .ok (.aload_n 0, 1) := by decide +kernel
theorem dX5_evening_62 : decode cX5_evening 62 = .ok (.getfield 36, 3) := by decide +kernel
theorem dX5_evening_65 : decode cX5_evening 65 = .ok (.aload_n 0, 1) := by decide +kernel
theorem dX5_evening_66 : decode cX5_evening 66 = .ok (.getfield 26, 3) := by decide +kernel
theorem dX5_evening_69 : decode cX5_evening 69 = .ok (.iconst 0, 1) := by decide +kernel
theorem dX5_evening_70 : decode cX5_evening 70 = .ok (.iload_n 2, 1) := by decide +kernel
theorem dX5_evening_71 : decode cX5_evening 71 = .ok (.invokevirtual 143, 3) := by decide +kernel
theorem dX5_evening_74 : decode cX5_evening 74 = .ok (.aload_n 0, 1) := by decide +kernel
theorem dX5_evening_75 : decode cX5_evening 75 = .ok (.getfield 36, 3) := by decide +kernel
theorem dX5_evening_78 : decode cX5_evening 78 = .ok (.iload_n 3, 1) := by decide +kernel
theorem dX5_evening_79 : decode cX5_evening 79 = .ok (.invokevirtual 196, 3) := by decide +kernel
theorem dX5_evening_82 : decode cX5_evening 82 = .ok (.iinc 3 1, 3) := by decide +kernel
theorem dX5_evening_85 : decode cX5_evening 85 = .ok (.goto (-29), 3) := by decide +kernel
theorem dX5_evening_88 : decode cX5_evening 88 = .ok (.aload_n 0, 1) := by decide +kernel
theorem dX5_evening_89 : decode cX5_evening 89 = .ok (.getfield 36, 3) := by decide +kernel
theorem dX5_evening_92 : decode cX5_evening 92 = .ok (.getfield 140, 3) := by decide +kernel
theorem dX5_evening_95 : decode cX5_evening 95 = .ok (.ireturn, 1) := by decide +kernel
set_option maxRecDepth 20000 in
theorem ggX5_chips_X5_chipBits : GoodIn wsX5_chips wsX5_chipBits := goodIn_r _ [7, 8, 1, 2, 9, 10, 11, 12, 13, 14, 15, 16, 17, 18, 19, 20, 21, 22, 23, 24, 25, 26, 27, 28, 29, 6, 30, 31, 32, 33, 34, 35, 36, 37, 38, 39, 40, 41, 42, 43, 44, 45, 46, 47, 48, 49, 50, 51, 52, 53, 54, 55, 56, 57, 58, 59, 60, 61, 62, 63, 64, 65, 66, 67, 68, 69, 70, 71, 72, 73, 74, 75, 76, 77, 78, 79, 80, 81, 82, 83, 84, 85, 86, 87, 88, 89, 90, 91, 92, 93, 94, 95, 96, 97, 98, 99] (by decide +kernel) (by decide +kernel)
set_option maxRecDepth 20000 in
theorem gX5_chips_X5_chipBits : GoodIn wsX5_chips (wsV RX5 199 RX5 yX5_chipBits wsX5_chipBits) := goodIn_app (goodIn_of _ (by decide +kernel)) ggX5_chips_X5_chipBits
theorem dX5_chips_0 : decode cX5_chips 0 = .ok (.aload_n 0, 1) := by decide +kernel
theorem dX5_chips_1 : decode cX5_chips 1 = .ok (.getfield 26, 3) := by decide +kernel
theorem dX5_chips_4 : decode cX5_chips 4 = .ok (.getfield 101, 3) := by decide +kernel
theorem dX5_chips_7 : decode cX5_chips 7 = .ok (.ifCond .ne 6, 3) := by decide +kernel
theorem dX5_chips_10 : decode cX5_chips 10 = .ok (.bipush (-103), 2) := by decide +kernel
theorem dX5_chips_12 : decode cX5_chips 12 = .ok (.ireturn, 1) := by decide +kernel
theorem dX5_chips_13 : decode cX5_chips 13 = .ok (.iload_n 1, 1) := by decide +kernel
theorem dX5_chips_14 : decode cX5_chips 14 = .ok (.ifCond .lt 10, 3) := by decide +kernel
theorem dX5_chips_17 : decode cX5_chips 17 = .ok (.iload_n 1, 1) := by decide +kernel
theorem dX5_chips_18 : decode cX5_chips 18 = .ok (.sipush 999, 3) := by decide +kernel
theorem dX5_chips_21 : decode cX5_chips 21 = .ok (.if_icmp .le 6, 3) := by decide +kernel
theorem dX5_chips_24 : decode cX5_chips 24 = .ok (.bipush (-102), 2) := by decide +kernel
theorem dX5_chips_26 : decode cX5_chips 26 = .ok (.ireturn, 1) := by decide +kernel
theorem dX5_chips_27 : decode cX5_chips 27 = .ok (.aload_n 0, 1) := by decide +kernel
theorem dX5_chips_28 : decode cX5_chips 28 = .ok (.iload_n 1, 1) := by decide +kernel
theorem dX5_chips_29 : decode cX5_chips 29 = .ok (.invokevirtual 199, 3) := by decide +kernel
theorem dX5_chips_32 : decode cX5_chips 32 = .ok (.ireturn, 1) := by decide +kernel
set_option maxRecDepth 20000 in
theorem ggX5_alike_X3_isSet : GoodIn wsX5_alike wsX3_isSet := goodIn_r _ [10, 11, 72, 73, 74, 75, 76, 77] (by decide +kernel) (by decide +kernel)
set_option maxRecDepth 20000 in
theorem gX5_alike_X3_isSet : GoodIn wsX5_alike (wsV RX5 183 RX3 yX3_isSet wsX3_isSet) := goodIn_app (goodIn_of _ (by decide +kernel)) ggX5_alike_X3_isSet
set_option maxRecDepth 20000 in
theorem ggX5_alike_J6_bitCount_0f7a4 : GoodIn wsX5_alike wsJ6_bitCount_0f7a4 := goodIn_r _ [15, 16, 17, 18] (by decide +kernel) (by decide +kernel)
set_option maxRecDepth 20000 in
theorem gX5_alike_J6_bitCount_0f7a4 : GoodIn wsX5_alike (va_wsS RX5 203 yJ6_bitCount_0f7a4 wsJ6_bitCount_0f7a4) := goodIn_app (goodIn_of _ (by decide +kernel)) ggX5_alike_J6_bitCount_0f7a4
set_option maxRecDepth 20000 in
theorem ggX5_alike_X0_makeEmpty : GoodIn wsX5_alike wsX0_makeEmpty := goodIn_r _ [23, 24, 25, 26, 27, 28, 29, 78, 79] (by decide +kernel) (by decide +kernel)
set_option maxRecDepth 20000 in
theorem gX5_alike_X0_makeEmpty : GoodIn wsX5_alike (wsV RX5 208 RX0 yX0_makeEmpty wsX0_makeEmpty) := goodIn_app (goodIn_of _ (by decide +kernel)) ggX5_alike_X0_makeEmpty
set_option maxRecDepth 20000 in
theorem ggX5_alike_X0_addTo : GoodIn wsX5_alike wsX0_addTo := goodIn_r _ [33, 24, 34, 35, 36, 37, 9, 38, 11, 39, 40, 41, 22, 42, 43, 44, 45, 46, 47, 48, 25, 49, 50, 51, 52, 53, 54, 55, 56, 57, 78, 79, 72, 73, 74, 75, 76, 77] (by decide +kernel) (by decide +kernel)
set_option maxRecDepth 20000 in
theorem gX5_alike_X0_addTo : GoodIn wsX5_alike (wsV RX5 209 RX0 yX0_addTo wsX0_addTo) := goodIn_app (goodIn_of _ (by decide +kernel)) ggX5_alike_X0_addTo
set_option maxRecDepth 20000 in
theorem ggX5_alike_X0_areAlike : GoodIn wsX5_alike wsX0_areAlike := goodIn_r _ [61, 24, 78, 79] (by decide +kernel) (by decide +kernel)
set_option maxRecDepth 20000 in
theorem gX5_alike_X0_areAlike : GoodIn wsX5_alike (wsV RX5 210 RX0 yX0_areAlike wsX0_areAlike) := goodIn_app (goodIn_of _ (by decide +kernel)) ggX5_alike_X0_areAlike
theorem dX5_alike_0 : decode cX5_alike 0 = .ok (.aload_n 0, 1) := by decide +kernel
theorem dX5_alike_1 : decode cX5_alike 1 = .ok (.getfield 26, 3) := by decide +kernel
theorem dX5_alike_4 : decode cX5_alike 4 = .ok (.getfield 101, 3) := by decide +kernel
theorem dX5_alike_7 : decode cX5_alike 7 = .ok (.ifCond .ne 6, 3) := by decide +kernel
theorem dX5_alike_10 : decode cX5_alike 10 = .ok (.bipush (-103), 2) := by decide +kernel
theorem dX5_alike_12 : decode cX5_alike 12 = .ok (.ireturn, 1) := by decide +kernel
theorem dX5_alike_13 : decode cX5_alike 13 = .ok (.aload_n 0, 1) := by decide +kernel
theorem dX5_alike_14 : decode cX5_alike 14 = .ok (.getfield 26, 3) := by decide +kernel
theorem dX5_alike_17 : decode cX5_alike 17 = .ok (.iload_n 1, 1) := by decide +kernel
theorem dX5_alike_18 : decode cX5_alike 18 = .ok (.invokevirtual 183, 3) := by decide +kernel
theorem dX5_alike_21 : decode cX5_alike 21 = .ok (.ifCond .eq 11, 3) := by decide +kernel
theorem dX5_alike_24 : decode cX5_alike 24 = .ok (.iload_n 1, 1) := by decide +kernel
theorem dX5_alike_25 : decode cX5_alike 25 = .ok (.invokestatic 203, 3) := by decide +kernel
theorem dX5_alike_28 : decode cX5_alike 28 = .ok (.iconst 2, 1) := by decide +kernel
theorem dX5_alike_29 : decode cX5_alike 29 = .ok (.if_icmp .ge 6, 3) := by decide +kernel
theorem dX5_alike_32 : decode cX5_alike 32 = .ok (.bipush (-102), 2) := by decide +kernel
theorem dX5_alike_34 : decode cX5_alike 34 = .ok (.ireturn, 1) := by decide +kernel
theorem dX5_alike_35 : decode cX5_alike 35 = .ok (.aload_n 0, 1) := by decide +kernel
theorem dX5_alike_36 : decode cX5_alike 36 = .ok (.getfield 46, 3) := by decide +kernel
theorem dX5_alike_39 : decode cX5_alike 39 = .ok (.invokevirtual 208, 3) := by decide +kernel
theorem dX5_alike_42 : decode cX5_alike 42 = .ok (.iconst 1, 1) := by decide +kernel
theorem dX5_alike_43 : decode cX5_alike 43 = .ok (.istore_n 2, 1) := by decide +kernel
theorem dX5_alike_44 : decode cX5_alike 44 = .ok (.iload_n 2, 1) := by decide +kernel
theorem dX5_alike_45 : decode cX5_alike 45 = .ok (.sipush 999, 3) := by decide +kernel
theorem dX5_alike_48 : decode cX5_alike 48 = .ok (.if_icmp .gt 61, 3) := by decide +kernel
theorem dX5_alike_51 : decode cX5_alike 51 = .ok (.aload_n 0, 1) := by decide +kernel
theorem dX5_alike_52 : decode cX5_alike 52 = .ok (.getfield 46, 3) := by decide +kernel
theorem dX5_alike_55 : decode cX5_alike 55 = .ok (.getfield 162, 3) := by decide +kernel
theorem dX5_alike_58 : decode cX5_alike 58 = .ok (.lstore_n 3, 1) := by decide +kernel
theorem dX5_alike_59 : decode cX5_alike 59 = .ok (.aload_n 0, 1) := by decide +kernel
theorem dX5_alike_60 : decode cX5_alike 60 = .ok (.getfield 46, 3) := by decide +kernel
theorem dX5_alike_63 : decode cX5_alike 63 = .ok (.aload_n 0, 1) := by decide +kernel
theorem dX5_alike_64 : decode cX5_alike 64 = .ok (.getfield 26, 3) := by decide +kernel
theorem dX5_alike_67 : decode cX5_alike 67 = .ok (.iconst 0, 1) := by decide +kernel
theorem dX5_alike_68 : decode cX5_alike 68 = .ok (.iconst 1, 1) := by decide +kernel
theorem dX5_alike_69 : decode cX5_alike 69 = .ok (.invokevirtual 209, 3) := by decide +kernel
theorem dX5_alike_72 : decode cX5_alike 72 = .ok (.aload_n 0, 1) := by decide +kernel
theorem dX5_alike_73 : decode cX5_alike 73 = .ok (.getfield 46, 3) := by decide +kernel
theorem dX5_alike_76 : decode cX5_alike 76 = .ok (.iload_n 1, 1) := by decide +kernel
theorem dX5_alike_77 : decode cX5_alike 77 = .ok (.invokevirtual 210, 3) := by decide +kernel
theorem dX5_alike_80 : decode cX5_alike 80 = .ok (.ifCond .eq 5, 3) := by decide +kernel
theorem dX5_alike_83 : decode cX5_alike 83 = .ok (.iload_n 2, 1) := by decide +kernel
theorem dX5_alike_84 : decode cX5_alike 84 = .ok (.ireturn, 1) := by decide +kernel
theorem dX5_alike_85 : decode cX5_alike 85 = .ok (.aload_n 0, 1) := by decide +kernel
theorem dX5_alike_86 : decode cX5_alike 86 = .ok (.getfield 46, 3) := by decide +kernel
theorem dX5_alike_89 : decode cX5_alike 89 = .ok (.getfield 162, 3) := by decide +kernel
theorem dX5_alike_92 : decode cX5_alike 92 = .ok (.lload_n 3, 1) := by decide +kernel
theorem dX5_alike_93 : decode cX5_alike 93 = .ok (.lsub, 1) := by decide +kernel
theorem dX5_alike_94 : decode cX5_alike 94 = .ok (.ldc2_w 213, 3) := by decide +kernel
theorem dX5_alike_97 : decode cX5_alike 97 = .ok (.lcmp, 1) := by decide +kernel
theorem dX5_alike_98 : decode cX5_alike 98 = .ok (.ifCond .ne 5, 3) := by decide +kernel
theorem dX5_alike_101 : decode cX5_alike 101 = .ok (.iconst (-1), 1) := by decide +kernel
theorem dX5_alike_102 : decode cX5_alike 102 = .ok (.ireturn, 1) := by decide +kernel
theorem dX5_alike_103 : decode cX5_alike 103 = .ok (.iinc 2 1, 3) := by decide +kernel
theorem dX5_alike_106 : decode cX5_alike 106 = .ok (.goto (-62), 3) := by decide +kernel
theorem dX5_alike_109 : decode cX5_alike 109 = .ok (.iconst (-1), 1) := by decide +kernel
theorem dX5_alike_110 : decode cX5_alike 110 = .ok (.ireturn, 1) := by decide +kernel
set_option maxRecDepth 20000 in
theorem ggX5_pourings_X5_isFromOneTo : GoodIn wsX5_pourings wsX5_isFromOneTo := goodIn_r _ [7] (by decide +kernel) (by decide +kernel)
set_option maxRecDepth 20000 in
theorem gX5_pourings_X5_isFromOneTo : GoodIn wsX5_pourings (va_wsS RX5 137 yX5_isFromOneTo wsX5_isFromOneTo) := goodIn_app (goodIn_of _ (by decide +kernel)) ggX5_pourings_X5_isFromOneTo
set_option maxRecDepth 20000 in
theorem ggX5_pourings_X5_pourBySeed : GoodIn wsX5_pourings wsX5_pourBySeed := goodIn_r _ [11, 3, 12, 13, 1, 2, 14, 15, 16, 17, 18, 19, 20, 21, 22, 23, 24, 25, 26, 6, 27, 28, 29, 30, 31, 32, 33, 34, 35, 36, 37, 38, 39, 40, 41, 42, 43, 44, 45, 46, 47, 48, 49, 50, 51, 52, 53, 54, 55, 56, 57, 58, 59, 60, 61, 62, 63, 64, 65, 66, 67, 68, 81, 82, 83, 84, 85, 86, 87, 88, 89, 90, 97, 98, 99, 100, 91, 92, 93, 94, 95, 96, 101, 102] (by decide +kernel) (by decide +kernel)
set_option maxRecDepth 20000 in
theorem gX5_pourings_X5_pourBySeed : GoodIn wsX5_pourings (wsV RX5 215 RX5 yX5_pourBySeed wsX5_pourBySeed) := goodIn_app (goodIn_of _ (by decide +kernel)) ggX5_pourings_X5_pourBySeed
set_option maxRecDepth 20000 in
theorem ggX5_pourings_X0_howManyFull : GoodIn wsX5_pourings wsX0_howManyFull := goodIn_r _ [72, 50, 73, 74, 75, 17, 76, 19, 51, 39, 40, 41, 42, 43, 44, 45, 91, 92, 93, 94, 95, 96, 101, 102] (by decide +kernel) (by decide +kernel)
set_option maxRecDepth 20000 in
theorem gX5_pourings_X0_howManyFull : GoodIn wsX5_pourings (wsV RX5 218 RX0 yX0_howManyFull wsX0_howManyFull) := goodIn_app (goodIn_of _ (by decide +kernel)) ggX5_pourings_X0_howManyFull
set_option maxRecDepth 20000 in
theorem ggX5_pourings_X0_howManyWithNothing : GoodIn wsX5_pourings wsX0_howManyWithNothing := goodIn_r _ [80, 50, 19, 91, 92, 93, 94, 95, 96, 101, 102] (by decide +kernel) (by decide +kernel)
set_option maxRecDepth 20000 in
theorem gX5_pourings_X0_howManyWithNothing : GoodIn wsX5_pourings (wsV RX5 222 RX0 yX0_howManyWithNothing wsX0_howManyWithNothing) := goodIn_app (goodIn_of _ (by decide +kernel)) ggX5_pourings_X0_howManyWithNothing
theorem dX5_pourings_0 : decode cX5_pourings 0 = .ok (.aload_n 0, 1) := by decide +kernel
theorem dX5_pourings_1 : decode cX5_pourings 1 = .ok (.getfield 26, 3) := by decide +kernel
theorem dX5_pourings_4 : decode cX5_pourings 4 = .ok (.getfield 101, 3) := by decide +kernel
theorem dX5_pourings_7 : decode cX5_pourings 7 = .ok (.ifCond .ne 6, 3) := by decide +kernel
theorem dX5_pourings_10 : decode cX5_pourings 10 = .ok (.bipush (-103), 2) := by decide +kernel
theorem dX5_pourings_12 : decode cX5_pourings 12 = .ok (.ireturn, 1) := by decide +kernel
theorem dX5_pourings_13 : decode cX5_pourings 13 = .ok (.bipush 60, 2) := by decide +kernel
theorem dX5_pourings_15 : decode cX5_pourings 15 = .ok (.iload_n 1, 1) := by decide +kernel
theorem dX5_pourings_16 : decode cX5_pourings 16 = .ok (.invokestatic 137, 3) := by decide +kernel
theorem dX5_pourings_19 : decode cX5_pourings 19 = .ok (.ifCond .eq 16, 3) := by decide +kernel
theorem dX5_pourings_22 : decode cX5_pourings 22 = .ok (.iload_n 2, 1) := by decide +kernel
theorem dX5_pourings_23 : decode cX5_pourings 23 = .ok (.ifCond .lt 12, 3) := by decide +kernel
theorem dX5_pourings_26 : decode cX5_pourings 26 = .ok (.iload_n 3, 1) := by decide +kernel
theorem dX5_pourings_27 : decode cX5_pourings 27 = .ok (.ifCond .lt 8, 3) := by decide +kernel
theorem dX5_pourings_30 : decode cX5_pourings 30 = .ok (.iload_n 3, 1) := by decide +kernel
theorem dX5_pourings_31 : decode cX5_pourings 31 = .ok (.iconst 2, 1) := by decide +kernel
theorem dX5_pourings_32 : decode cX5_pourings 32 = .ok (.if_icmp .le 6, 3) := by decide +kernel
theorem dX5_pourings_35 : decode cX5_pourings 35 = .ok (.bipush (-102), 2) := by decide +kernel
theorem dX5_pourings_37 : decode cX5_pourings 37 = .ok (.ireturn, 1) := by decide +kernel
theorem dX5_pourings_38 : decode cX5_pourings 38 = .ok (.aload_n 0, 1) := by decide +kernel
theorem dX5_pourings_39 : decode cX5_pourings 39 = .ok (.iload_n 1, 1) := by decide +kernel
theorem dX5_pourings_40 : decode cX5_pourings 40 = .ok (.iload_n 2, 1) := by decide +kernel
theorem dX5_pourings_41 : decode cX5_pourings 41 = .ok (.invokevirtual 215, 3) := by decide +kernel
theorem dX5_pourings_44 : decode cX5_pourings 44 = .ok (.istore 4, 2) := by decide +kernel
theorem dX5_pourings_46 : decode cX5_pourings 46 = .ok (.iload_n 3, 1) := by decide +kernel
theorem dX5_pourings_47 : decode cX5_pourings 47 = .ok (.lookupswitch 49 #[(0, 25), (1, 37)], 25) := by decide +kernel
theorem dX5_pourings_72 : decode cX5_pourings 72 = .ok (.aload_n 0, 1) := by decide +kernel
theorem dX5_pourings_73 : decode cX5_pourings 73 = .ok (.getfield 46, 3) := by decide +kernel
theorem dX5_pourings_76 : decode cX5_pourings 76 = .ok (.aload_n 0, 1) := by decide +kernel
theorem dX5_pourings_77 : decode cX5_pourings 77 = .ok (.getfield 26, 3) := by decide +kernel
theorem dX5_pourings_80 : decode cX5_pourings 80 = .ok (.invokevirtual 218, 3) := by decide +kernel
theorem dX5_pourings_83 : decode cX5_pourings 83 = .ok (.ireturn, 1) := by decide +kernel
theorem dX5_pourings_84 : decode cX5_pourings 84 = .ok (.aload_n 0, 1) := by decide +kernel
theorem dX5_pourings_85 : decode cX5_pourings 85 = .ok (.getfield 46, 3) := by decide +kernel
theorem dX5_pourings_88 : decode cX5_pourings 88 = .ok (.aload_n 0, 1) := by decide +kernel
theorem dX5_pourings_89 : decode cX5_pourings 89 = .ok (.getfield 26, 3) := by decide +kernel
theorem dX5_pourings_92 : decode cX5_pourings 92 = .ok (.invokevirtual 222, 3) := by decide +kernel
theorem dX5_pourings_95 : decode cX5_pourings 95 = .ok (.ireturn, 1) := by decide +kernel
theorem dX5_pourings_96 : decode cX5_pourings 96 = .ok (.iload 4, 2) := by decide +kernel
theorem dX5_pourings_98 : decode cX5_pourings 98 = .ok (.ireturn, 1) := by decide +kernel
set_option maxRecDepth 20000 in
theorem ggX5_image_X4_copyFrom : GoodIn wsX5_image wsX4_copyFrom := goodIn_r _ [11, 12, 13, 14, 15, 16, 17, 18, 19, 20, 21, 22, 23, 24, 25, 26, 27, 44, 45, 46, 47, 48, 49] (by decide +kernel) (by decide +kernel)
set_option maxRecDepth 20000 in
theorem gX5_image_X4_copyFrom : GoodIn wsX5_image (wsV RX5 225 RX4 yX4_copyFrom wsX4_copyFrom) := goodIn_app (goodIn_of _ (by decide +kernel)) ggX5_image_X4_copyFrom
theorem dX5_image_0 : decode cX5_image 0 = .ok (.aload_n 0, 1) := by decide +kernel
theorem dX5_image_1 : decode cX5_image 1 = .ok (.getfield 26, 3) := by decide +kernel
theorem dX5_image_4 : decode cX5_image 4 = .ok (.getfield 101, 3) := by decide +kernel
theorem dX5_image_7 : decode cX5_image 7 = .ok (.ifCond .ne 6, 3) := by decide +kernel
theorem dX5_image_10 : decode cX5_image 10 = .ok (.bipush (-103), 2) := by decide +kernel
theorem dX5_image_12 : decode cX5_image 12 = .ok (.ireturn, 1) := by decide +kernel
theorem dX5_image_13 : decode cX5_image 13 = .ok (.aload_n 0, 1) := by decide +kernel
theorem dX5_image_14 : decode cX5_image 14 = .ok (.getfield 40, 3) := by decide +kernel
theorem dX5_image_17 : decode cX5_image 17 = .ok (.aload_n 0, 1) := by decide +kernel
theorem dX5_image_18 : decode cX5_image 18 = .ok (.getfield 36, 3) := by decide +kernel
theorem dX5_image_21 : decode cX5_image 21 = .ok (.invokevirtual 225, 3) := by decide +kernel
theorem dX5_image_24 : decode cX5_image 24 = .ok (.aload_n 0, 1) := by decide +kernel
theorem dX5_image_25 : decode cX5_image 25 = .ok (.iconst 1, 1) := by decide +kernel
theorem dX5_image_26 : decode cX5_image 26 = .ok (.putfield 94, 3) := by decide +kernel
theorem dX5_image_29 : decode cX5_image 29 = .ok (.aload_n 0, 1) := by decide +kernel
theorem dX5_image_30 : decode cX5_image 30 = .ok (.getfield 36, 3) := by decide +kernel
theorem dX5_image_33 : decode cX5_image 33 = .ok (.getfield 140, 3) := by decide +kernel
theorem dX5_image_36 : decode cX5_image 36 = .ok (.ireturn, 1) := by decide +kernel
set_option maxRecDepth 20000 in
theorem ggX5_restore_X4_copyFrom : GoodIn wsX5_restore wsX4_copyFrom := goodIn_r _ [9, 10, 11, 12, 13, 14, 15, 16, 17, 18, 19, 20, 21, 22, 23, 24, 25, 36, 37, 38, 39, 40, 41] (by decide +kernel) (by decide +kernel)
set_option maxRecDepth 20000 in
theorem gX5_restore_X4_copyFrom : GoodIn wsX5_restore (wsV RX5 225 RX4 yX4_copyFrom wsX4_copyFrom) := goodIn_app (goodIn_of _ (by decide +kernel)) ggX5_restore_X4_copyFrom
theorem dX5_restore_0 : decode cX5_restore 0 = .ok (.aload_n 0, 1) := by decide +kernel
theorem dX5_restore_1 : decode cX5_restore 1 = .ok (.getfield 94, 3) := by decide +kernel
theorem dX5_restore_4 : decode cX5_restore 4 = .ok (.ifCond .ne 6, 3) := by decide +kernel
theorem dX5_restore_7 : decode cX5_restore 7 = .ok (.bipush (-103), 2) := by decide +kernel
theorem dX5_restore_9 : decode cX5_restore 9 = .ok (.ireturn, 1) := by decide +kernel
theorem dX5_restore_10 : decode cX5_restore 10 = .ok (.aload_n 0, 1) := by decide +kernel
theorem dX5_restore_11 : decode cX5_restore 11 = .ok (.getfield 36, 3) := by decide +kernel
theorem dX5_restore_14 : decode cX5_restore 14 = .ok (.aload_n 0, 1) := by decide +kernel
theorem dX5_restore_15 : decode cX5_restore 15 = .ok (.getfield 40, 3) := by decide +kernel
theorem dX5_restore_18 : decode cX5_restore 18 = .ok (.invokevirtual 225, 3) := by decide +kernel
theorem dX5_restore_21 : decode cX5_restore 21 = .ok (.aload_n 0, 1) := by decide +kernel
theorem dX5_restore_22 : decode cX5_restore 22 = .ok (.getfield 36, 3) := by decide +kernel
theorem dX5_restore_25 : decode cX5_restore 25 = .ok (.getfield 140, 3) := by decide +kernel
theorem dX5_restore_28 : decode cX5_restore 28 = .ok (.ireturn, 1) := by decide +kernel
set_option maxRecDepth 20000 in
theorem ggX5_count_X0_howManyFull : GoodIn wsX5_count wsX0_howManyFull := goodIn_r _ [14, 15, 16, 17, 18, 13, 19, 20, 21, 22, 23, 24, 25, 26, 27, 28, 39, 40, 41, 42, 43, 44, 51, 52] (by decide +kernel) (by decide +kernel)
set_option maxRecDepth 20000 in
theorem gX5_count_X0_howManyFull : GoodIn wsX5_count (wsV RX5 218 RX0 yX0_howManyFull wsX0_howManyFull) := goodIn_app (goodIn_of _ (by decide +kernel)) ggX5_count_X0_howManyFull
theorem dX5_count_0 : decode cX5_count 0 = .ok (.iload_n 1, 1) := by decide +kernel
theorem dX5_count_1 : decode cX5_count 1 = .ok (.tableswitch 88 0 5 #[39, 47, 55, 70, 78, 83], 39) := by decide +kernel
theorem dX5_count_40 : decode cX5_count 40 = .ok (.aload_n 0, 1) := by decide +kernel
theorem dX5_count_41 : decode cX5_count 41 = .ok (.getfield 26, 3) := by decide +kernel
theorem dX5_count_44 : decode cX5_count 44 = .ok (.getfield 101, 3) := by decide +kernel
theorem dX5_count_47 : decode cX5_count 47 = .ok (.ireturn, 1) := by decide +kernel
theorem dX5_count_48 : decode cX5_count 48 = .ok (.aload_n 0, 1) := by decide +kernel
theorem dX5_count_49 : decode cX5_count 49 = .ok (.getfield 36, 3) := by decide +kernel
theorem dX5_count_52 : decode cX5_count 52 = .ok (.getfield 140, 3) := by decide +kernel
theorem dX5_count_55 : decode cX5_count 55 = .ok (.ireturn, 1) := by decide +kernel
theorem dX5_count_56 : decode cX5_count 56 = .ok (.aload_n 0, 1) := by decide +kernel
theorem dX5_count_57 : decode cX5_count 57 = .ok (.getfield 36, 3) := by decide +kernel
theorem dX5_count_60 : decode cX5_count 60 = .ok (.getfield 126, 3) := by decide +kernel
theorem dX5_count_63 : decode cX5_count 63 = .ok (.aload_n 0, 1) := by decide +kernel
theorem dX5_count_64 : decode cX5_count 64 = .ok (.getfield 26, 3) := by decide +kernel
theorem dX5_count_67 : decode cX5_count 67 = .ok (.invokevirtual 218, 3) := by decide +kernel
theorem dX5_count_70 : decode cX5_count 70 = .ok (.ireturn, 1) := by decide +kernel
theorem dX5_count_71 : decode cX5_count 71 = .ok (.aload_n 0, 1) := by decide +kernel
theorem dX5_count_72 : decode cX5_count 72 = .ok (.getfield 12, 3) := by decide +kernel
theorem dX5_count_75 : decode cX5_count 75 = .ok (.getfield 54, 3) := by decide +kernel
theorem dX5_count_78 : decode cX5_count 78 = .ok (.ireturn, 1) := by decide +kernel
theorem dX5_count_79 : decode cX5_count 79 = .ok (.aload_n 0, 1) := by decide +kernel
theorem dX5_count_80 : decode cX5_count 80 = .ok (.getfield 98, 3) := by decide +kernel
theorem dX5_count_83 : decode cX5_count 83 = .ok (.ireturn, 1) := by decide +kernel
theorem dX5_count_84 : decode cX5_count 84 = .ok (.aload_n 0, 1) := by decide +kernel
theorem dX5_count_85 : decode cX5_count 85 = .ok (.getfield 186, 3) := by decide +kernel
theorem dX5_count_88 : decode cX5_count 88 = .ok (.ireturn, 1) := by decide +kernel
theorem dX5_count_89 : decode cX5_count 89 = .ok (.bipush (-102), 2) := by decide +kernel
theorem dX5_count_91 : decode cX5_count 91 = .ok (.ireturn, 1) := by decide +kernel
set_option maxRecDepth 20000 in
theorem ggX5_digest_X5_glassInto : GoodIn wsX5_digest wsX5_glassInto := goodIn_r _ [16, 17, 18, 19, 15, 20, 2, 21, 22, 23, 24, 4, 25, 26, 27, 28, 29, 30, 31, 32, 33, 34, 35, 36, 37, 38, 39, 40, 41, 42, 43, 44, 45, 46, 47, 48, 49, 50, 51, 52, 53, 54, 55, 56, 57, 58, 59, 60, 61, 62, 63, 64, 65, 66, 67, 68, 8, 69, 70, 71, 72, 73, 74, 75, 76, 77, 178, 179, 180, 181, 182, 183, 184, 185, 186, 187, 188, 189, 190, 191, 192, 193, 194, 195, 196, 197, 200, 201] (by decide +kernel) (by decide +kernel)
set_option maxRecDepth 20000 in
theorem gX5_digest_X5_glassInto : GoodIn wsX5_digest (wsV RX5 230 RX5 yX5_glassInto wsX5_glassInto) := goodIn_app (goodIn_of _ (by decide +kernel)) ggX5_digest_X5_glassInto
set_option maxRecDepth 20000 in
theorem ggX5_digest_X5_all : GoodIn wsX5_digest wsX5_all := goodIn_r _ [81, 58, 4, 26, 82, 60, 61, 15, 62, 83, 84, 85, 43, 86, 45, 63, 64, 65, 66, 67, 68, 8, 69, 70, 71, 72, 178, 179, 180, 181, 182, 183, 184, 185, 186, 187, 194, 195, 196, 197, 200, 201] (by decide +kernel) (by decide +kernel)
set_option maxRecDepth 20000 in
theorem gX5_digest_X5_all : GoodIn wsX5_digest (wsV RX5 233 RX5 yX5_all wsX5_all) := goodIn_app (goodIn_of _ (by decide +kernel)) ggX5_digest_X5_all
set_option maxRecDepth 20000 in
theorem ggX5_digest_X5_into : GoodIn wsX5_digest wsX5_into := goodIn_r _ [51, 52] (by decide +kernel) (by decide +kernel)
set_option maxRecDepth 20000 in
theorem gX5_digest_X5_into : GoodIn wsX5_digest (va_wsS RX5 236 yX5_into wsX5_into) := goodIn_app (goodIn_of _ (by decide +kernel)) ggX5_digest_X5_into
set_option maxRecDepth 20000 in
theorem ggX5_digest_X5_leastToFill : GoodIn wsX5_digest wsX5_leastToFill := goodIn_r _ [90, 91, 92, 93, 15, 94, 95, 4, 26, 2, 96, 97, 98, 43, 99, 45, 100, 101, 102, 103, 104, 105, 106, 107, 108, 47, 48, 28, 29, 30, 31, 32, 109, 110, 111, 112, 113, 46, 114, 115, 116, 117, 118, 119, 120, 121, 122, 123, 37, 124, 39, 125, 126, 127, 128, 129, 41, 42, 44, 178, 179, 180, 181, 182, 183, 184, 185, 186, 187, 194, 195, 196, 197, 200, 201, 188, 189, 190, 191, 192, 193] (by decide +kernel) (by decide +kernel)
set_option maxRecDepth 20000 in
theorem gX5_digest_X5_leastToFill : GoodIn wsX5_digest (wsV RX5 180 RX5 yX5_leastToFill wsX5_leastToFill) := goodIn_app (goodIn_of _ (by decide +kernel)) ggX5_digest_X5_leastToFill
set_option maxRecDepth 20000 in
theorem ggX5_digest_X5_chipBits : GoodIn wsX5_digest wsX5_chipBits := goodIn_r _ [133, 134, 2, 3, 21, 23, 22, 135, 136, 137, 30, 138, 124, 139, 101, 102, 103, 140, 141, 37, 38, 32, 142, 143, 144, 15, 145, 95, 4, 26, 146, 147, 148, 43, 149, 45, 104, 150, 151, 152, 153, 105, 106, 107, 108, 47, 48, 28, 29, 31, 109, 110, 111, 112, 113, 46, 114, 115, 116, 117, 118, 119, 120, 121, 122, 123, 39, 154, 155, 156, 157, 158, 159, 160, 178, 179, 180, 181, 182, 183, 184, 185, 186, 187, 188, 189, 190, 191, 192, 193, 194, 195, 196, 197, 200, 201] (by decide +kernel) (by decide +kernel)
set_option maxRecDepth 20000 in
theorem gX5_digest_X5_chipBits : GoodIn wsX5_digest (wsV RX5 199 RX5 yX5_chipBits wsX5_chipBits) := goodIn_app (goodIn_of _ (by decide +kernel)) ggX5_digest_X5_chipBits
set_option maxRecDepth 20000 in
theorem ggX5_digest_X1_codeAt : GoodIn wsX5_digest wsX1_codeAt := goodIn_r _ [165, 166, 167, 198, 199] (by decide +kernel) (by decide +kernel)
set_option maxRecDepth 20000 in
theorem gX5_digest_X1_codeAt : GoodIn wsX5_digest (wsV RX5 69 RX1 yX1_codeAt wsX1_codeAt) := goodIn_app (goodIn_of _ (by decide +kernel)) ggX5_digest_X1_codeAt
set_option maxRecDepth 20000 in
theorem ggX5_digest_X5_count : GoodIn wsX5_digest wsX5_count := goodIn_r _ [171, 2, 3, 4, 5, 26, 10, 11, 172, 173, 174, 175, 176, 43, 177, 113, 129, 41, 42, 44, 45, 46, 47, 48, 28, 29, 30, 31, 32, 178, 179, 180, 181, 182, 183, 184, 185, 186, 187, 188, 189, 190, 191, 192, 193, 194, 195, 196, 197, 198, 199, 200, 201] (by decide +kernel) (by decide +kernel)
set_option maxRecDepth 20000 in
theorem gX5_digest_X5_count : GoodIn wsX5_digest (wsV RX5 245 RX5 yX5_count wsX5_count) := goodIn_app (goodIn_of _ (by decide +kernel)) ggX5_digest_X5_count
theorem dX5_digest_0 : decode cX5_digest 0 = .ok (.ldc2_w 228, 3) := by decide +kernel
theorem dX5_digest_3 : decode cX5_digest 3 = .ok (.lstore_n 1, 1) := by decide +kernel
theorem dX5_digest_4 : decode cX5_digest 4 = .ok (.iconst 0, 1) := by decide +kernel
theorem dX5_digest_5 : decode cX5_digest 5 = .ok (.istore_n 3, 1) := by decide +kernel
theorem dX5_digest_6 : decode cX5_digest 6 = .ok (.iload_n 3, 1) := by decide +kernel
theorem dX5_digest_7 : decode cX5_digest 7 = .ok (.aload_n 0, 1) := by decide +kernel
theorem dX5_digest_8 : decode cX5_digest 8 = .ok (.getfield 26, 3) := by decide +kernel
theorem dX5_digest_11 : decode cX5_digest 11 = .ok (.getfield 101, 3) := by decide +kernel
theorem dX5_digest_14 : decode cX5_digest 14 = .ok (.if_icmp .ge 16, 3) := by decide +kernel
theorem dX5_digest_17 : decode cX5_digest 17 = .ok (.aload_n 0, 1) := by decide +kernel
theorem dX5_digest_18 : decode cX5_digest 18 = .ok (.lload_n 1, 1) := by decide +kernel
theorem dX5_digest_19 : decode cX5_digest 19 = .ok (.iload_n 3, 1) := by decide +kernel
theorem dX5_digest_20 : decode cX5_digest 20 = .ok (.invokevirtual 230, 3) := by decide +kernel
theorem dX5_digest_23 : decode cX5_digest 23 = .ok (.lstore_n 1, 1) := by decide +kernel
theorem dX5_digest_24 : decode cX5_digest 24 = .ok (.iinc 3 1, 3) := by decide +kernel
theorem dX5_digest_27 : decode cX5_digest 27 = .ok (.goto (-21), 3) := by decide +kernel
theorem dX5_digest_30 : decode cX5_digest 30 = .ok (.iconst 0, 1) := by decide +kernel
theorem dX5_digest_31 : decode cX5_digest 31 = .ok (.istore_n 3, 1) := by decide +kernel
theorem dX5_digest_32 : decode cX5_digest 32 = .ok (.iload_n 3, 1) := by decide +kernel
theorem dX5_digest_33 : decode cX5_digest 33 = .ok (.iconst 1, 1) := by decide +kernel
theorem dX5_digest_34 : decode cX5_digest 34 = .ok (.if_icmp .gt 31, 3) := by decide +kernel
theorem dX5_digest_37 : decode cX5_digest 37 = .ok (.lload_n 1, 1) := by decide +kernel
theorem dX5_digest_38 : decode cX5_digest 38 = .ok (.aload_n 0, 1) := by decide +kernel
theorem dX5_digest_39 : decode cX5_digest 39 = .ok (.iload_n 3, 1) := by decide +kernel
theorem dX5_digest_40 : decode cX5_digest 40 = .ok (.iconst 0, 1) := by decide +kernel
theorem dX5_digest_41 : decode cX5_digest 41 = .ok (.invokevirtual 233, 3) := by decide +kernel
theorem dX5_digest_44 : decode cX5_digest 44 = .ok (.invokestatic 236, 3) := by decide +kernel
theorem dX5_digest_47 : decode cX5_digest 47 = .ok (.lstore_n 1, 1) := by decide +kernel
theorem dX5_digest_48 : decode cX5_digest 48 = .ok (.lload_n 1, 1) := by decide +kernel
theorem dX5_digest_49 : decode cX5_digest 49 = .ok (.aload_n 0, 1) := by decide +kernel
theorem dX5_digest_50 : decode cX5_digest 50 = .ok (.iload_n 3, 1) := by decide +kernel
theorem dX5_digest_51 : decode cX5_digest 51 = .ok (.iconst 1, 1) := by decide +kernel
theorem dX5_digest_52 : decode cX5_digest 52 = .ok (.invokevirtual 233, 3) := by decide +kernel
theorem dX5_digest_55 : decode cX5_digest 55 = .ok (.invokestatic 236, 3) := by decide +kernel
theorem dX5_digest_58 : decode cX5_digest 58 = .ok (.lstore_n 1, 1) := by decide +kernel
theorem dX5_digest_59 : decode cX5_digest 59 = .ok (.iinc 3 1, 3) := by decide +kernel
theorem dX5_digest_62 : decode cX5_digest 62 = .ok (.goto (-30), 3) := by decide +kernel
theorem dX5_digest_65 : decode cX5_digest 65 = .ok (.aload_n 0, 1) := by decide +kernel
theorem dX5_digest_66 : decode cX5_digest 66 = .ok (.getfield 26, 3) := by decide +kernel
theorem dX5_digest_69 : decode cX5_digest 69 = .ok (.getfield 101, 3) := by decide +kernel
theorem dX5_digest_72 : decode cX5_digest 72 = .ok (.ifCond .le 48, 3) := by decide +kernel
theorem dX5_digest_75 : decode cX5_digest 75 = .ok (.lload_n 1, 1) := by decide +kernel
theorem dX5_digest_76 : decode cX5_digest 76 = .ok (.aload_n 0, 1) := by decide +kernel
theorem dX5_digest_77 : decode cX5_digest 77 = .ok (.iconst 1, 1) := by decide +kernel
theorem dX5_digest_78 : decode cX5_digest 78 = .ok (.aload_n 0, 1) := by decide +kernel
theorem dX5_digest_79 : decode cX5_digest 79 = .ok (.getfield 26, 3) := by decide +kernel
theorem dX5_digest_82 : decode cX5_digest 82 = .ok (.getfield 101, 3) := by decide +kernel
theorem dX5_digest_85 : decode cX5_digest 85 = .ok (.ishl, 1) := by decide +kernel
theorem dX5_digest_86 : decode cX5_digest 86 = .ok (.iconst 1, 1) := by decide +kernel
theorem dX5_digest_87 : decode cX5_digest 87 = .ok (.isub, 1) := by decide +kernel
theorem dX5_digest_88 : decode cX5_digest 88 = .ok (.iconst 0, 1) := by decide +kernel
theorem dX5_digest_89 : decode cX5_digest 89 = .ok (.invokevirtual 180, 3) := by decide +kernel
theorem dX5_digest_92 : decode cX5_digest 92 = .ok (.i2l, 1) := by decide +kernel
theorem dX5_digest_93 : decode cX5_digest 93 = .ok (.invokestatic 236, 3) := by decide +kernel
theorem dX5_digest_96 : decode cX5_digest 96 = .ok (.lstore_n 1, 1) := by decide +kernel
theorem dX5_digest_97 : decode cX5_digest 97 = .ok (.lload_n 1, 1) := by decide +kernel
theorem dX5_digest_98 : decode cX5_digest 98 = .ok (.aload_n 0, 1) := by decide +kernel
theorem dX5_digest_99 : decode cX5_digest 99 = .ok (.aload_n 0, 1) := by decide +kernel
theorem dX5_digest_100 : decode cX5_digest 100 = .ok (.getfield 36, 3) := by decide +kernel
theorem dX5_digest_103 : decode cX5_digest 103 = .ok (.getfield 140, 3) := by decide +kernel
theorem dX5_digest_106 : decode cX5_digest 106 = .ok (.sipush 999, 3) := by decide +kernel
theorem dX5_digest_109 : decode cX5_digest 109 = .ok (.invokestatic 240, 3) := by decide +kernel
theorem dX5_digest_112 : decode cX5_digest 112 = .ok (.invokevirtual 199, 3) := by decide +kernel
theorem dX5_digest_115 : decode cX5_digest 115 = .ok (.i2l, 1) := by decide +kernel
theorem dX5_digest_116 : decode cX5_digest 116 = .ok (.invokestatic 236, 3) := by decide +kernel
theorem dX5_digest_119 : decode cX5_digest 119 = .ok (.lstore_n 1, 1) := by decide +kernel
theorem dX5_digest_120 : decode cX5_digest 120 = .ok (.iconst 0, 1) := by decide +kernel
theorem dX5_digest_121 : decode cX5_digest 121 = .ok (.istore_n 3, 1) := by decide +kernel
theorem dX5_digest_122 : decode cX5_digest 122 = .ok (.iload_n 3, 1) := by decide +kernel
theorem dX5_digest_123 : decode cX5_digest 123 = .ok (.aload_n 0, 1) := by decide +kernel
theorem dX5_digest_124 : decode cX5_digest 124 = .ok (.getfield 12, 3) := by decide +kernel
theorem dX5_digest_127 : decode cX5_digest 127 = .ok (.getfield 54, 3) := by decide +kernel
theorem dX5_digest_130 : decode cX5_digest 130 = .ok (.if_icmp .ge 23, 3) := by decide +kernel
theorem dX5_digest_133 : decode cX5_digest 133 = .ok (.lload_n 1, 1) := by decide +kernel
theorem dX5_digest_134 : decode cX5_digest 134 = .ok (.aload_n 0, 1) := by decide +kernel
theorem dX5_digest_135 : decode cX5_digest 135 = .ok (.getfield 12, 3) := by decide +kernel
theorem dX5_digest_138 : decode cX5_digest 138 = .ok (.iload_n 3, 1) := by decide +kernel
theorem dX5_digest_139 : decode cX5_digest 139 = .ok (.invokevirtual 69, 3) := by decide +kernel
theorem dX5_digest_142 : decode cX5_digest 142 = .ok (.i2l, 1) := by decide +kernel
theorem dX5_digest_143 : decode cX5_digest 143 = .ok (.invokestatic 236, 3) := by decide +kernel
theorem dX5_digest_146 : decode cX5_digest 146 = .ok (.lstore_n 1, 1) := by decide +kernel
theorem dX5_digest_147 : decode cX5_digest 147 = .ok (.iinc 3 1, 3) := by decide +kernel
theorem dX5_digest_150 : decode cX5_digest 150 = .ok (.goto (-28), 3) := by decide +kernel
theorem dX5_digest_153 : decode cX5_digest 153 = .ok (.iconst 0, 1) := by decide +kernel
theorem dX5_digest_154 : decode cX5_digest 154 = .ok (.istore_n 3, 1) := by decide +kernel
theorem dX5_digest_155 : decode cX5_digest 155 = .ok (.iload_n 3, 1) := by decide +kernel
theorem dX5_digest_156 : decode cX5_digest 156 = .ok (.iconst 5, 1) := by decide +kernel
theorem dX5_digest_157 : decode cX5_digest 157 = .ok (.if_icmp .gt 20, 3) := by decide +kernel
theorem dX5_digest_160 : decode cX5_digest 160 = .ok (.lload_n 1, 1) := by decide +kernel
theorem dX5_digest_161 : decode cX5_digest 161 = .ok (.aload_n 0, 1) := by decide +kernel
theorem dX5_digest_162 : decode cX5_digest 162 = .ok (.iload_n 3, 1) := by decide +kernel
theorem dX5_digest_163 : decode cX5_digest 163 = .ok (.invokevirtual 245, 3) := by decide +kernel
theorem dX5_digest_166 : decode cX5_digest 166 = .ok (.i2l, 1) := by decide +kernel
theorem dX5_digest_167 : decode cX5_digest 167 = .ok (.invokestatic 236, 3) := by decide +kernel
theorem dX5_digest_170 : decode cX5_digest 170 = .ok (.lstore_n 1, 1) := by decide +kernel
theorem dX5_digest_171 : decode cX5_digest 171 = .ok (.iinc 3 1, 3) := by decide +kernel
theorem dX5_digest_174 : decode cX5_digest 174 = .ok (.goto (-19), 3) := by decide +kernel
theorem dX5_digest_177 : decode cX5_digest 177 = .ok (.lload_n 1, 1) := by decide +kernel
theorem dX5_digest_178 : decode cX5_digest 178 = .ok (.lreturn, 1) := by decide +kernel
theorem dX5_isFromOneTo_0 : decode cX5_isFromOneTo 0 = .ok (.iload_n 1, 1) := by decide +kernel
theorem dX5_isFromOneTo_1 : decode cX5_isFromOneTo 1 = .ok (.iconst 1, 1) := by decide +kernel
theorem dX5_isFromOneTo_2 : decode cX5_isFromOneTo 2 = .ok (.if_icmp .lt 12, 3) := by decide +kernel
theorem dX5_isFromOneTo_5 : decode cX5_isFromOneTo 5 = .ok (.iload_n 1, 1) := by decide +kernel
theorem dX5_isFromOneTo_6 : decode cX5_isFromOneTo 6 = .ok (.iload_n 0, 1) := by decide +kernel
theorem dX5_isFromOneTo_7 : decode cX5_isFromOneTo 7 = .ok (.if_icmp .gt 7, 3) := by decide +kernel
theorem dX5_isFromOneTo_10 : decode cX5_isFromOneTo 10 = .ok (.iconst 1, 1) := by decide +kernel
theorem dX5_isFromOneTo_11 : decode cX5_isFromOneTo 11 = .ok (.goto 4, 3) := by decide +kernel
theorem dX5_isFromOneTo_14 : decode cX5_isFromOneTo 14 = .ok (.iconst 0, 1) := by decide +kernel
theorem dX5_isFromOneTo_15 : decode cX5_isFromOneTo 15 = .ok (.ireturn, 1) := by decide +kernel
theorem dX5_isPart_0 : decode cX5_isPart 0 = .ok (.iload_n 0, 1) := by decide +kernel
theorem dX5_isPart_1 : decode cX5_isPart 1 = .ok (.ifCond .eq 8, 3) := by decide +kernel
theorem dX5_isPart_4 : decode cX5_isPart 4 = .ok (.iload_n 0, 1) := by decide +kernel
theorem dX5_isPart_5 : decode cX5_isPart 5 = .ok (.iconst 1, 1) := by decide +kernel
theorem dX5_isPart_6 : decode cX5_isPart 6 = .ok (.if_icmp .ne 7, 3) := by decide +kernel
theorem dX5_isPart_9 : decode cX5_isPart 9 = .ok (.iconst 1, 1) := by decide +kernel
theorem dX5_isPart_10 : decode cX5_isPart 10 = .ok (.goto 4, 3) := by decide +kernel
theorem dX5_isPart_13 : decode cX5_isPart 13 = .ok (.iconst 0, 1) := by decide +kernel
theorem dX5_isPart_14 : decode cX5_isPart 14 = .ok (.ireturn, 1) := by decide +kernel
theorem dX5_codeAt_0 : decode cX5_codeAt 0 = .ok (.lload_n 0, 1) := by decide +kernel
theorem dX5_codeAt_1 : decode cX5_codeAt 1 = .ok (.bipush 8, 2) := by decide +kernel
theorem dX5_codeAt_3 : decode cX5_codeAt 3 = .ok (.iload_n 2, 1) := by decide +kernel
theorem dX5_codeAt_4 : decode cX5_codeAt 4 = .ok (.imul, 1) := by decide +kernel
theorem dX5_codeAt_5 : decode cX5_codeAt 5 = .ok (.lushr, 1) := by decide +kernel
theorem dX5_codeAt_6 : decode cX5_codeAt 6 = .ok (.ldc2_w 248, 3) := by decide +kernel
theorem dX5_codeAt_9 : decode cX5_codeAt 9 = .ok (.land, 1) := by decide +kernel
theorem dX5_codeAt_10 : decode cX5_codeAt 10 = .ok (.l2i, 1) := by decide +kernel
theorem dX5_codeAt_11 : decode cX5_codeAt 11 = .ok (.ireturn, 1) := by decide +kernel
set_option maxRecDepth 20000 in
theorem ggX5_lettersIn_X5_codeAt : GoodIn wsX5_lettersIn wsX5_codeAt := goodIn_r _ [4, 5] (by decide +kernel) (by decide +kernel)
set_option maxRecDepth 20000 in
theorem gX5_lettersIn_X5_codeAt : GoodIn wsX5_lettersIn (va_wsS RX5 58 yX5_codeAt wsX5_codeAt) := goodIn_app (goodIn_of _ (by decide +kernel)) ggX5_lettersIn_X5_codeAt
theorem dX5_lettersIn_0 : decode cX5_lettersIn 0 = .ok (.iconst 0, 1) := by decide +kernel
theorem dX5_lettersIn_1 : decode cX5_lettersIn 1 = .ok (.istore_n 2, 1) := by decide +kernel
theorem dX5_lettersIn_2 : decode cX5_lettersIn 2 = .ok (.iconst 0, 1) := by decide +kernel
theorem dX5_lettersIn_3 : decode cX5_lettersIn 3 = .ok (.istore_n 3, 1) := by decide +kernel
theorem dX5_lettersIn_4 : decode cX5_lettersIn 4 = .ok (.iload_n 3, 1) := by decide +kernel
theorem dX5_lettersIn_5 : decode cX5_lettersIn 5 = .ok (.bipush 8, 2) := by decide +kernel
theorem dX5_lettersIn_7 : decode cX5_lettersIn 7 = .ok (.if_icmp .ge 55, 3) := by decide +kernel
theorem dX5_lettersIn_10 : decode cX5_lettersIn 10 = .ok (.lload_n 0, 1) := by decide +kernel
theorem dX5_lettersIn_11 : decode cX5_lettersIn 11 = .ok (.iload_n 3, 1) := by decide +kernel
theorem dX5_lettersIn_12 : decode cX5_lettersIn 12 = .ok (.invokestatic 58, 3) := by decide +kernel
theorem dX5_lettersIn_15 : decode cX5_lettersIn 15 = .ok (.istore 4, 2) := by decide +kernel
theorem dX5_lettersIn_17 : decode cX5_lettersIn 17 = .ok (.iload_n 2, 1) := by decide +kernel
theorem dX5_lettersIn_18 : decode cX5_lettersIn 18 = .ok (.iload_n 3, 1) := by decide +kernel
theorem dX5_lettersIn_19 : decode cX5_lettersIn 19 = .ok (.if_icmp .ge 7, 3) := by decide +kernel
theorem dX5_lettersIn_22 : decode cX5_lettersIn 22 = .ok (.iconst 1, 1) := by decide +kernel
theorem dX5_lettersIn_23 : decode cX5_lettersIn 23 = .ok (.goto 4, 3) := by decide +kernel
theorem dX5_lettersIn_26 : decode cX5_lettersIn 26 = .ok (.iconst 0, 1) := by decide +kernel
theorem dX5_lettersIn_27 : decode cX5_lettersIn 27 = .ok (.istore 5, 2) := by decide +kernel
theorem dX5_lettersIn_29 : decode cX5_lettersIn 29 = .ok (.iload 4, 2) := by decide +kernel
theorem dX5_lettersIn_31 : decode cX5_lettersIn 31 = .ok (.bipush 126, 2) := by decide +kernel
theorem dX5_lettersIn_33 : decode cX5_lettersIn 33 = .ok (.if_icmp .gt 13, 3) := by decide +kernel
theorem dX5_lettersIn_36 : decode cX5_lettersIn 36 = .ok (.iload 4, 2) := by decide +kernel
theorem dX5_lettersIn_38 : decode cX5_lettersIn 38 = .ok (.ifCond .eq 10, 3) := by decide +kernel
theorem dX5_lettersIn_41 : decode cX5_lettersIn 41 = .ok (.iload 5, 2) := by decide +kernel
theorem dX5_lettersIn_43 : decode cX5_lettersIn 43 = .ok (.ifCond .eq 5, 3) := by decide +kernel
theorem dX5_lettersIn_46 : decode cX5_lettersIn 46 = .ok (.iconst (-1), 1) := by decide +kernel
theorem dX5_lettersIn_47 : decode cX5_lettersIn 47 = .ok (.ireturn, 1) := by decide +kernel
theorem dX5_lettersIn_48 : decode cX5_lettersIn 48 = .ok (.iload 4, 2) := by decide +kernel
theorem dX5_lettersIn_50 : decode cX5_lettersIn 50 = .ok (.ifCond .eq 6, 3) := by decide +kernel
theorem dX5_lettersIn_53 : decode cX5_lettersIn 53 = .ok (.iinc 2 1, 3) := by decide +kernel
theorem dX5_lettersIn_56 : decode cX5_lettersIn 56 = .ok (.iinc 3 1, 3) := by decide +kernel
theorem dX5_lettersIn_59 : decode cX5_lettersIn 59 = .ok (.goto (-55), 3) := by decide +kernel
theorem dX5_lettersIn_62 : decode cX5_lettersIn 62 = .ok (.iload_n 2, 1) := by decide +kernel
theorem dX5_lettersIn_63 : decode cX5_lettersIn 63 = .ok (.ireturn, 1) := by decide +kernel
theorem dX5_takenBy_0 : decode cX5_takenBy 0 = .ok (.iload_n 0, 1) := by decide +kernel
theorem dX5_takenBy_1 : decode cX5_takenBy 1 = .ok (.tableswitch 37 1 4 #[31, 35, 37, 35], 31) := by decide +kernel
theorem dX5_takenBy_32 : decode cX5_takenBy 32 = .ok (.iload_n 1, 1) := by decide +kernel
theorem dX5_takenBy_33 : decode cX5_takenBy 33 = .ok (.iconst 1, 1) := by decide +kernel
theorem dX5_takenBy_34 : decode cX5_takenBy 34 = .ok (.isub, 1) := by decide +kernel
theorem dX5_takenBy_35 : decode cX5_takenBy 35 = .ok (.ireturn, 1) := by decide +kernel
theorem dX5_takenBy_36 : decode cX5_takenBy 36 = .ok (.iconst 0, 1) := by decide +kernel
theorem dX5_takenBy_37 : decode cX5_takenBy 37 = .ok (.ireturn, 1) := by decide +kernel
theorem dX5_takenBy_38 : decode cX5_takenBy 38 = .ok (.iload_n 1, 1) := by decide +kernel
theorem dX5_takenBy_39 : decode cX5_takenBy 39 = .ok (.ireturn, 1) := by decide +kernel
set_option maxRecDepth 20000 in
theorem ggX5_partOf_X5_commonDivisor : GoodIn wsX5_partOf wsX5_commonDivisor := goodIn_r _ [9] (by decide +kernel) (by decide +kernel)
