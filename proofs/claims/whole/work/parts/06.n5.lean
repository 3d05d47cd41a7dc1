set_option maxRecDepth 20000 in
theorem ggX5_init_X0_init : GoodIn wsX5_init wsX0_init := goodIn_r _ [30, 31, 2, 3, 32, 33, 34, 35, 36, 37, 38, 39, 40, 41, 42, 43, 73, 74, 75, 76, 77, 78, 79, 80, 81, 82, 83, 84] (by decide +kernel) (by decide +kernel)
set_option maxRecDepth 20000 in
theorem gX5_init_X0_init : GoodIn wsX5_init (wsX0_init) := ggX5_init_X0_init
set_option maxRecDepth 20000 in
theorem ggX5_init_X4_init : GoodIn wsX5_init wsX4_init := goodIn_r _ [46, 47, 2, 3, 48, 49, 94, 95, 96] (by decide +kernel) (by decide +kernel)
set_option maxRecDepth 20000 in
theorem gX5_init_X4_init : GoodIn wsX5_init (wsX4_init) := ggX5_init_X4_init
set_option maxRecDepth 20000 in
theorem ggX5_init_X2_init : GoodIn wsX5_init wsX2_init := goodIn_r _ [52, 53, 2, 3, 32, 54, 97] (by decide +kernel) (by decide +kernel)
set_option maxRecDepth 20000 in
theorem gX5_init_X2_init : GoodIn wsX5_init (wsX2_init) := ggX5_init_X2_init
set_option maxRecDepth 20000 in
theorem ggX5_init_X1_init : GoodIn wsX5_init wsX1_init := goodIn_r _ [57, 58, 2, 3, 59, 5, 6, 60, 32, 61, 62, 29, 30, 31, 33, 34, 35, 36, 37, 38, 39, 40, 41, 42, 43, 73, 74, 75, 76, 77, 78, 79, 80, 81, 82, 83, 84, 98, 99, 100] (by decide +kernel) (by decide +kernel)
set_option maxRecDepth 20000 in
theorem gX5_init_X1_init : GoodIn wsX5_init (wsX1_init) := ggX5_init_X1_init
set_option maxRecDepth 20000 in
theorem ggX5_init_X3_init : GoodIn wsX5_init wsX3_init := goodIn_r _ [65, 66, 2, 3, 32, 67, 68, 69, 70, 71, 72, 101, 102, 103, 104, 105, 106, 107] (by decide +kernel) (by decide +kernel)
set_option maxRecDepth 20000 in
theorem gX5_init_X3_init : GoodIn wsX5_init (wsX3_init) := ggX5_init_X3_init
theorem dX5_init_0 : decode cX5_init 0 = .ok (.aload_n 0, 1) := by decide +kernel
theorem dX5_init_1 : decode cX5_init 1 = .ok (.invokespecial 1, 3) := by decide +kernel
theorem dX5_init_4 : decode cX5_init 4 = .ok (.aload_n 0, 1) := by decide +kernel
theorem dX5_init_5 : decode cX5_init 5 = .ok (.new 7, 3) := by decide +kernel
theorem dX5_init_8 : decode cX5_init 8 = .ok (.dup, 1) := by decide +kernel
theorem dX5_init_9 : decode cX5_init 9 = .ok (.invokespecial 9, 3) := by decide +kernel
theorem dX5_init_12 : decode cX5_init 12 = .ok (.putfield 10, 3) := by decide +kernel
theorem dX5_init_15 : decode cX5_init 15 = .ok (.aload_n 0, 1) := by decide +kernel
theorem dX5_init_16 : decode cX5_init 16 = .ok (.new 7, 3) := by decide +kernel
theorem dX5_init_19 : decode cX5_init 19 = .ok (.dup, 1) := by decide +kernel
theorem dX5_init_20 : decode cX5_init 20 = .ok (.invokespecial 9, 3) := by decide +kernel
theorem dX5_init_23 : decode cX5_init 23 = .ok (.putfield 16, 3) := by decide +kernel
theorem dX5_init_26 : decode cX5_init 26 = .ok (.aload_n 0, 1) := by decide +kernel
theorem dX5_init_27 : decode cX5_init 27 = .ok (.new 7, 3) := by decide +kernel
theorem dX5_init_30 : decode cX5_init 30 = .ok (.dup, 1) := by decide +kernel
theorem dX5_init_31 : decode cX5_init 31 = .ok (.invokespecial 9, 3) := by decide +kernel
theorem dX5_init_34 : decode cX5_init 34 = .ok (.putfield 19, 3) := by decide +kernel
theorem dX5_init_37 : decode cX5_init 37 = .ok (.aload_n 0, 1) := by decide +kernel
theorem dX5_init_38 : decode cX5_init 38 = .ok (.new 22, 3) := by decide +kernel
theorem dX5_init_41 : decode cX5_init 41 = .ok (.dup, 1) := by decide +kernel
theorem dX5_init_42 : decode cX5_init 42 = .ok (.invokespecial 24, 3) := by decide +kernel
theorem dX5_init_45 : decode cX5_init 45 = .ok (.putfield 25, 3) := by decide +kernel
theorem dX5_init_48 : decode cX5_init 48 = .ok (.aload_n 0, 1) := by decide +kernel
theorem dX5_init_49 : decode cX5_init 49 = .ok (.new 29, 3) := by decide +kernel
theorem dX5_init_52 : decode cX5_init 52 = .ok (.dup, 1) := by decide +kernel
theorem dX5_init_53 : decode cX5_init 53 = .ok (.invokespecial 31, 3) := by decide +kernel
theorem dX5_init_56 : decode cX5_init 56 = .ok (.putfield 32, 3) := by decide +kernel
theorem dX5_init_59 : decode cX5_init 59 = .ok (.aload_n 0, 1) := by decide +kernel
theorem dX5_init_60 : decode cX5_init 60 = .ok (.new 36, 3) := by decide +kernel
theorem dX5_init_63 : decode cX5_init 63 = .ok (.dup, 1) := by decide +kernel
theorem dX5_init_64 : decode cX5_init 64 = .ok (.invokespecial 38, 3) := by decide +kernel
theorem dX5_init_67 : decode cX5_init 67 = .ok (.putfield 39, 3) := by decide +kernel
theorem dX5_init_70 : decode cX5_init 70 = .ok (.aload_n 0, 1) := by decide +kernel
theorem dX5_init_71 : decode cX5_init 71 = .ok (.new 43, 3) := by decide +kernel
theorem dX5_init_74 : decode cX5_init 74 = .ok (.dup, 1) := by decide +kernel
theorem dX5_init_75 : decode cX5_init 75 = .ok (.invokespecial 45, 3) := by decide +kernel
theorem dX5_init_78 : decode cX5_init 78 = .ok (.putfield 46, 3) := by decide +kernel
theorem dX5_init_81 : decode cX5_init 81 = .ok (.aload_n 0, 1) := by decide +kernel
theorem dX5_init_82 : decode cX5_init 82 = .ok (.iconst 0, 1) := by decide +kernel
theorem dX5_init_83 : decode cX5_init 83 = .ok (.putfield 50, 3) := by decide +kernel
theorem dX5_init_86 : decode cX5_init 86 = .ok (.aload_n 0, 1) := by decide +kernel
theorem dX5_init_87 : decode cX5_init 87 = .ok (.iconst (-1), 1) := by decide +kernel
theorem dX5_init_88 : decode cX5_init 88 = .ok (.putfield 54, 3) := by decide +kernel
theorem dX5_init_91 : decode cX5_init 91 = .ok (.return_, 1) := by decide +kernel
set_option maxRecDepth 20000 in
theorem ggX5_append_X4_isWritable : GoodIn wsX5_append wsX4_isWritable := goodIn_r _ [9] (by decide +kernel) (by decide +kernel)
set_option maxRecDepth 20000 in
theorem gX5_append_X4_isWritable : GoodIn wsX5_append (va_wsS RX5 58 yX4_isWritable wsX4_isWritable) := goodIn_app (goodIn_of _ (by decide +kernel)) ggX5_append_X4_isWritable
set_option maxRecDepth 20000 in
theorem ggX5_append_X4_hasRoomFor : GoodIn wsX5_append wsX4_hasRoomFor := goodIn_r _ [13, 14, 29, 30, 31] (by decide +kernel) (by decide +kernel)
set_option maxRecDepth 20000 in
theorem gX5_append_X4_hasRoomFor : GoodIn wsX5_append (wsV RX5 69 RX4 yX4_hasRoomFor wsX4_hasRoomFor) := goodIn_app (goodIn_of _ (by decide +kernel)) ggX5_append_X4_hasRoomFor
set_option maxRecDepth 20000 in
theorem ggX5_append_X4_add : GoodIn wsX5_append wsX4_add := goodIn_r _ [18, 14, 19, 29, 30, 31] (by decide +kernel) (by decide +kernel)
set_option maxRecDepth 20000 in
theorem gX5_append_X4_add : GoodIn wsX5_append (wsV RX5 77 RX4 yX4_add wsX4_add) := goodIn_app (goodIn_of _ (by decide +kernel)) ggX5_append_X4_add
theorem dX5_append_0 : decode cX5_append 0 = .ok (.iload_n 1, 1) := by decide +kernel
theorem dX5_append_1 : decode cX5_append 1 = .ok (.invokestatic 58, 3) := by decide +kernel
theorem dX5_append_4 : decode cX5_append 4 = .ok (.ifCond .ne 13, 3) := by decide +kernel
theorem dX5_append_7 : decode cX5_append 7 = .ok (.new 62, 3) := by decide +kernel
theorem dX5_append_10 : decode cX5_append 10 = .ok (.dup, 1) := by decide +kernel
theorem dX5_append_11 : decode cX5_append 11 = .ok (.ldc 64, 2) := by decide +kernel
theorem dX5_append_13 : decode cX5_append 13 = .ok (.invokespecial 66, 3) := by decide +kernel
theorem dX5_append_16 : decode cX5_append 16 = .ok (.athrow, 1) := by decide +kernel
theorem dX5_append_17 : decode cX5_append 17 = .ok (.aload_n 0, 1) := by decide +kernel
theorem dX5_append_18 : decode cX5_append 18 = .ok (.getfield 25, 3) := by decide +kernel
theorem dX5_append_21 : decode cX5_append 21 = .ok (.iload_n 1, 1) := by decide +kernel
theorem dX5_append_22 : decode cX5_append 22 = .ok (.invokevirtual 69, 3) := by decide +kernel
theorem dX5_append_25 : decode cX5_append 25 = .ok (.ifCond .ne 13, 3) := by decide +kernel
theorem dX5_append_28 : decode cX5_append 28 = .ok (.new 72, 3) := by decide +kernel
theorem dX5_append_31 : decode cX5_append 31 = .ok (.dup, 1) := by decide +kernel
theorem dX5_append_32 : decode cX5_append 32 = .ok (.ldc 74, 2) := by decide +kernel
theorem dX5_append_34 : decode cX5_append 34 = .ok (.invokespecial 76, 3) := by decide +kernel
theorem dX5_append_37 : decode cX5_append 37 = .ok (.athrow, 1) := by decide +kernel
theorem dX5_append_38 : decode cX5_append 38 = .ok (.aload_n 0, 1) := by decide +kernel
theorem dX5_append_39 : decode cX5_append 39 = .ok (.getfield 25, 3) := by decide +kernel
theorem dX5_append_42 : decode cX5_append 42 = .ok (.iload_n 1, 1) := by decide +kernel
theorem dX5_append_43 : decode cX5_append 43 = .ok (.invokevirtual 77, 3) := by decide +kernel
theorem dX5_append_46 : decode cX5_append 46 = .ok (.aload_n 0, 1) := by decide +kernel
theorem dX5_append_47 : decode cX5_append 47 = .ok (.getfield 25, 3) := by decide +kernel
theorem dX5_append_50 : decode cX5_append 50 = .ok (.getfield 81, 3) := by decide +kernel
theorem dX5_append_53 : decode cX5_append 53 = .ok (.ireturn, 1) := by decide +kernel
set_option maxRecDepth 20000 in
theorem ggX5_execute_X0_copyFrom : GoodIn wsX5_execute wsX0_copyFrom := goodIn_r _ [11, 12, 13, 14, 15, 16, 17, 18, 19, 20, 10, 21, 22, 23, 24, 25, 26, 87, 88, 89, 90, 91, 92, 93, 94, 95, 96, 97, 98] (by decide +kernel) (by decide +kernel)
set_option maxRecDepth 20000 in
theorem gX5_execute_X0_copyFrom : GoodIn wsX5_execute (wsV RX5 84 RX0 yX0_copyFrom wsX0_copyFrom) := goodIn_app (goodIn_of _ (by decide +kernel)) ggX5_execute_X0_copyFrom
set_option maxRecDepth 20000 in
theorem ggX5_execute_X4_readInto : GoodIn wsX5_execute wsX4_readInto := goodIn_r _ [31, 32, 33, 34, 35, 36, 30, 37, 38, 39, 40, 41, 42, 43, 44, 45, 46, 47, 48, 49, 50, 51, 52, 53, 54, 55, 56, 57, 10, 58, 12, 13, 14, 15, 59, 60, 61, 62, 63, 64, 65, 66, 67, 68, 69, 70, 71, 72, 73, 74, 16, 22, 23, 24, 25, 26, 84, 85, 86, 87, 88, 89, 90, 91, 92, 93, 94, 95, 96, 97, 98] (by decide +kernel) (by decide +kernel)
set_option maxRecDepth 20000 in
theorem gX5_execute_X4_readInto : GoodIn wsX5_execute (wsV RX5 88 RX4 yX4_readInto wsX4_readInto) := goodIn_app (goodIn_of _ (by decide +kernel)) ggX5_execute_X4_readInto
theorem dX5_execute_0 : decode cX5_execute 0 = .ok (.aload_n 0, 1) := by decide +kernel
theorem dX5_execute_1 : decode cX5_execute 1 = .ok (.getfield 19, 3) := by decide +kernel
theorem dX5_execute_4 : decode cX5_execute 4 = .ok (.aload_n 0, 1) := by decide +kernel
theorem dX5_execute_5 : decode cX5_execute 5 = .ok (.getfield 10, 3) := by decide +kernel
theorem dX5_execute_8 : decode cX5_execute 8 = .ok (.invokevirtual 84, 3) := by decide +kernel
theorem dX5_execute_11 : decode cX5_execute 11 = .ok (.aload_n 0, 1) := by decide +kernel
theorem dX5_execute_12 : decode cX5_execute 12 = .ok (.getfield 25, 3) := by decide +kernel
theorem dX5_execute_15 : decode cX5_execute 15 = .ok (.aload_n 0, 1) := by decide +kernel
theorem dX5_execute_16 : decode cX5_execute 16 = .ok (.getfield 19, 3) := by decide +kernel
theorem dX5_execute_19 : decode cX5_execute 19 = .ok (.invokevirtual 88, 3) := by decide +kernel
theorem dX5_execute_22 : decode cX5_execute 22 = .ok (.istore_n 1, 1) := by decide +kernel
theorem dX5_execute_23 : decode cX5_execute 23 = .ok (.aload_n 0, 1) := by decide +kernel
theorem dX5_execute_24 : decode cX5_execute 24 = .ok (.getfield 25, 3) := by decide +kernel
theorem dX5_execute_27 : decode cX5_execute 27 = .ok (.iconst 0, 1) := by decide +kernel
theorem dX5_execute_28 : decode cX5_execute 28 = .ok (.putfield 81, 3) := by decide +kernel
theorem dX5_execute_31 : decode cX5_execute 31 = .ok (.iload_n 1, 1) := by decide +kernel
theorem dX5_execute_32 : decode cX5_execute 32 = .ok (.iconst (-1), 1) := by decide +kernel
theorem dX5_execute_33 : decode cX5_execute 33 = .ok (.if_icmp .ne 24, 3) := by decide +kernel
theorem dX5_execute_36 : decode cX5_execute 36 = .ok (.aload_n 0, 1) := by decide +kernel
theorem dX5_execute_37 : decode cX5_execute 37 = .ok (.aload_n 0, 1) := by decide +kernel
theorem dX5_execute_38 : decode cX5_execute 38 = .ok (.getfield 25, 3) := by decide +kernel
theorem dX5_execute_41 : decode cX5_execute 41 = .ok (.getfield 92, 3) := by decide +kernel
theorem dX5_execute_44 : decode cX5_execute 44 = .ok (.putfield 54, 3) := by decide +kernel
theorem dX5_execute_47 : decode cX5_execute 47 = .ok (.new 62, 3) := by decide +kernel
theorem dX5_execute_50 : decode cX5_execute 50 = .ok (.dup, 1) := by decide +kernel
theorem dX5_execute_51 : decode cX5_execute 51 = .ok (.ldc 95, 2) := by decide +kernel
theorem dX5_execute_53 : decode cX5_execute 53 = .ok (.invokespecial 66, 3) := by decide +kernel
theorem dX5_execute_56 : decode cX5_execute 56 = .ok (.athrow, 1) := by decide +kernel
theorem dX5_execute_57 : decode cX5_execute 57 = .ok (.aload_n 0, 1) := by decide +kernel
theorem dX5_execute_58 : decode cX5_execute 58 = .ok (.iconst (-1), 1) := by decide +kernel
theorem dX5_execute_59 : decode cX5_execute 59 = .ok (.putfield 54, 3) := by decide +kernel
theorem dX5_execute_62 : decode cX5_execute 62 = .ok (.aload_n 0, 1) := by decide +kernel
theorem dX5_execute_63 : decode cX5_execute 63 = .ok (.getfield 10, 3) := by decide +kernel
theorem dX5_execute_66 : decode cX5_execute 66 = .ok (.aload_n 0, 1) := by decide +kernel
theorem dX5_execute_67 : decode cX5_execute 67 = .ok (.getfield 19, 3) := by decide +kernel
theorem dX5_execute_70 : decode cX5_execute 70 = .ok (.invokevirtual 84, 3) := by decide +kernel
theorem dX5_execute_73 : decode cX5_execute 73 = .ok (.iload_n 1, 1) := by decide +kernel
theorem dX5_execute_74 : decode cX5_execute 74 = .ok (.ireturn, 1) := by decide +kernel
theorem dX5_errorPosition_0 : decode cX5_errorPosition 0 = .ok (.aload_n 0, 1) := by decide +kernel
theorem dX5_errorPosition_1 : decode cX5_errorPosition 1 = .ok (.getfield 54, 3) := by decide +kernel
theorem dX5_errorPosition_4 : decode cX5_errorPosition 4 = .ok (.ireturn, 1) := by decide +kernel
set_option maxRecDepth 20000 in
theorem ggX5_setCost_X0_hasStatement : GoodIn wsX5_setCost wsX0_hasStatement := goodIn_r _ [10, 11, 21, 22, 23, 24, 25, 26, 27, 28, 29, 30, 31, 32] (by decide +kernel) (by decide +kernel)
set_option maxRecDepth 20000 in
theorem gX5_setCost_X0_hasStatement : GoodIn wsX5_setCost (wsV RX5 97 RX0 yX0_hasStatement wsX0_hasStatement) := goodIn_app (goodIn_of _ (by decide +kernel)) ggX5_setCost_X0_hasStatement
theorem dX5_setCost_0 : decode cX5_setCost 0 = .ok (.aload_n 0, 1) := by decide +kernel
theorem dX5_setCost_1 : decode cX5_setCost 1 = .ok (.getfield 10, 3) := by decide +kernel
theorem dX5_setCost_4 : decode cX5_setCost 4 = .ok (.iload_n 1, 1) := by decide +kernel
theorem dX5_setCost_5 : decode cX5_setCost 5 = .ok (.invokevirtual 97, 3) := by decide +kernel
theorem dX5_setCost_8 : decode cX5_setCost 8 = .ok (.ifCond .ne 13, 3) := by decide +kernel
theorem dX5_setCost_11 : decode cX5_setCost 11 = .ok (.new 100, 3) := by decide +kernel
theorem dX5_setCost_14 : decode cX5_setCost 14 = .ok (.dup, 1) := by decide +kernel
theorem dX5_setCost_15 : decode cX5_setCost 15 = .ok (.ldc 102, 2) := by decide +kernel
theorem dX5_setCost_17 : decode cX5_setCost 17 = .ok (.invokespecial 104, 3) := by decide +kernel
theorem dX5_setCost_20 : decode cX5_setCost 20 = .ok (.athrow, 1) := by decide +kernel
theorem dX5_setCost_21 : decode cX5_setCost 21 = .ok (.iload_n 2, 1) := by decide +kernel
theorem dX5_setCost_22 : decode cX5_setCost 22 = .ok (.iconst 1, 1) := by decide +kernel
theorem dX5_setCost_23 : decode cX5_setCost 23 = .ok (.if_icmp .lt 9, 3) := by decide +kernel
theorem dX5_setCost_26 : decode cX5_setCost 26 = .ok (.iload_n 2, 1) := by decide +kernel
theorem dX5_setCost_27 : decode cX5_setCost 27 = .ok (.bipush 9, 2) := by decide +kernel
theorem dX5_setCost_29 : decode cX5_setCost 29 = .ok (.if_icmp .le 13, 3) := by decide +kernel
theorem dX5_setCost_32 : decode cX5_setCost 32 = .ok (.new 62, 3) := by decide +kernel
theorem dX5_setCost_35 : decode cX5_setCost 35 = .ok (.dup, 1) := by decide +kernel
theorem dX5_setCost_36 : decode cX5_setCost 36 = .ok (.ldc 105, 2) := by decide +kernel
theorem dX5_setCost_38 : decode cX5_setCost 38 = .ok (.invokespecial 66, 3) := by decide +kernel
theorem dX5_setCost_41 : decode cX5_setCost 41 = .ok (.athrow, 1) := by decide +kernel
theorem dX5_setCost_42 : decode cX5_setCost 42 = .ok (.aload_n 0, 1) := by decide +kernel
theorem dX5_setCost_43 : decode cX5_setCost 43 = .ok (.getfield 10, 3) := by decide +kernel
theorem dX5_setCost_46 : decode cX5_setCost 46 = .ok (.getfield 107, 3) := by decide +kernel
theorem dX5_setCost_49 : decode cX5_setCost 49 = .ok (.iload_n 1, 1) := by decide +kernel
theorem dX5_setCost_50 : decode cX5_setCost 50 = .ok (.iaload, 1) := by decide +kernel
theorem dX5_setCost_51 : decode cX5_setCost 51 = .ok (.istore_n 3, 1) := by decide +kernel
theorem dX5_setCost_52 : decode cX5_setCost 52 = .ok (.aload_n 0, 1) := by decide +kernel
theorem dX5_setCost_53 : decode cX5_setCost 53 = .ok (.getfield 10, 3) := by decide +kernel
theorem dX5_setCost_56 : decode cX5_setCost 56 = .ok (.getfield 107, 3) := by decide +kernel
theorem dX5_setCost_59 : decode cX5_setCost 59 = .ok (.iload_n 1, 1) := by decide +kernel
theorem dX5_setCost_60 : decode cX5_setCost 60 = .ok (.iload_n 2, 1) := by decide +kernel
theorem dX5_setCost_61 : decode cX5_setCost 61 = .ok (.iastore, 1) := by decide +kernel
theorem dX5_setCost_62 : decode cX5_setCost 62 = .ok (.iload_n 3, 1) := by decide +kernel
theorem dX5_setCost_63 : decode cX5_setCost 63 = .ok (.ireturn, 1) := by decide +kernel
theorem dX5_set_0 : decode cX5_set 0 = .ok (.iload_n 1, 1) := by decide +kernel
theorem dX5_set_1 : decode cX5_set 1 = .ok (.ifCond .lt 8, 3) := by decide +kernel
theorem dX5_set_4 : decode cX5_set 4 = .ok (.iload_n 1, 1) := by decide +kernel
theorem dX5_set_5 : decode cX5_set 5 = .ok (.iconst 4, 1) := by decide +kernel
theorem dX5_set_6 : decode cX5_set 6 = .ok (.if_icmp .lt 13, 3) := by decide +kernel
theorem dX5_set_9 : decode cX5_set 9 = .ok (.new 62, 3) := by decide +kernel
theorem dX5_set_12 : decode cX5_set 12 = .ok (.dup, 1) := by decide +kernel
theorem dX5_set_13 : decode cX5_set 13 = .ok (.ldc 111, 2) := by decide +kernel
theorem dX5_set_15 : decode cX5_set 15 = .ok (.invokespecial 66, 3) := by decide +kernel
theorem dX5_set_18 : decode cX5_set 18 = .ok (.athrow, 1) := by decide +kernel
theorem dX5_set_19 : decode cX5_set 19 = .ok (.iload_n 2, 1) := by decide +kernel
theorem dX5_set_20 : decode cX5_set 20 = .ok (.getstatic 113, 3) := by decide +kernel
theorem dX5_set_23 : decode cX5_set 23 = .ok (.iload_n 1, 1) := by decide +kernel
theorem dX5_set_24 : decode cX5_set 24 = .ok (.iaload, 1) := by decide +kernel
theorem dX5_set_25 : decode cX5_set 25 = .ok (.if_icmp .lt 12, 3) := by decide +kernel
theorem dX5_set_28 : decode cX5_set 28 = .ok (.iload_n 2, 1) := by decide +kernel
theorem dX5_set_29 : decode cX5_set 29 = .ok (.getstatic 116, 3) := by decide +kernel
theorem dX5_set_32 : decode cX5_set 32 = .ok (.iload_n 1, 1) := by decide +kernel
theorem dX5_set_33 : decode cX5_set 33 = .ok (.iaload, 1) := by decide +kernel
theorem dX5_set_34 : decode cX5_set 34 = .ok (.if_icmp .le 13, 3) := by decide +kernel
theorem dX5_set_37 : decode cX5_set 37 = .ok (.new 62, 3) := by decide +kernel
theorem dX5_set_40 : decode cX5_set 40 = .ok (.dup, 1) := by decide +kernel
theorem dX5_set_41 : decode cX5_set 41 = .ok (.ldc 119, 2) := by decide +kernel
theorem dX5_set_43 : decode cX5_set 43 = .ok (.invokespecial 66, 3) := by decide +kernel
theorem dX5_set_46 : decode cX5_set 46 = .ok (.athrow, 1) := by decide +kernel
theorem dX5_set_47 : decode cX5_set 47 = .ok (.aload_n 0, 1) := by decide +kernel
theorem dX5_set_48 : decode cX5_set 48 = .ok (.getfield 10, 3) := by decide +kernel
theorem dX5_set_51 : decode cX5_set 51 = .ok (.getfield 121, 3) := by decide +kernel
theorem dX5_set_54 : decode cX5_set 54 = .ok (.iload_n 1, 1) := by decide +kernel
theorem dX5_set_55 : decode cX5_set 55 = .ok (.iaload, 1) := by decide +kernel
theorem dX5_set_56 : decode cX5_set 56 = .ok (.istore_n 3, 1) := by decide +kernel
theorem dX5_set_57 : decode cX5_set 57 = .ok (.aload_n 0, 1) := by decide +kernel
theorem dX5_set_58 : decode cX5_set 58 = .ok (.getfield 10, 3) := by decide +kernel
theorem dX5_set_61 : decode cX5_set 61 = .ok (.getfield 121, 3) := by decide +kernel
theorem dX5_set_64 : decode cX5_set 64 = .ok (.iload_n 1, 1) := by decide +kernel
theorem dX5_set_65 : decode cX5_set 65 = .ok (.iload_n 2, 1) := by decide +kernel
theorem dX5_set_66 : decode cX5_set 66 = .ok (.iastore, 1) := by decide +kernel
theorem dX5_set_67 : decode cX5_set 67 = .ok (.iload_n 3, 1) := by decide +kernel
theorem dX5_set_68 : decode cX5_set 68 = .ok (.ireturn, 1) := by decide +kernel
set_option maxRecDepth 20000 in
theorem ggX5_exchange_X0_statementAt : GoodIn wsX5_exchange wsX0_statementAt := goodIn_r _ [10, 11, 48, 49, 50, 51, 52, 53, 54, 55, 56, 57, 58, 59] (by decide +kernel) (by decide +kernel)
set_option maxRecDepth 20000 in
theorem gX5_exchange_X0_statementAt : GoodIn wsX5_exchange (wsV RX5 129 RX0 yX0_statementAt wsX0_statementAt) := goodIn_app (goodIn_of _ (by decide +kernel)) ggX5_exchange_X0_statementAt
set_option maxRecDepth 20000 in
theorem ggX5_exchange_X0_isOrdered : GoodIn wsX5_exchange wsX0_isOrdered := goodIn_r _ [15, 16, 17, 18, 19, 48, 49, 50, 51, 52, 53, 54, 55, 56, 57, 58, 59] (by decide +kernel) (by decide +kernel)
set_option maxRecDepth 20000 in
theorem gX5_exchange_X0_isOrdered : GoodIn wsX5_exchange (wsV RX5 133 RX0 yX0_isOrdered wsX0_isOrdered) := goodIn_app (goodIn_of _ (by decide +kernel)) ggX5_exchange_X0_isOrdered
set_option maxRecDepth 20000 in
theorem ggX5_exchange_X0_swap : GoodIn wsX5_exchange wsX0_swap := goodIn_r _ [23, 24, 7, 8, 9, 10, 11, 25, 26, 27, 28, 29, 30, 31, 32, 33, 34, 35, 36, 37, 38, 48, 49, 50, 51, 52, 53, 54, 55, 56, 57, 58, 59] (by decide +kernel) (by decide +kernel)
set_option maxRecDepth 20000 in
theorem gX5_exchange_X0_swap : GoodIn wsX5_exchange (wsV RX5 139 RX0 yX0_swap wsX0_swap) := goodIn_app (goodIn_of _ (by decide +kernel)) ggX5_exchange_X0_swap
theorem dX5_exchange_0 : decode cX5_exchange 0 = .ok (.iload_n 1, 1) := by decide +kernel
theorem dX5_exchange_1 : decode cX5_exchange 1 = .ok (.ifCond .lt 16, 3) := by decide +kernel
theorem dX5_exchange_4 : decode cX5_exchange 4 = .ok (.iload_n 1, 1) := by decide +kernel
theorem dX5_exchange_5 : decode cX5_exchange 5 = .ok (.aload_n 0, 1) := by decide +kernel
theorem dX5_exchange_6 : decode cX5_exchange 6 = .ok (.getfield 10, 3) := by decide +kernel
theorem dX5_exchange_9 : decode cX5_exchange 9 = .ok (.getfield 124, 3) := by decide +kernel
theorem dX5_exchange_12 : decode cX5_exchange 12 = .ok (.iconst 1, 1) := by decide +kernel
theorem dX5_exchange_13 : decode cX5_exchange 13 = .ok (.isub, 1) := by decide +kernel
theorem dX5_exchange_14 : decode cX5_exchange 14 = .ok (.if_icmp .lt 13, 3) := by decide +kernel
theorem dX5_exchange_17 : decode cX5_exchange 17 = .ok (.new 100, 3) := by decide +kernel
theorem dX5_exchange_20 : decode cX5_exchange 20 = .ok (.dup, 1) := by decide +kernel
theorem dX5_exchange_21 : decode cX5_exchange 21 = .ok (.ldc 127, 2) := by decide +kernel
theorem dX5_exchange_23 : decode cX5_exchange 23 = .ok (.invokespecial 104, 3) := by decide +kernel
theorem dX5_exchange_26 : decode cX5_exchange 26 = .ok (.athrow, 1) := by decide +kernel
theorem dX5_exchange_27 : decode cX5_exchange 27 = .ok (.aload_n 0, 1) := by decide +kernel
theorem dX5_exchange_28 : decode cX5_exchange 28 = .ok (.getfield 10, 3) := by decide +kernel
theorem dX5_exchange_31 : decode cX5_exchange 31 = .ok (.aload_n 0, 1) := by decide +kernel
theorem dX5_exchange_32 : decode cX5_exchange 32 = .ok (.getfield 10, 3) := by decide +kernel
theorem dX5_exchange_35 : decode cX5_exchange 35 = .ok (.iload_n 1, 1) := by decide +kernel
theorem dX5_exchange_36 : decode cX5_exchange 36 = .ok (.invokevirtual 129, 3) := by decide +kernel
theorem dX5_exchange_39 : decode cX5_exchange 39 = .ok (.aload_n 0, 1) := by decide +kernel
theorem dX5_exchange_40 : decode cX5_exchange 40 = .ok (.getfield 10, 3) := by decide +kernel
theorem dX5_exchange_43 : decode cX5_exchange 43 = .ok (.iload_n 1, 1) := by decide +kernel
theorem dX5_exchange_44 : decode cX5_exchange 44 = .ok (.iconst 1, 1) := by decide +kernel
theorem dX5_exchange_45 : decode cX5_exchange 45 = .ok (.iadd, 1) := by decide +kernel
theorem dX5_exchange_46 : decode cX5_exchange 46 = .ok (.invokevirtual 129, 3) := by decide +kernel
theorem dX5_exchange_49 : decode cX5_exchange 49 = .ok (.invokevirtual 133, 3) := by decide +kernel
theorem dX5_exchange_52 : decode cX5_exchange 52 = .ok (.ifCond .eq 13, 3) := by decide +kernel
theorem dX5_exchange_55 : decode cX5_exchange 55 = .ok (.new 72, 3) := by decide +kernel
theorem dX5_exchange_58 : decode cX5_exchange 58 = .ok (.dup, 1) := by decide +kernel
theorem dX5_exchange_59 : decode cX5_exchange 59 = .ok (.ldc 137, 2) := by decide +kernel
theorem dX5_exchange_61 : decode cX5_exchange 61 = .ok (.invokespecial 76, 3) := by decide +kernel
theorem dX5_exchange_64 : decode cX5_exchange 64 = .ok (.athrow, 1) := by decide +kernel
theorem dX5_exchange_65 : decode cX5_exchange 65 = .ok (.aload_n 0, 1) := by decide +kernel
theorem dX5_exchange_66 : decode cX5_exchange 66 = .ok (.getfield 10, 3) := by decide +kernel
theorem dX5_exchange_69 : decode cX5_exchange 69 = .ok (.iload_n 1, 1) := by decide +kernel
theorem dX5_exchange_70 : decode cX5_exchange 70 = .ok (.iload_n 1, 1) := by decide +kernel
theorem dX5_exchange_71 : decode cX5_exchange 71 = .ok (.iconst 1, 1) := by decide +kernel
theorem dX5_exchange_72 : decode cX5_exchange 72 = .ok (.iadd, 1) := by decide +kernel
theorem dX5_exchange_73 : decode cX5_exchange 73 = .ok (.invokevirtual 139, 3) := by decide +kernel
theorem dX5_exchange_76 : decode cX5_exchange 76 = .ok (.aload_n 0, 1) := by decide +kernel
theorem dX5_exchange_77 : decode cX5_exchange 77 = .ok (.getfield 10, 3) := by decide +kernel
theorem dX5_exchange_80 : decode cX5_exchange 80 = .ok (.iload_n 1, 1) := by decide +kernel
theorem dX5_exchange_81 : decode cX5_exchange 81 = .ok (.invokevirtual 129, 3) := by decide +kernel
theorem dX5_exchange_84 : decode cX5_exchange 84 = .ok (.ireturn, 1) := by decide +kernel
set_option maxRecDepth 20000 in
theorem ggX5_remove_X0_hasDependence : GoodIn wsX5_remove wsX0_hasDependence := goodIn_r _ [8, 9, 33, 34, 35, 36, 37, 38, 39, 40, 41, 42, 43, 44] (by decide +kernel) (by decide +kernel)
set_option maxRecDepth 20000 in
theorem gX5_remove_X0_hasDependence : GoodIn wsX5_remove (wsV RX5 143 RX0 yX0_hasDependence wsX0_hasDependence) := goodIn_app (goodIn_of _ (by decide +kernel)) ggX5_remove_X0_hasDependence
set_option maxRecDepth 20000 in
theorem ggX5_remove_X0_dropDependence : GoodIn wsX5_remove wsX0_dropDependence := goodIn_r _ [13, 9, 14, 5, 6, 7, 8, 15, 16, 17, 18, 19, 20, 21, 22, 23, 33, 34, 35, 36, 37, 38, 39, 40, 41, 42, 43, 44] (by decide +kernel) (by decide +kernel)
set_option maxRecDepth 20000 in
theorem gX5_remove_X0_dropDependence : GoodIn wsX5_remove (wsV RX5 148 RX0 yX0_dropDependence wsX0_dropDependence) := goodIn_app (goodIn_of _ (by decide +kernel)) ggX5_remove_X0_dropDependence
theorem dX5_remove_0 : decode cX5_remove 0 = .ok (.aload_n 0, 1) := by decide +kernel
theorem dX5_remove_1 : decode cX5_remove 1 = .ok (.getfield 10, 3) := by decide +kernel
theorem dX5_remove_4 : decode cX5_remove 4 = .ok (.iload_n 1, 1) := by decide +kernel
theorem dX5_remove_5 : decode cX5_remove 5 = .ok (.invokevirtual 143, 3) := by decide +kernel
theorem dX5_remove_8 : decode cX5_remove 8 = .ok (.ifCond .ne 13, 3) := by decide +kernel
theorem dX5_remove_11 : decode cX5_remove 11 = .ok (.new 100, 3) := by decide +kernel
theorem dX5_remove_14 : decode cX5_remove 14 = .ok (.dup, 1) := by decide +kernel
theorem dX5_remove_15 : decode cX5_remove 15 = .ok (.ldc 146, 2) := by decide +kernel
theorem dX5_remove_17 : decode cX5_remove 17 = .ok (.invokespecial 104, 3) := by decide +kernel
theorem dX5_remove_20 : decode cX5_remove 20 = .ok (.athrow, 1) := by decide +kernel
theorem dX5_remove_21 : decode cX5_remove 21 = .ok (.aload_n 0, 1) := by decide +kernel
theorem dX5_remove_22 : decode cX5_remove 22 = .ok (.getfield 10, 3) := by decide +kernel
theorem dX5_remove_25 : decode cX5_remove 25 = .ok (.iload_n 1, 1) := by decide +kernel
theorem dX5_remove_26 : decode cX5_remove 26 = .ok (.invokevirtual 148, 3) := by decide +kernel
theorem dX5_remove_29 : decode cX5_remove 29 = .ok (.aload_n 0, 1) := by decide +kernel
theorem dX5_remove_30 : decode cX5_remove 30 = .ok (.getfield 10, 3) := by decide +kernel
theorem dX5_remove_33 : decode cX5_remove 33 = .ok (.getfield 151, 3) := by decide +kernel
theorem dX5_remove_36 : decode cX5_remove 36 = .ok (.ireturn, 1) := by decide +kernel
set_option maxRecDepth 20000 in
theorem ggX5_statement_X0_hasStatement : GoodIn wsX5_statement wsX0_hasStatement := goodIn_r _ [10, 11, 42, 43, 44, 45, 46, 47, 48, 49, 50, 51, 52, 53] (by decide +kernel) (by decide +kernel)
set_option maxRecDepth 20000 in
theorem gX5_statement_X0_hasStatement : GoodIn wsX5_statement (wsV RX5 97 RX0 yX0_hasStatement wsX0_hasStatement) := goodIn_app (goodIn_of _ (by decide +kernel)) ggX5_statement_X0_hasStatement
set_option maxRecDepth 20000 in
theorem ggX5_statement_X0_costOf : GoodIn wsX5_statement wsX0_costOf := goodIn_r _ [15, 16, 42, 43, 44, 45, 46, 47, 48, 49, 50, 51, 52, 53] (by decide +kernel) (by decide +kernel)
set_option maxRecDepth 20000 in
theorem gX5_statement_X0_costOf : GoodIn wsX5_statement (wsV RX5 154 RX0 yX0_costOf wsX0_costOf) := goodIn_app (goodIn_of _ (by decide +kernel)) ggX5_statement_X0_costOf
set_option maxRecDepth 20000 in
theorem ggX5_statement_X0_positionOf : GoodIn wsX5_statement wsX0_positionOf := goodIn_r _ [20, 21, 42, 43, 44, 45, 46, 47, 48, 49, 50, 51, 52, 53] (by decide +kernel) (by decide +kernel)
set_option maxRecDepth 20000 in
theorem gX5_statement_X0_positionOf : GoodIn wsX5_statement (wsV RX5 157 RX0 yX0_positionOf wsX0_positionOf) := goodIn_app (goodIn_of _ (by decide +kernel)) ggX5_statement_X0_positionOf
set_option maxRecDepth 20000 in
theorem ggX5_statement_X0_measureOffsets : GoodIn wsX5_statement wsX0_measureOffsets := goodIn_r _ [25, 11, 26, 27, 16, 28, 7, 8, 9, 10, 42, 43, 44, 45, 46, 47, 48, 49, 50, 51, 52, 53] (by decide +kernel) (by decide +kernel)
set_option maxRecDepth 20000 in
theorem gX5_statement_X0_measureOffsets : GoodIn wsX5_statement (wsV RX5 160 RX0 yX0_measureOffsets wsX0_measureOffsets) := goodIn_app (goodIn_of _ (by decide +kernel)) ggX5_statement_X0_measureOffsets
set_option maxRecDepth 20000 in
theorem ggX5_statement_X0_offsetOf : GoodIn wsX5_statement wsX0_offsetOf := goodIn_r _ [32, 27, 42, 43, 44, 45, 46, 47, 48, 49, 50, 51, 52, 53] (by decide +kernel) (by decide +kernel)
set_option maxRecDepth 20000 in
theorem gX5_statement_X0_offsetOf : GoodIn wsX5_statement (wsV RX5 163 RX0 yX0_offsetOf wsX0_offsetOf) := goodIn_app (goodIn_of _ (by decide +kernel)) ggX5_statement_X0_offsetOf
theorem dX5_statement_0 : decode cX5_statement 0 = .ok (.aload_n 0, 1) := by decide +kernel
theorem dX5_statement_1 : decode cX5_statement 1 = .ok (.getfield 10, 3) := by decide +kernel
theorem dX5_statement_4 : decode cX5_statement 4 = .ok (.iload_n 1, 1) := by decide +kernel
theorem dX5_statement_5 : decode cX5_statement 5 = .ok (.invokevirtual 97, 3) := by decide +kernel
theorem dX5_statement_8 : decode cX5_statement 8 = .ok (.ifCond .ne 13, 3) := by decide +kernel
theorem dX5_statement_11 : decode cX5_statement 11 = .ok (.new 100, 3) := by decide +kernel
theorem dX5_statement_14 : decode cX5_statement 14 = .ok (.dup, 1) := by decide +kernel
theorem dX5_statement_15 : decode cX5_statement 15 = .ok (.ldc 102, 2) := by decide +kernel
theorem dX5_statement_17 : decode cX5_statement 17 = .ok (.invokespecial 104, 3) := by decide +kernel
theorem dX5_statement_20 : decode cX5_statement 20 = .ok (.athrow, 1) := by decide +kernel
theorem dX5_statement_21 : decode cX5_statement 21 = .ok (.iload_n 2, 1) := by decide +kernel
theorem dX5_statement_22 : decode cX5_statement 22 = .ok (.tableswitch 60 0 2 #[26, 35, 44], 26) := by decide +kernel
theorem dX5_statement_48 : decode cX5_statement 48 = .ok (.aload_n 0, 1) := by decide +kernel
theorem dX5_statement_49 : decode cX5_statement 49 = .ok (.getfield 10, 3) := by decide +kernel
theorem dX5_statement_52 : decode cX5_statement 52 = .ok (.iload_n 1, 1) := by decide +kernel
theorem dX5_statement_53 : decode cX5_statement 53 = .ok (.invokevirtual 154, 3) := by decide +kernel
theorem dX5_statement_56 : decode cX5_statement 56 = .ok (.ireturn, 1) := by decide +kernel
theorem dX5_statement_57 : decode cX5_statement 57 = .ok (.aload_n 0, 1) := by decide +kernel
theorem dX5_statement_58 : decode cX5_statement 58 = .ok (.getfield 10, 3) := by decide +kernel
theorem dX5_statement_61 : decode cX5_statement 61 = .ok (.iload_n 1, 1) := by decide +kernel
theorem dX5_statement_62 : decode cX5_statement 62 = .ok (.invokevirtual 157, 3) := by decide +kernel
theorem dX5_statement_65 : decode cX5_statement 65 = .ok (.ireturn, 1) := by decide +kernel
theorem dX5_statement_66 : decode cX5_statement 66 = .ok (.aload_n 0, 1) := by decide +kernel
theorem dX5_statement_67 : decode cX5_statement 67 = .ok (.getfield 10, 3) := by decide +kernel
theorem dX5_statement_70 : decode cX5_statement 70 = .ok (.invokevirtual 160, 3) := by decide +kernel
theorem dX5_statement_73 : decode cX5_statement 73 = .ok (.aload_n 0, 1) := by decide +kernel
theorem dX5_statement_74 : decode cX5_statement 74 = .ok (.getfield 10, 3) := by decide +kernel
theorem dX5_statement_77 : decode cX5_statement 77 = .ok (.iload_n 1, 1) := by decide +kernel
theorem dX5_statement_78 : decode cX5_statement 78 = .ok (.invokevirtual 163, 3) := by decide +kernel
theorem dX5_statement_81 : decode cX5_statement 81 = .ok (.ireturn, 1) := by decide +kernel
theorem dX5_statement_82 : decode cX5_statement 82 = .ok (.new 62, 3) := by decide +kernel
theorem dX5_statement_85 : decode cX5_statement 85 = .ok (.dup, 1) := by decide +kernel
theorem dX5_statement_86 : decode cX5_statement 86 = .ok (.ldc 166, 2) := by decide +kernel
theorem dX5_statement_88 : decode cX5_statement 88 = .ok (.invokespecial 66, 3) := by decide +kernel
theorem dX5_statement_91 : decode cX5_statement 91 = .ok (.athrow, 1) := by decide +kernel
set_option maxRecDepth 20000 in
theorem ggX5_dependence_X0_hasDependence : GoodIn wsX5_dependence wsX0_hasDependence := goodIn_r _ [10, 11, 39, 40, 41, 42, 43, 44, 45, 46, 47, 48, 49, 50] (by decide +kernel) (by decide +kernel)
set_option maxRecDepth 20000 in
theorem gX5_dependence_X0_hasDependence : GoodIn wsX5_dependence (wsV RX5 143 RX0 yX0_hasDependence wsX0_hasDependence) := goodIn_app (goodIn_of _ (by decide +kernel)) ggX5_dependence_X0_hasDependence
set_option maxRecDepth 20000 in
theorem ggX5_dependence_X0_lagOf : GoodIn wsX5_dependence wsX0_lagOf := goodIn_r _ [15, 16, 17, 18, 19, 20, 21, 22, 23, 24, 7, 8, 9, 10, 11, 25, 26, 27, 28, 29, 39, 40, 41, 42, 43, 44, 45, 46, 47, 48, 49, 50] (by decide +kernel) (by decide +kernel)
set_option maxRecDepth 20000 in
theorem gX5_dependence_X0_lagOf : GoodIn wsX5_dependence (wsV RX5 180 RX0 yX0_lagOf wsX0_lagOf) := goodIn_app (goodIn_of _ (by decide +kernel)) ggX5_dependence_X0_lagOf
theorem dX5_dependence_0 : decode cX5_dependence 0 = .ok (.aload_n 0, 1) := by decide +kernel
theorem dX5_dependence_1 : decode cX5_dependence 1 = .ok (.getfield 10, 3) := by decide +kernel
theorem dX5_dependence_4 : decode cX5_dependence 4 = .ok (.iload_n 1, 1) := by decide +kernel
theorem dX5_dependence_5 : decode cX5_dependence 5 = .ok (.invokevirtual 143, 3) := by decide +kernel
theorem dX5_dependence_8 : decode cX5_dependence 8 = .ok (.ifCond .ne 13, 3) := by decide +kernel
theorem dX5_dependence_11 : decode cX5_dependence 11 = .ok (.new 100, 3) := by decide +kernel
theorem dX5_dependence_14 : decode cX5_dependence 14 = .ok (.dup, 1) := by decide +kernel
theorem dX5_dependence_15 : decode cX5_dependence 15 = .ok (.ldc 146, 2) := by decide +kernel
theorem dX5_dependence_17 : decode cX5_dependence 17 = .ok (.invokespecial 104, 3) := by decide +kernel
theorem dX5_dependence_20 : decode cX5_dependence 20 = .ok (.athrow, 1) := by decide +kernel
theorem dX5_dependence_21 : decode cX5_dependence 21 = .ok (.iload_n 2, 1) := by decide +kernel
theorem dX5_dependence_22 : decode cX5_dependence 22 = .ok (.tableswitch 105 0 5 #[38, 48, 58, 68, 78, 87], 38) := by decide +kernel
theorem dX5_dependence_60 : decode cX5_dependence 60 = .ok (.aload_n 0, 1) := by decide +kernel
theorem dX5_dependence_61 : decode cX5_dependence 61 = .ok (.getfield 10, 3) := by decide +kernel
theorem dX5_dependence_64 : decode cX5_dependence 64 = .ok (.getfield 168, 3) := by decide +kernel
theorem dX5_dependence_67 : decode cX5_dependence 67 = .ok (.iload_n 1, 1) := by decide +kernel
theorem dX5_dependence_68 : decode cX5_dependence 68 = .ok (.iaload, 1) := by decide +kernel
theorem dX5_dependence_69 : decode cX5_dependence 69 = .ok (.ireturn, 1) := by decide +kernel
theorem dX5_dependence_70 : decode cX5_dependence 70 = .ok (.aload_n 0, 1) := by decide +kernel
theorem dX5_dependence_71 : decode cX5_dependence 71 = .ok (.getfield 10, 3) := by decide +kernel
theorem dX5_dependence_74 : decode cX5_dependence 74 = .ok (.getfield 171, 3) := by decide +kernel
theorem dX5_dependence_77 : decode cX5_dependence 77 = .ok (.iload_n 1, 1) := by decide +kernel
theorem dX5_dependence_78 : decode cX5_dependence 78 = .ok (.iaload, 1) := by decide +kernel
theorem dX5_dependence_79 : decode cX5_dependence 79 = .ok (.ireturn, 1) := by decide +kernel
theorem dX5_dependence_80 : decode cX5_dependence 80 = .ok (.aload_n 0, 1) := by decide +kernel
theorem dX5_dependence_81 : decode cX5_dependence 81 = .ok (.getfield 10, 3) := by decide +kernel
theorem dX5_dependence_84 : decode cX5_dependence 84 = .ok (.getfield 174, 3) := by decide +kernel
theorem dX5_dependence_87 : decode cX5_dependence 87 = .ok (.iload_n 1, 1) := by decide +kernel
theorem dX5_dependence_88 : decode cX5_dependence 88 = .ok (.iaload, 1) := by decide +kernel
theorem dX5_dependence_89 : decode cX5_dependence 89 = .ok (.ireturn, 1) := by decide +kernel
theorem dX5_dependence_90 : decode cX5_dependence 90 = .ok (.aload_n 0, 1) := by decide +kernel
theorem dX5_dependence_91 : decode cX5_dependence 91 = .ok (.getfield 10, 3) := by decide +kernel
theorem dX5_dependence_94 : decode cX5_dependence 94 = .ok (.getfield 177, 3) := by decide +kernel
theorem dX5_dependence_97 : decode cX5_dependence 97 = .ok (.iload_n 1, 1) := by decide +kernel
theorem dX5_dependence_98 : decode cX5_dependence 98 = .ok (.iaload, 1) := by decide +kernel
theorem dX5_dependence_99 : decode cX5_dependence 99 = .ok (.ireturn, 1) := by decide +kernel
theorem dX5_dependence_100 : decode cX5_dependence 100 = .ok (.aload_n 0, 1) := by decide +kernel
theorem dX5_dependence_101 : decode cX5_dependence 101 = .ok (.getfield 10, 3) := by decide +kernel
theorem dX5_dependence_104 : decode cX5_dependence 104 = .ok (.iload_n 1, 1) := by decide +kernel
theorem dX5_dependence_105 : decode cX5_dependence 105 = .ok (.invokevirtual 180, 3) := by decide +kernel
theorem dX5_dependence_108 : decode cX5_dependence 108 = .ok (.ireturn, 1) := by decide +kernel
theorem dX5_dependence_109 : decode cX5_dependence 109 = .ok (.aload_n 0, 1) := by decide +kernel
theorem dX5_dependence_110 : decode cX5_dependence 110 = .ok (.getfield 10, 3) := by decide +kernel
theorem dX5_dependence_113 : decode cX5_dependence 113 = .ok (.getfield 183, 3) := by decide +kernel
theorem dX5_dependence_116 : decode cX5_dependence 116 = .ok (.iload_n 1, 1) := by decide +kernel
theorem dX5_dependence_117 : decode cX5_dependence 117 = .ok (.baload, 1) := by decide +kernel
theorem dX5_dependence_118 : decode cX5_dependence 118 = .ok (.ifCond .eq 7, 3) := by decide +kernel
theorem dX5_dependence_121 : decode cX5_dependence 121 = .ok (.iconst 1, 1) := by decide +kernel
theorem dX5_dependence_122 : decode cX5_dependence 122 = .ok (.goto 4, 3) := by decide +kernel
theorem dX5_dependence_125 : decode cX5_dependence 125 = .ok (.iconst 0, 1) := by decide +kernel
theorem dX5_dependence_126 : decode cX5_dependence 126 = .ok (.ireturn, 1) := by decide +kernel
theorem dX5_dependence_127 : decode cX5_dependence 127 = .ok (.new 62, 3) := by decide +kernel
theorem dX5_dependence_130 : decode cX5_dependence 130 = .ok (.dup, 1) := by decide +kernel
theorem dX5_dependence_131 : decode cX5_dependence 131 = .ok (.ldc 166, 2) := by decide +kernel
theorem dX5_dependence_133 : decode cX5_dependence 133 = .ok (.invokespecial 66, 3) := by decide +kernel
theorem dX5_dependence_136 : decode cX5_dependence 136 = .ok (.athrow, 1) := by decide +kernel
set_option maxRecDepth 20000 in
theorem ggX5_lead_X0_hasDependence : GoodIn wsX5_lead wsX0_hasDependence := goodIn_r _ [13, 14, 99, 100, 101, 102, 103, 104, 105, 106, 107, 108, 109, 110] (by decide +kernel) (by decide +kernel)
set_option maxRecDepth 20000 in
theorem gX5_lead_X0_hasDependence : GoodIn wsX5_lead (wsV RX5 143 RX0 yX0_hasDependence wsX0_hasDependence) := goodIn_app (goodIn_of _ (by decide +kernel)) ggX5_lead_X0_hasDependence
set_option maxRecDepth 20000 in
theorem ggX5_lead_X5_isMode : GoodIn wsX5_lead wsX5_isMode := goodIn_r _ [18] (by decide +kernel) (by decide +kernel)
set_option maxRecDepth 20000 in
theorem gX5_lead_X5_isMode : GoodIn wsX5_lead (va_wsS RX5 187 yX5_isMode wsX5_isMode) := goodIn_app (goodIn_of _ (by decide +kernel)) ggX5_lead_X5_isMode
set_option maxRecDepth 20000 in
theorem ggX5_lead_X2_greatestSum : GoodIn wsX5_lead wsX2_greatestSum := goodIn_r _ [23, 24, 25, 10, 11, 12, 13, 14, 26, 27, 28, 29, 30, 31, 32, 33, 22, 34, 35, 36, 37, 38, 39, 40, 41, 42, 43, 44, 45, 46, 47, 48, 49, 50, 51, 52, 53, 54, 55, 56, 57, 58, 59, 60, 61, 62, 63, 64, 65, 66, 67, 68, 69, 70, 71, 72, 73, 74, 75, 76, 77, 78, 79, 80, 81, 82, 83, 84, 85, 86, 87, 88, 89, 99, 100, 101, 102, 103, 104, 105, 106, 107, 108, 109, 110, 111] (by decide +kernel) (by decide +kernel)
set_option maxRecDepth 20000 in
theorem gX5_lead_X2_greatestSum : GoodIn wsX5_lead (wsV RX5 194 RX2 yX2_greatestSum wsX2_greatestSum) := goodIn_app (goodIn_of _ (by decide +kernel)) ggX5_lead_X2_greatestSum
theorem dX5_lead_0 : decode cX5_lead 0 = .ok (.aload_n 0, 1) := by decide +kernel
theorem dX5_lead_1 : decode cX5_lead 1 = .ok (.getfield 10, 3) := by decide +kernel
theorem dX5_lead_4 : decode cX5_lead 4 = .ok (.iload_n 1, 1) := by decide +kernel
theorem dX5_lead_5 : decode cX5_lead 5 = .ok (.invokevirtual 143, 3) := by decide +kernel
theorem dX5_lead_8 : decode cX5_lead 8 = .ok (.ifCond .ne 13, 3) := by decide +kernel
theorem dX5_lead_11 : decode cX5_lead 11 = .ok (.new 100, 3) := by decide +kernel
theorem dX5_lead_14 : decode cX5_lead 14 = .ok (.dup, 1) := by decide +kernel
theorem dX5_lead_15 : decode cX5_lead 15 = .ok (.ldc 146, 2) := by decide +kernel
theorem dX5_lead_17 : decode cX5_lead 17 = .ok (.invokespecial 104, 3) := by decide +kernel
theorem dX5_lead_20 : decode cX5_lead 20 = .ok (.athrow, 1) := by decide +kernel
theorem dX5_lead_21 : decode cX5_lead 21 = .ok (.iload_n 2, 1) := by decide +kernel
theorem dX5_lead_22 : decode cX5_lead 22 = .ok (.invokestatic 187, 3) := by decide +kernel
theorem dX5_lead_25 : decode cX5_lead 25 = .ok (.ifCond .ne 13, 3) := by decide +kernel
theorem dX5_lead_28 : decode cX5_lead 28 = .ok (.new 62, 3) := by decide +kernel
theorem dX5_lead_31 : decode cX5_lead 31 = .ok (.dup, 1) := by decide +kernel
theorem dX5_lead_32 : decode cX5_lead 32 = .ok (.ldc 190, 2) := by decide +kernel
theorem dX5_lead_34 : decode cX5_lead 34 = .ok (.invokespecial 66, 3) := by decide +kernel
theorem dX5_lead_37 : decode cX5_lead 37 = .ok (.athrow, 1) := by decide +kernel
theorem dX5_lead_38 : decode cX5_lead 38 = .ok (.aload_n 0, 1) := by decide +kernel
theorem dX5_lead_39 : decode cX5_lead 39 = .ok (.getfield 10, 3) := by decide +kernel
theorem dX5_lead_42 : decode cX5_lead 42 = .ok (.getfield 177, 3) := by decide +kernel
theorem dX5_lead_45 : decode cX5_lead 45 = .ok (.iload_n 1, 1) := by decide +kernel
theorem dX5_lead_46 : decode cX5_lead 46 = .ok (.iaload, 1) := by decide +kernel
theorem dX5_lead_47 : decode cX5_lead 47 = .ok (.ifCond .ne 13, 3) := by decide +kernel
theorem dX5_lead_50 : decode cX5_lead 50 = .ok (.new 72, 3) := by decide +kernel
theorem dX5_lead_53 : decode cX5_lead 53 = .ok (.dup, 1) := by decide +kernel
theorem dX5_lead_54 : decode cX5_lead 54 = .ok (.ldc 192, 2) := by decide +kernel
theorem dX5_lead_56 : decode cX5_lead 56 = .ok (.invokespecial 76, 3) := by decide +kernel
theorem dX5_lead_59 : decode cX5_lead 59 = .ok (.athrow, 1) := by decide +kernel
theorem dX5_lead_60 : decode cX5_lead 60 = .ok (.aload_n 0, 1) := by decide +kernel
theorem dX5_lead_61 : decode cX5_lead 61 = .ok (.getfield 32, 3) := by decide +kernel
theorem dX5_lead_64 : decode cX5_lead 64 = .ok (.aload_n 0, 1) := by decide +kernel
theorem dX5_lead_65 : decode cX5_lead 65 = .ok (.getfield 10, 3) := by decide +kernel
theorem dX5_lead_68 : decode cX5_lead 68 = .ok (.iload_n 1, 1) := by decide +kernel
theorem dX5_lead_69 : decode cX5_lead 69 = .ok (.iload_n 2, 1) := by decide +kernel
theorem dX5_lead_70 : decode cX5_lead 70 = .ok (.invokevirtual 194, 3) := by decide +kernel
theorem dX5_lead_73 : decode cX5_lead 73 = .ok (.ireturn, 1) := by decide +kernel
set_option maxRecDepth 20000 in
theorem ggX5_eliminate_X5_isMode : GoodIn wsX5_eliminate wsX5_isMode := goodIn_r _ [7] (by decide +kernel) (by decide +kernel)
set_option maxRecDepth 20000 in
theorem gX5_eliminate_X5_isMode : GoodIn wsX5_eliminate (va_wsS RX5 187 yX5_isMode wsX5_isMode) := goodIn_app (goodIn_of _ (by decide +kernel)) ggX5_eliminate_X5_isMode
set_option maxRecDepth 20000 in
theorem ggX5_eliminate_X5_isImplied : GoodIn wsX5_eliminate wsX5_isImplied := goodIn_r _ [11, 12, 3, 13, 14, 15, 16, 17, 18, 19, 20, 21, 22, 23, 24, 25, 26, 27, 28, 29, 30, 31, 32, 33, 34, 35, 36, 37, 38, 39, 40, 41, 42, 43, 44, 45, 46, 47, 48, 49, 50, 51, 52, 53, 54, 55, 56, 57, 58, 59, 60, 61, 62, 63, 64, 65, 66, 67, 68, 69, 70, 71, 72, 73, 74, 75, 76, 77, 78, 79, 80, 81, 82, 83, 84, 85, 86, 87, 88, 89, 90, 91, 92, 93, 94, 95, 96, 97, 98, 99, 100, 101, 102, 103, 104, 105, 106, 107, 108, 109, 110, 111] (by decide +kernel) (by decide +kernel)
set_option maxRecDepth 20000 in
theorem gX5_eliminate_X5_isImplied : GoodIn wsX5_eliminate (wsV RX5 198 RX5 yX5_isImplied wsX5_isImplied) := goodIn_app (goodIn_of _ (by decide +kernel)) ggX5_eliminate_X5_isImplied
theorem dX5_eliminate_0 : decode cX5_eliminate 0 = .ok (.iload_n 1, 1) := by decide +kernel
theorem dX5_eliminate_1 : decode cX5_eliminate 1 = .ok (.invokestatic 187, 3) := by decide +kernel
theorem dX5_eliminate_4 : decode cX5_eliminate 4 = .ok (.ifCond .ne 13, 3) := by decide +kernel
theorem dX5_eliminate_7 : decode cX5_eliminate 7 = .ok (.new 62, 3) := by decide +kernel
theorem dX5_eliminate_10 : decode cX5_eliminate 10 = .ok (.dup, 1) := by decide +kernel
theorem dX5_eliminate_11 : decode cX5_eliminate 11 = .ok (.ldc 190, 2) := by decide +kernel
theorem dX5_eliminate_13 : decode cX5_eliminate 13 = .ok (.invokespecial 66, 3) := by decide +kernel
theorem dX5_eliminate_16 : decode cX5_eliminate 16 = .ok (.athrow, 1) := by decide +kernel
theorem dX5_eliminate_17 : decode cX5_eliminate 17 = .ok (.iconst 0, 1) := by decide +kernel
theorem dX5_eliminate_18 : decode cX5_eliminate 18 = .ok (.istore_n 2, 1) := by decide +kernel
theorem dX5_eliminate_19 : decode cX5_eliminate 19 = .ok (.iconst 5, 1) := by decide +kernel
theorem dX5_eliminate_20 : decode cX5_eliminate 20 = .ok (.istore_n 3, 1) := by decide +kernel
theorem dX5_eliminate_21 : decode cX5_eliminate 21 = .ok (.iload_n 3, 1) := by decide +kernel
theorem dX5_eliminate_22 : decode cX5_eliminate 22 = .ok (.ifCond .le 82, 3) := by decide +kernel
theorem dX5_eliminate_25 : decode cX5_eliminate 25 = .ok (.aload_n 0, 1) := by decide +kernel
theorem dX5_eliminate_26 : decode cX5_eliminate 26 = .ok (.getfield 10, 3) := by decide +kernel
theorem dX5_eliminate_29 : decode cX5_eliminate 29 = .ok (.getfield 151, 3) := by decide +kernel
theorem dX5_eliminate_32 : decode cX5_eliminate 32 = .ok (.iconst 1, 1) := by decide +kernel
theorem dX5_eliminate_33 : decode cX5_eliminate 33 = .ok (.isub, 1) := by decide +kernel
theorem dX5_eliminate_34 : decode cX5_eliminate 34 = .ok (.istore 4, 2) := by decide +kernel
theorem dX5_eliminate_36 : decode cX5_eliminate 36 = .ok (.iload 4, 2) := by decide +kernel
theorem dX5_eliminate_38 : decode cX5_eliminate 38 = .ok (.ifCond .lt 60, 3) := by decide +kernel
theorem dX5_eliminate_41 : decode cX5_eliminate 41 = .ok (.aload_n 0, 1) := by decide +kernel
theorem dX5_eliminate_42 : decode cX5_eliminate 42 = .ok (.getfield 10, 3) := by decide +kernel
theorem dX5_eliminate_45 : decode cX5_eliminate 45 = .ok (.getfield 177, 3) := by decide +kernel
theorem dX5_eliminate_48 : decode cX5_eliminate 48 = .ok (.iload 4, 2) := by decide +kernel
theorem dX5_eliminate_50 : decode cX5_eliminate 50 = .ok (.iaload, 1) := by decide +kernel
theorem dX5_eliminate_51 : decode cX5_eliminate 51 = .ok (.iload_n 3, 1) := by decide +kernel
theorem dX5_eliminate_52 : decode cX5_eliminate 52 = .ok (.if_icmp .ne 40, 3) := by decide +kernel
theorem dX5_eliminate_55 : decode cX5_eliminate 55 = .ok (.aload_n 0, 1) := by decide +kernel
theorem dX5_eliminate_56 : decode cX5_eliminate 56 = .ok (.getfield 10, 3) := by decide +kernel
theorem dX5_eliminate_59 : decode cX5_eliminate 59 = .ok (.getfield 183, 3) := by decide +kernel
theorem dX5_eliminate_62 : decode cX5_eliminate 62 = .ok (.iload 4, 2) := by decide +kernel
theorem dX5_eliminate_64 : decode cX5_eliminate 64 = .ok (.baload, 1) := by decide +kernel
theorem dX5_eliminate_65 : decode cX5_eliminate 65 = .ok (.ifCond .eq 27, 3) := by decide +kernel
theorem dX5_eliminate_68 : decode cX5_eliminate 68 = .ok (.aload_n 0, 1) := by decide +kernel
theorem dX5_eliminate_69 : decode cX5_eliminate 69 = .ok (.iload 4, 2) := by decide +kernel
theorem dX5_eliminate_71 : decode cX5_eliminate 71 = .ok (.iload_n 1, 1) := by decide +kernel
theorem dX5_eliminate_72 : decode cX5_eliminate 72 = .ok (.invokevirtual 198, 3) := by decide +kernel
theorem dX5_eliminate_75 : decode cX5_eliminate 75 = .ok (.ifCond .eq 17, 3) := by decide +kernel
theorem dX5_eliminate_78 : decode cX5_eliminate 78 = .ok (.aload_n 0, 1) := by decide +kernel
theorem dX5_eliminate_79 : decode cX5_eliminate 79 = .ok (.getfield 10, 3) := by decide +kernel
theorem dX5_eliminate_82 : decode cX5_eliminate 82 = .ok (.getfield 183, 3) := by decide +kernel
theorem dX5_eliminate_85 : decode cX5_eliminate 85 = .ok (.iload 4, 2) := by decide +kernel
theorem dX5_eliminate_87 : decode cX5_eliminate 87 = .ok (.iconst 0, 1) := by decide +kernel
theorem dX5_eliminate_88 : decode cX5_eliminate 88 = .ok (.bastore, 1) := by decide +kernel
theorem dX5_eliminate_89 : decode cX5_eliminate 89 = .ok (.iinc 2 1, 3) := by decide +kernel
theorem dX5_eliminate_92 : decode cX5_eliminate 92 = .ok (.iinc 4 (-1), 3) := by decide +kernel
theorem dX5_eliminate_95 : decode cX5_eliminate 95 = .ok (.goto (-59), 3) := by decide +kernel
theorem dX5_eliminate_98 : decode cX5_eliminate 98 = .ok (.iinc 3 (-1), 3) := by decide +kernel
theorem dX5_eliminate_101 : decode cX5_eliminate 101 = .ok (.goto (-80), 3) := by decide +kernel
theorem dX5_eliminate_104 : decode cX5_eliminate 104 = .ok (.iload_n 2, 1) := by decide +kernel
theorem dX5_eliminate_105 : decode cX5_eliminate 105 = .ok (.ireturn, 1) := by decide +kernel
theorem dX5_keepAll_0 : decode cX5_keepAll 0 = .ok (.iconst 0, 1) := by decide +kernel
theorem dX5_keepAll_1 : decode cX5_keepAll 1 = .ok (.istore_n 1, 1) := by decide +kernel
theorem dX5_keepAll_2 : decode cX5_keepAll 2 = .ok (.iconst 0, 1) := by decide +kernel
theorem dX5_keepAll_3 : decode cX5_keepAll 3 = .ok (.istore_n 2, 1) := by decide +kernel
theorem dX5_keepAll_4 : decode cX5_keepAll 4 = .ok (.iload_n 2, 1) := by decide +kernel
theorem dX5_keepAll_5 : decode cX5_keepAll 5 = .ok (.aload_n 0, 1) := by decide +kernel
theorem dX5_keepAll_6 : decode cX5_keepAll 6 = .ok (.getfield 10, 3) := by decide +kernel
theorem dX5_keepAll_9 : decode cX5_keepAll 9 = .ok (.getfield 151, 3) := by decide +kernel
theorem dX5_keepAll_12 : decode cX5_keepAll 12 = .ok (.if_icmp .ge 34, 3) := by decide +kernel
theorem dX5_keepAll_15 : decode cX5_keepAll 15 = .ok (.aload_n 0, 1) := by decide +kernel
theorem dX5_keepAll_16 : decode cX5_keepAll 16 = .ok (.getfield 10, 3) := by decide +kernel
theorem dX5_keepAll_19 : decode cX5_keepAll 19 = .ok (.getfield 183, 3) := by decide +kernel
theorem dX5_keepAll_22 : decode cX5_keepAll 22 = .ok (.iload_n 2, 1) := by decide +kernel
theorem dX5_keepAll_23 : decode cX5_keepAll 23 = .ok (.baload, 1) := by decide +kernel
theorem dX5_keepAll_24 : decode cX5_keepAll 24 = .ok (.ifCond .ne 16, 3) := by decide +kernel
theorem dX5_keepAll_27 : decode cX5_keepAll 27 = .ok (.aload_n 0, 1) := by decide +kernel
theorem dX5_keepAll_28 : decode cX5_keepAll 28 = .ok (.getfield 10, 3) := by decide +kernel
theorem dX5_keepAll_31 : decode cX5_keepAll 31 = .ok (.getfield 183, 3) := by decide +kernel
theorem dX5_keepAll_34 : decode cX5_keepAll 34 = .ok (.iload_n 2, 1) := by decide +kernel
theorem dX5_keepAll_35 : decode cX5_keepAll 35 = .ok (.iconst 1, 1) := by decide +kernel
theorem dX5_keepAll_36 : decode cX5_keepAll 36 = .ok (.bastore, 1) := by decide +kernel
theorem dX5_keepAll_37 : decode cX5_keepAll 37 = .ok (.iinc 1 1, 3) := by decide +kernel
theorem dX5_keepAll_40 : decode cX5_keepAll 40 = .ok (.iinc 2 1, 3) := by decide +kernel
theorem dX5_keepAll_43 : decode cX5_keepAll 43 = .ok (.goto (-39), 3) := by decide +kernel
theorem dX5_keepAll_46 : decode cX5_keepAll 46 = .ok (.iload_n 1, 1) := by decide +kernel
theorem dX5_keepAll_47 : decode cX5_keepAll 47 = .ok (.ireturn, 1) := by decide +kernel
set_option maxRecDepth 20000 in
theorem ggX5_precedes_X0_hasStatement : GoodIn wsX5_precedes wsX0_hasStatement := goodIn_r _ [8, 9, 41, 42, 43, 44, 45, 46, 47, 48, 49, 50, 51, 52] (by decide +kernel) (by decide +kernel)
set_option maxRecDepth 20000 in
theorem gX5_precedes_X0_hasStatement : GoodIn wsX5_precedes (wsV RX5 97 RX0 yX0_hasStatement wsX0_hasStatement) := goodIn_app (goodIn_of _ (by decide +kernel)) ggX5_precedes_X0_hasStatement
set_option maxRecDepth 20000 in
theorem ggX5_precedes_X0_followersOf : GoodIn wsX5_precedes wsX0_followersOf := goodIn_r _ [13, 9, 14, 15, 16, 7, 17, 18, 19, 20, 21, 22, 23, 24, 25, 26, 27, 28, 29, 30, 31, 41, 42, 43, 44, 45, 46, 47, 48, 49, 50, 51, 52] (by decide +kernel) (by decide +kernel)
set_option maxRecDepth 20000 in
theorem gX5_precedes_X0_followersOf : GoodIn wsX5_precedes (wsV RX5 201 RX0 yX0_followersOf wsX0_followersOf) := goodIn_app (goodIn_of _ (by decide +kernel)) ggX5_precedes_X0_followersOf
theorem dX5_precedes_0 : decode cX5_precedes 0 = .ok (.aload_n 0, 1) := by decide +kernel
theorem dX5_precedes_1 : decode cX5_precedes 1 = .ok (.getfield 10, 3) := by decide +kernel
theorem dX5_precedes_4 : decode cX5_precedes 4 = .ok (.iload_n 1, 1) := by decide +kernel
theorem dX5_precedes_5 : decode cX5_precedes 5 = .ok (.invokevirtual 97, 3) := by decide +kernel
theorem dX5_precedes_8 : decode cX5_precedes 8 = .ok (.ifCond .eq 14, 3) := by decide +kernel
theorem dX5_precedes_11 : decode cX5_precedes 11 = .ok (.aload_n 0, 1) := by decide +kernel
theorem dX5_precedes_12 : decode cX5_precedes 12 = .ok (.getfield 10, 3) := by decide +kernel
theorem dX5_precedes_15 : decode cX5_precedes 15 = .ok (.iload_n 2, 1) := by decide +kernel
theorem dX5_precedes_16 : decode cX5_precedes 16 = .ok (.invokevirtual 97, 3) := by decide +kernel
theorem dX5_precedes_19 : decode cX5_precedes 19 = .ok (.ifCond .ne 13, 3) := by decide +kernel
theorem dX5_precedes_22 : decode cX5_precedes 22 = .ok (.new 100, 3) := by decide +kernel
theorem dX5_precedes_25 : decode cX5_precedes 25 = .ok (.dup, 1) := by decide +kernel
theorem dX5_precedes_26 : decode cX5_precedes 26 = .ok (.ldc 102, 2) := by decide +kernel
theorem dX5_precedes_28 : decode cX5_precedes 28 = .ok (.invokespecial 104, 3) := by decide +kernel
theorem dX5_precedes_31 : decode cX5_precedes 31 = .ok (.athrow, 1) := by decide +kernel
theorem dX5_precedes_32 : decode cX5_precedes 32 = .ok (.aload_n 0, 1) := by decide +kernel
theorem dX5_precedes_33 : decode cX5_precedes 33 = .ok (.getfield 10, 3) := by decide +kernel
theorem dX5_precedes_36 : decode cX5_precedes 36 = .ok (.iload_n 1, 1) := by decide +kernel
theorem dX5_precedes_37 : decode cX5_precedes 37 = .ok (.invokevirtual 201, 3) := by decide +kernel
theorem dX5_precedes_40 : decode cX5_precedes 40 = .ok (.iload_n 2, 1) := by decide +kernel
theorem dX5_precedes_41 : decode cX5_precedes 41 = .ok (.ishr, 1) := by decide +kernel
theorem dX5_precedes_42 : decode cX5_precedes 42 = .ok (.iconst 1, 1) := by decide +kernel
theorem dX5_precedes_43 : decode cX5_precedes 43 = .ok (.iand, 1) := by decide +kernel
theorem dX5_precedes_44 : decode cX5_precedes 44 = .ok (.iconst 1, 1) := by decide +kernel
theorem dX5_precedes_45 : decode cX5_precedes 45 = .ok (.if_icmp .ne 7, 3) := by decide +kernel
theorem dX5_precedes_48 : decode cX5_precedes 48 = .ok (.iconst 1, 1) := by decide +kernel
theorem dX5_precedes_49 : decode cX5_precedes 49 = .ok (.goto 4, 3) := by decide +kernel
theorem dX5_precedes_52 : decode cX5_precedes 52 = .ok (.iconst 0, 1) := by decide +kernel
theorem dX5_precedes_53 : decode cX5_precedes 53 = .ok (.ireturn, 1) := by decide +kernel
set_option maxRecDepth 20000 in
theorem ggX5_delay_X0_delayWithout : GoodIn wsX5_delay wsX0_delayWithout := goodIn_r _ [6, 7, 8, 9, 10, 11, 12, 13, 14, 5, 15, 16, 17, 18, 19, 20, 21, 22, 23, 24, 25, 26, 27, 28, 29, 30, 31, 32, 33, 34, 35, 36, 37, 38, 39, 40, 41, 42, 43, 44, 45, 46, 47, 48, 49, 50, 51, 52, 53, 63, 64, 65, 66, 67, 68, 69, 70, 71, 72, 73, 74] (by decide +kernel) (by decide +kernel)
set_option maxRecDepth 20000 in
theorem gX5_delay_X0_delayWithout : GoodIn wsX5_delay (wsV RX5 204 RX0 yX0_delayWithout wsX0_delayWithout) := goodIn_app (goodIn_of _ (by decide +kernel)) ggX5_delay_X0_delayWithout
theorem dX5_delay_0 : decode cX5_delay 0 = .ok (.aload_n 0, 1) := by decide +kernel
theorem dX5_delay_1 : decode cX5_delay 1 = .ok (.getfield 10, 3) := by decide +kernel
theorem dX5_delay_4 : decode cX5_delay 4 = .ok (.iconst (-1), 1) := by decide +kernel
theorem dX5_delay_5 : decode cX5_delay 5 = .ok (.invokevirtual 204, 3) := by decide +kernel
theorem dX5_delay_8 : decode cX5_delay 8 = .ok (.ireturn, 1) := by decide +kernel
set_option maxRecDepth 20000 in
theorem ggX5_critical_X0_delayWithout : GoodIn wsX5_critical wsX0_delayWithout := goodIn_r _ [6, 7, 8, 9, 10, 11, 12, 13, 14, 5, 15, 16, 17, 18, 19, 20, 21, 22, 23, 24, 25, 26, 27, 28, 29, 30, 31, 32, 33, 34, 35, 36, 37, 38, 39, 40, 41, 42, 43, 44, 45, 46, 47, 48, 49, 50, 51, 52, 53, 64, 65, 66, 67, 68, 69, 70, 71, 72, 73, 74, 75] (by decide +kernel) (by decide +kernel)
set_option maxRecDepth 20000 in
theorem gX5_critical_X0_delayWithout : GoodIn wsX5_critical (wsV RX5 204 RX0 yX0_delayWithout wsX0_delayWithout) := goodIn_app (goodIn_of _ (by decide +kernel)) ggX5_critical_X0_delayWithout
set_option maxRecDepth 20000 in
theorem ggX5_critical_X0_isSignalled : GoodIn wsX5_critical wsX0_isSignalled := goodIn_r _ [27, 28, 29, 30, 31, 32, 5, 33, 7, 64, 65, 66, 67, 68, 69, 70, 71, 72, 73, 74, 75] (by decide +kernel) (by decide +kernel)
set_option maxRecDepth 20000 in
theorem gX5_critical_X0_isSignalled : GoodIn wsX5_critical (wsV RX5 207 RX0 yX0_isSignalled wsX0_isSignalled) := goodIn_app (goodIn_of _ (by decide +kernel)) ggX5_critical_X0_isSignalled
theorem dX5_critical_0 : decode cX5_critical 0 = .ok (.aload_n 0, 1) := by decide +kernel
theorem dX5_critical_1 : decode cX5_critical 1 = .ok (.getfield 10, 3) := by decide +kernel
theorem dX5_critical_4 : decode cX5_critical 4 = .ok (.iconst (-1), 1) := by decide +kernel
theorem dX5_critical_5 : decode cX5_critical 5 = .ok (.invokevirtual 204, 3) := by decide +kernel
theorem dX5_critical_8 : decode cX5_critical 8 = .ok (.istore_n 1, 1) := by decide +kernel
theorem dX5_critical_9 : decode cX5_critical 9 = .ok (.iconst 0, 1) := by decide +kernel
theorem dX5_critical_10 : decode cX5_critical 10 = .ok (.istore_n 2, 1) := by decide +kernel
theorem dX5_critical_11 : decode cX5_critical 11 = .ok (.iload_n 2, 1) := by decide +kernel
theorem dX5_critical_12 : decode cX5_critical 12 = .ok (.aload_n 0, 1) := by decide +kernel
theorem dX5_critical_13 : decode cX5_critical 13 = .ok (.getfield 10, 3) := by decide +kernel
theorem dX5_critical_16 : decode cX5_critical 16 = .ok (.getfield 151, 3) := by decide +kernel
theorem dX5_critical_19 : decode cX5_critical 19 = .ok (.if_icmp .ge 34, 3) := by decide +kernel
theorem dX5_critical_22 : decode cX5_critical 22 = .ok (.aload_n 0, 1) := by decide +kernel
theorem dX5_critical_23 : decode cX5_critical 23 = .ok (.getfield 10, 3) := by decide +kernel
theorem dX5_critical_26 : decode cX5_critical 26 = .ok (.iload_n 2, 1) := by decide +kernel
theorem dX5_critical_27 : decode cX5_critical 27 = .ok (.invokevirtual 207, 3) := by decide +kernel
theorem dX5_critical_30 : decode cX5_critical 30 = .ok (.ifCond .eq 17, 3) := by decide +kernel
theorem dX5_critical_33 : decode cX5_critical 33 = .ok (.aload_n 0, 1) := by decide +kernel
theorem dX5_critical_34 : decode cX5_critical 34 = .ok (.getfield 10, 3) := by decide +kernel
theorem dX5_critical_37 : decode cX5_critical 37 = .ok (.iload_n 2, 1) := by decide +kernel
theorem dX5_critical_38 : decode cX5_critical 38 = .ok (.invokevirtual 204, 3) := by decide +kernel
theorem dX5_critical_41 : decode cX5_critical 41 = .ok (.iload_n 1, 1) := by decide +kernel
theorem dX5_critical_42 : decode cX5_critical 42 = .ok (.if_icmp .ge 5, 3) := by decide +kernel
theorem dX5_critical_45 : decode cX5_critical 45 = .ok (.iload_n 2, 1) := by decide +kernel
theorem dX5_critical_46 : decode cX5_critical 46 = .ok (.ireturn, 1) := by decide +kernel
theorem dX5_critical_47 : decode cX5_critical 47 = .ok (.iinc 2 1, 3) := by decide +kernel
theorem dX5_critical_50 : decode cX5_critical 50 = .ok (.goto (-39), 3) := by decide +kernel
theorem dX5_critical_53 : decode cX5_critical 53 = .ok (.iconst (-1), 1) := by decide +kernel
theorem dX5_critical_54 : decode cX5_critical 54 = .ok (.ireturn, 1) := by decide +kernel
set_option maxRecDepth 20000 in
theorem ggX5_leastDelay_X1_search : GoodIn wsX5_leastDelay wsX1_search := goodIn_r _ [9, 10, 11, 12, 13, 14, 15, 16, 17, 18, 19, 20, 21, 22, 23, 24, 25, 26, 27, 28, 29, 30, 31, 32, 33, 34, 35, 36, 37, 38, 39, 40, 41, 42, 43, 44, 45, 46, 8, 47, 48, 49, 50, 51, 52, 53, 54, 55, 56, 57, 58, 59, 60, 61, 62, 63, 64, 65, 66, 67, 68, 69, 70, 71, 72, 73, 74, 75, 76, 77, 78, 79, 80, 81, 82, 83, 84, 85, 86, 87, 88, 89, 90, 91, 92, 93, 94, 95, 96, 97, 98, 99, 100, 101, 102, 103, 104, 105, 106, 107, 129, 130, 131, 117, 118, 119, 120, 121, 122, 123, 124, 125, 126, 127, 128] (by decide +kernel) (by decide +kernel)
set_option maxRecDepth 20000 in
theorem gX5_leastDelay_X1_search : GoodIn wsX5_leastDelay (wsV RX5 215 RX1 yX1_search wsX1_search) := goodIn_app (goodIn_of _ (by decide +kernel)) ggX5_leastDelay_X1_search
theorem dX5_leastDelay_0 : decode cX5_leastDelay 0 = .ok (.aload_n 0, 1) := by decide +kernel
theorem dX5_leastDelay_1 : decode cX5_leastDelay 1 = .ok (.getfield 10, 3) := by decide +kernel
theorem dX5_leastDelay_4 : decode cX5_leastDelay 4 = .ok (.getfield 124, 3) := by decide +kernel
theorem dX5_leastDelay_7 : decode cX5_leastDelay 7 = .ok (.bipush 6, 2) := by decide +kernel
theorem dX5_leastDelay_9 : decode cX5_leastDelay 9 = .ok (.if_icmp .le 13, 3) := by decide +kernel
theorem dX5_leastDelay_12 : decode cX5_leastDelay 12 = .ok (.new 210, 3) := by decide +kernel
theorem dX5_leastDelay_15 : decode cX5_leastDelay 15 = .ok (.dup, 1) := by decide +kernel
theorem dX5_leastDelay_16 : decode cX5_leastDelay 16 = .ok (.ldc 212, 2) := by decide +kernel
theorem dX5_leastDelay_18 : decode cX5_leastDelay 18 = .ok (.invokespecial 214, 3) := by decide +kernel
theorem dX5_leastDelay_21 : decode cX5_leastDelay 21 = .ok (.athrow, 1) := by decide +kernel
theorem dX5_leastDelay_22 : decode cX5_leastDelay 22 = .ok (.aload_n 0, 1) := by decide +kernel
theorem dX5_leastDelay_23 : decode cX5_leastDelay 23 = .ok (.getfield 39, 3) := by decide +kernel
theorem dX5_leastDelay_26 : decode cX5_leastDelay 26 = .ok (.aload_n 0, 1) := by decide +kernel
theorem dX5_leastDelay_27 : decode cX5_leastDelay 27 = .ok (.getfield 10, 3) := by decide +kernel
theorem dX5_leastDelay_30 : decode cX5_leastDelay 30 = .ok (.invokevirtual 215, 3) := by decide +kernel
theorem dX5_leastDelay_33 : decode cX5_leastDelay 33 = .ok (.aload_n 0, 1) := by decide +kernel
theorem dX5_leastDelay_34 : decode cX5_leastDelay 34 = .ok (.getfield 39, 3) := by decide +kernel
theorem dX5_leastDelay_37 : decode cX5_leastDelay 37 = .ok (.getfield 218, 3) := by decide +kernel
theorem dX5_leastDelay_40 : decode cX5_leastDelay 40 = .ok (.ireturn, 1) := by decide +kernel
set_option maxRecDepth 20000 in
theorem ggX5_reorder_X1_search : GoodIn wsX5_reorder wsX1_search := goodIn_r _ [9, 10, 11, 12, 13, 14, 15, 16, 17, 18, 19, 20, 21, 22, 23, 24, 25, 26, 27, 28, 29, 30, 31, 32, 33, 34, 35, 36, 37, 38, 39, 40, 41, 42, 43, 44, 45, 46, 8, 47, 48, 49, 50, 51, 52, 53, 54, 55, 56, 57, 58, 59, 60, 61, 62, 63, 64, 65, 66, 67, 68, 69, 70, 71, 72, 73, 74, 75, 76, 77, 78, 79, 80, 81, 82, 83, 84, 85, 86, 87, 88, 89, 90, 91, 92, 93, 94, 95, 96, 97, 98, 99, 100, 101, 102, 103, 104, 105, 106, 107, 130, 131, 132, 118, 119, 120, 121, 122, 123, 124, 125, 126, 127, 128, 129] (by decide +kernel) (by decide +kernel)
set_option maxRecDepth 20000 in
theorem gX5_reorder_X1_search : GoodIn wsX5_reorder (wsV RX5 215 RX1 yX1_search wsX1_search) := goodIn_app (goodIn_of _ (by decide +kernel)) ggX5_reorder_X1_search
set_option maxRecDepth 20000 in
theorem ggX5_reorder_X0_place : GoodIn wsX5_reorder wsX0_place := goodIn_r _ [35, 20, 19, 36, 37, 38, 15, 39, 17, 40, 41, 42, 43, 118, 119, 120, 121, 122, 123, 124, 125, 126, 127, 128, 129] (by decide +kernel) (by decide +kernel)
set_option maxRecDepth 20000 in
theorem gX5_reorder_X0_place : GoodIn wsX5_reorder (wsV RX5 227 RX0 yX0_place wsX0_place) := goodIn_app (goodIn_of _ (by decide +kernel)) ggX5_reorder_X0_place
theorem dX5_reorder_0 : decode cX5_reorder 0 = .ok (.aload_n 0, 1) := by decide +kernel
theorem dX5_reorder_1 : decode cX5_reorder 1 = .ok (.getfield 10, 3) := by decide +kernel
theorem dX5_reorder_4 : decode cX5_reorder 4 = .ok (.getfield 124, 3) := by decide +kernel
theorem dX5_reorder_7 : decode cX5_reorder 7 = .ok (.bipush 6, 2) := by decide +kernel
theorem dX5_reorder_9 : decode cX5_reorder 9 = .ok (.if_icmp .le 13, 3) := by decide +kernel
theorem dX5_reorder_12 : decode cX5_reorder 12 = .ok (.new 210, 3) := by decide +kernel
theorem dX5_reorder_15 : decode cX5_reorder 15 = .ok (.dup, 1) := by decide +kernel
theorem dX5_reorder_16 : decode cX5_reorder 16 = .ok (.ldc 212, 2) := by decide +kernel
theorem dX5_reorder_18 : decode cX5_reorder 18 = .ok (.invokespecial 214, 3) := by decide +kernel
theorem dX5_reorder_21 : decode cX5_reorder 21 = .ok (.athrow, 1) := by decide +kernel
theorem dX5_reorder_22 : decode cX5_reorder 22 = .ok (.aload_n 0, 1) := by decide +kernel
theorem dX5_reorder_23 : decode cX5_reorder 23 = .ok (.getfield 39, 3) := by decide +kernel
theorem dX5_reorder_26 : decode cX5_reorder 26 = .ok (.aload_n 0, 1) := by decide +kernel
theorem dX5_reorder_27 : decode cX5_reorder 27 = .ok (.getfield 10, 3) := by decide +kernel
theorem dX5_reorder_30 : decode cX5_reorder 30 = .ok (.invokevirtual 215, 3) := by decide +kernel
theorem dX5_reorder_33 : decode cX5_reorder 33 = .ok (.iconst 0, 1) := by decide +kernel
theorem dX5_reorder_34 : decode cX5_reorder 34 = .ok (.istore_n 1, 1) := by decide +kernel
theorem dX5_reorder_35 : decode cX5_reorder 35 = .ok (.iconst 0, 1) := by decide +kernel
theorem dX5_reorder_36 : decode cX5_reorder 36 = .ok (.istore_n 2, 1) := by decide +kernel
theorem dX5_reorder_37 : decode cX5_reorder 37 = .ok (.iload_n 2, 1) := by decide +kernel
theorem dX5_reorder_38 : decode cX5_reorder 38 = .ok (.aload_n 0, 1) := by decide +kernel
theorem dX5_reorder_39 : decode cX5_reorder 39 = .ok (.getfield 10, 3) := by decide +kernel
theorem dX5_reorder_42 : decode cX5_reorder 42 = .ok (.getfield 124, 3) := by decide +kernel
theorem dX5_reorder_45 : decode cX5_reorder 45 = .ok (.if_icmp .ge 33, 3) := by decide +kernel
theorem dX5_reorder_48 : decode cX5_reorder 48 = .ok (.aload_n 0, 1) := by decide +kernel
theorem dX5_reorder_49 : decode cX5_reorder 49 = .ok (.getfield 10, 3) := by decide +kernel
theorem dX5_reorder_52 : decode cX5_reorder 52 = .ok (.getfield 221, 3) := by decide +kernel
theorem dX5_reorder_55 : decode cX5_reorder 55 = .ok (.iload_n 2, 1) := by decide +kernel
theorem dX5_reorder_56 : decode cX5_reorder 56 = .ok (.iaload, 1) := by decide +kernel
theorem dX5_reorder_57 : decode cX5_reorder 57 = .ok (.aload_n 0, 1) := by decide +kernel
theorem dX5_reorder_58 : decode cX5_reorder 58 = .ok (.getfield 39, 3) := by decide +kernel
theorem dX5_reorder_61 : decode cX5_reorder 61 = .ok (.getfield 224, 3) := by decide +kernel
theorem dX5_reorder_64 : decode cX5_reorder 64 = .ok (.iload_n 2, 1) := by decide +kernel
theorem dX5_reorder_65 : decode cX5_reorder 65 = .ok (.iaload, 1) := by decide +kernel
theorem dX5_reorder_66 : decode cX5_reorder 66 = .ok (.if_icmp .eq 6, 3) := by decide +kernel
theorem dX5_reorder_69 : decode cX5_reorder 69 = .ok (.iinc 1 1, 3) := by decide +kernel
theorem dX5_reorder_72 : decode cX5_reorder 72 = .ok (.iinc 2 1, 3) := by decide +kernel
theorem dX5_reorder_75 : decode cX5_reorder 75 = .ok (.goto (-38), 3) := by decide +kernel
theorem dX5_reorder_78 : decode cX5_reorder 78 = .ok (.iconst 0, 1) := by decide +kernel
theorem dX5_reorder_79 : decode cX5_reorder 79 = .ok (.istore_n 2, 1) := by decide +kernel
theorem dX5_reorder_80 : decode cX5_reorder 80 = .ok (.iload_n 2, 1) := by decide +kernel
theorem dX5_reorder_81 : decode cX5_reorder 81 = .ok (.aload_n 0, 1) := by decide +kernel
theorem dX5_reorder_82 : decode cX5_reorder 82 = .ok (.getfield 10, 3) := by decide +kernel
theorem dX5_reorder_85 : decode cX5_reorder 85 = .ok (.getfield 124, 3) := by decide +kernel
theorem dX5_reorder_88 : decode cX5_reorder 88 = .ok (.if_icmp .ge 26, 3) := by decide +kernel
theorem dX5_reorder_91 : decode cX5_reorder 91 = .ok (.aload_n 0, 1) := by decide +kernel
theorem dX5_reorder_92 : decode cX5_reorder 92 = .ok (.getfield 10, 3) := by decide +kernel
theorem dX5_reorder_95 : decode cX5_reorder 95 = .ok (.aload_n 0, 1) := by decide +kernel
theorem dX5_reorder_96 : decode cX5_reorder 96 = .ok (.getfield 39, 3) := by decide +kernel
theorem dX5_reorder_99 : decode cX5_reorder 99 = .ok (.getfield 224, 3) := by decide +kernel
theorem dX5_reorder_102 : decode cX5_reorder 102 = .ok (.iload_n 2, 1) := by decide +kernel
theorem dX5_reorder_103 : decode cX5_reorder 103 = .ok (.iaload, 1) := by decide +kernel
theorem dX5_reorder_104 : decode cX5_reorder 104 = .ok (.iload_n 2, 1) := by decide +kernel
theorem dX5_reorder_105 : decode cX5_reorder 105 = .ok (.invokevirtual 227, 3) := by decide +kernel
theorem dX5_reorder_108 : decode cX5_reorder 108 = .ok (.iinc 2 1, 3) := by decide +kernel
theorem dX5_reorder_111 : decode cX5_reorder 111 = .ok (.goto (-31), 3) := by decide +kernel
theorem dX5_reorder_114 : decode cX5_reorder 114 = .ok (.iload_n 1, 1) := by decide +kernel
theorem dX5_reorder_115 : decode cX5_reorder 115 = .ok (.ireturn, 1) := by decide +kernel
set_option maxRecDepth 20000 in
theorem ggX5_length_X5_simulate : GoodIn wsX5_length wsX5_simulate := goodIn_r _ [6, 1, 7, 8, 9, 10, 11, 12, 13, 14, 15, 16, 17, 18, 19, 20, 21, 22, 23, 24, 25, 26, 27, 28, 29, 30, 31, 32, 33, 34, 35, 36, 37, 38, 39, 40, 41, 42, 43, 44, 45, 46, 47, 48, 49, 50, 51, 52, 53, 54, 55, 56, 57, 58, 59, 60, 61, 62, 63, 64, 65, 66, 67, 68, 69, 70, 71, 72, 73, 74, 75, 76, 77, 78, 79, 80, 81, 82, 83, 84, 85, 86, 87, 88, 89, 90, 91, 99, 100, 101, 102, 103, 104, 105, 106, 107, 108, 109, 110, 92, 93, 94, 95, 96, 97, 98] (by decide +kernel) (by decide +kernel)
set_option maxRecDepth 20000 in
theorem gX5_length_X5_simulate : GoodIn wsX5_length (wsV RX5 230 RX5 yX5_simulate wsX5_simulate) := goodIn_app (goodIn_of _ (by decide +kernel)) ggX5_length_X5_simulate
theorem dX5_length_0 : decode cX5_length 0 = .ok (.aload_n 0, 1) := by decide +kernel
theorem dX5_length_1 : decode cX5_length 1 = .ok (.invokevirtual 230, 3) := by decide +kernel
theorem dX5_length_4 : decode cX5_length 4 = .ok (.aload_n 0, 1) := by decide +kernel
theorem dX5_length_5 : decode cX5_length 5 = .ok (.getfield 46, 3) := by decide +kernel
theorem dX5_length_8 : decode cX5_length 8 = .ok (.getfield 233, 3) := by decide +kernel
theorem dX5_length_11 : decode cX5_length 11 = .ok (.ireturn, 1) := by decide +kernel
set_option maxRecDepth 20000 in
theorem ggX5_start_X0_hasStatement : GoodIn wsX5_start wsX0_hasStatement := goodIn_r _ [9, 10, 104, 105, 106, 107, 108, 109, 110, 111, 112, 113, 114, 115] (by decide +kernel) (by decide +kernel)
set_option maxRecDepth 20000 in
theorem gX5_start_X0_hasStatement : GoodIn wsX5_start (wsV RX5 97 RX0 yX0_hasStatement wsX0_hasStatement) := goodIn_app (goodIn_of _ (by decide +kernel)) ggX5_start_X0_hasStatement
set_option maxRecDepth 20000 in
theorem ggX5_start_X0_hasIteration : GoodIn wsX5_start wsX0_hasIteration := goodIn_r _ [14, 15, 104, 105, 106, 107, 108, 109, 110, 111, 112, 113, 114, 115] (by decide +kernel) (by decide +kernel)
set_option maxRecDepth 20000 in
theorem gX5_start_X0_hasIteration : GoodIn wsX5_start (wsV RX5 236 RX0 yX0_hasIteration wsX0_hasIteration) := goodIn_app (goodIn_of _ (by decide +kernel)) ggX5_start_X0_hasIteration
set_option maxRecDepth 20000 in
theorem ggX5_start_X5_simulate : GoodIn wsX5_start wsX5_simulate := goodIn_r _ [20, 4, 3, 21, 22, 23, 24, 25, 26, 27, 28, 29, 30, 31, 32, 33, 34, 35, 36, 37, 38, 39, 40, 41, 42, 43, 44, 45, 46, 47, 48, 49, 50, 8, 51, 52, 53, 54, 55, 56, 57, 58, 59, 60, 61, 62, 63, 64, 65, 66, 67, 68, 69, 70, 71, 72, 73, 74, 75, 76, 77, 78, 79, 15, 80, 81, 82, 83, 84, 85, 86, 87, 88, 89, 90, 91, 92, 93, 95, 96, 97, 98, 99, 100, 101, 102, 103, 104, 105, 106, 107, 108, 109, 110, 111, 112, 113, 114, 115, 116, 117, 118, 119, 120, 121, 122] (by decide +kernel) (by decide +kernel)
set_option maxRecDepth 20000 in
theorem gX5_start_X5_simulate : GoodIn wsX5_start (wsV RX5 230 RX5 yX5_simulate wsX5_simulate) := goodIn_app (goodIn_of _ (by decide +kernel)) ggX5_start_X5_simulate
set_option maxRecDepth 20000 in
theorem ggX5_start_X3_startOf : GoodIn wsX5_start wsX3_startOf := goodIn_r _ [71, 72, 73, 74, 24, 75, 116, 117, 118, 119, 120, 121, 122] (by decide +kernel) (by decide +kernel)
set_option maxRecDepth 20000 in
theorem gX5_start_X3_startOf : GoodIn wsX5_start (wsV RX5 241 RX3 yX3_startOf wsX3_startOf) := goodIn_app (goodIn_of _ (by decide +kernel)) ggX5_start_X3_startOf
theorem dX5_start_0 : decode cX5_start 0 = .ok (.aload_n 0, 1) := by decide +kernel
theorem dX5_start_1 : decode cX5_start 1 = .ok (.getfield 10, 3) := by decide +kernel
theorem dX5_start_4 : decode cX5_start 4 = .ok (.iload_n 1, 1) := by decide +kernel
theorem dX5_start_5 : decode cX5_start 5 = .ok (.invokevirtual 97, 3) := by decide +kernel
theorem dX5_start_8 : decode cX5_start 8 = .ok (.ifCond .eq 14, 3) := by decide +kernel
theorem dX5_start_11 : decode cX5_start 11 = .ok (.aload_n 0, 1) := by decide +kernel
theorem dX5_start_12 : decode cX5_start 12 = .ok (.getfield 10, 3) := by decide +kernel
theorem dX5_start_15 : decode cX5_start 15 = .ok (.iload_n 2, 1) := by decide +kernel
theorem dX5_start_16 : decode cX5_start 16 = .ok (.invokevirtual 236, 3) := by decide +kernel
theorem dX5_start_19 : decode cX5_start 19 = .ok (.ifCond .ne 13, 3) := by decide +kernel
theorem dX5_start_22 : decode cX5_start 22 = .ok (.new 100, 3) := by decide +kernel
theorem dX5_start_25 : decode cX5_start 25 = .ok (.dup, 1) := by decide +kernel
theorem dX5_start_26 : decode cX5_start 26 = .ok (.ldc 239, 2) := by decide +kernel
theorem dX5_start_28 : decode cX5_start 28 = .ok (.invokespecial 104, 3) := by decide +kernel
theorem dX5_start_31 : decode cX5_start 31 = .ok (.athrow, 1) := by decide +kernel
theorem dX5_start_32 : decode cX5_start 32 = .ok (.aload_n 0, 1) := by decide +kernel
theorem dX5_start_33 : decode cX5_start 33 = .ok (.invokevirtual 230, 3) := by decide +kernel
theorem dX5_start_36 : decode cX5_start 36 = .ok (.aload_n 0, 1) := by decide +kernel
theorem dX5_start_37 : decode cX5_start 37 = .ok (.getfield 46, 3) := by decide +kernel
theorem dX5_start_40 : decode cX5_start 40 = .ok (.iload_n 1, 1) := by decide +kernel
theorem dX5_start_41 : decode cX5_start 41 = .ok (.iload_n 2, 1) := by decide +kernel
theorem dX5_start_42 : decode cX5_start 42 = .ok (.invokevirtual 241, 3) := by decide +kernel
theorem dX5_start_45 : decode cX5_start 45 = .ok (.ireturn, 1) := by decide +kernel
set_option maxRecDepth 20000 in
theorem ggX5_processor_X0_hasIteration : GoodIn wsX5_processor wsX0_hasIteration := goodIn_r _ [9, 10, 105, 106, 107, 108, 109, 110, 111, 112, 113, 114, 115, 116] (by decide +kernel) (by decide +kernel)
set_option maxRecDepth 20000 in
theorem gX5_processor_X0_hasIteration : GoodIn wsX5_processor (wsV RX5 236 RX0 yX0_hasIteration wsX0_hasIteration) := goodIn_app (goodIn_of _ (by decide +kernel)) ggX5_processor_X0_hasIteration
set_option maxRecDepth 20000 in
theorem ggX5_processor_X5_simulate : GoodIn wsX5_processor wsX5_simulate := goodIn_r _ [15, 4, 3, 16, 17, 18, 19, 20, 21, 22, 23, 24, 25, 26, 27, 28, 29, 30, 31, 32, 33, 34, 35, 36, 37, 38, 39, 40, 41, 42, 43, 44, 45, 8, 46, 47, 48, 49, 50, 51, 52, 53, 54, 55, 56, 57, 58, 59, 60, 61, 62, 63, 64, 65, 66, 67, 68, 69, 70, 71, 72, 73, 74, 10, 75, 76, 77, 78, 79, 80, 81, 82, 83, 84, 85, 86, 87, 88, 89, 90, 91, 92, 93, 94, 95, 96, 97, 105, 106, 107, 108, 109, 110, 111, 112, 113, 114, 115, 116, 98, 99, 100, 101, 102, 103, 104] (by decide +kernel) (by decide +kernel)
set_option maxRecDepth 20000 in
theorem gX5_processor_X5_simulate : GoodIn wsX5_processor (wsV RX5 230 RX5 yX5_simulate wsX5_simulate) := goodIn_app (goodIn_of _ (by decide +kernel)) ggX5_processor_X5_simulate
theorem dX5_processor_0 : decode cX5_processor 0 = .ok (.aload_n 0, 1) := by decide +kernel
theorem dX5_processor_1 : decode cX5_processor 1 = .ok (.getfield 10, 3) := by decide +kernel
theorem dX5_processor_4 : decode cX5_processor 4 = .ok (.iload_n 1, 1) := by decide +kernel
theorem dX5_processor_5 : decode cX5_processor 5 = .ok (.invokevirtual 236, 3) := by decide +kernel
theorem dX5_processor_8 : decode cX5_processor 8 = .ok (.ifCond .ne 13, 3) := by decide +kernel
theorem dX5_processor_11 : decode cX5_processor 11 = .ok (.new 100, 3) := by decide +kernel
theorem dX5_processor_14 : decode cX5_processor 14 = .ok (.dup, 1) := by decide +kernel
theorem dX5_processor_15 : decode cX5_processor 15 = .ok (.ldc 245, 2) := by decide +kernel
theorem dX5_processor_17 : decode cX5_processor 17 = .ok (.invokespecial 104, 3) := by decide +kernel
theorem dX5_processor_20 : decode cX5_processor 20 = .ok (.athrow, 1) := by decide +kernel
theorem dX5_processor_21 : decode cX5_processor 21 = .ok (.aload_n 0, 1) := by decide +kernel
theorem dX5_processor_22 : decode cX5_processor 22 = .ok (.invokevirtual 230, 3) := by decide +kernel
theorem dX5_processor_25 : decode cX5_processor 25 = .ok (.aload_n 0, 1) := by decide +kernel
theorem dX5_processor_26 : decode cX5_processor 26 = .ok (.getfield 46, 3) := by decide +kernel
theorem dX5_processor_29 : decode cX5_processor 29 = .ok (.getfield 247, 3) := by decide +kernel
theorem dX5_processor_32 : decode cX5_processor 32 = .ok (.iload_n 1, 1) := by decide +kernel
theorem dX5_processor_33 : decode cX5_processor 33 = .ok (.iaload, 1) := by decide +kernel
theorem dX5_processor_34 : decode cX5_processor 34 = .ok (.ireturn, 1) := by decide +kernel
set_option maxRecDepth 20000 in
theorem ggX5_total_X5_simulate : GoodIn wsX5_total wsX5_simulate := goodIn_r _ [11, 6, 5, 12, 13, 14, 15, 16, 17, 18, 19, 20, 21, 22, 23, 24, 25, 26, 27, 28, 29, 30, 31, 32, 33, 34, 35, 36, 37, 38, 39, 40, 41, 42, 43, 44, 45, 46, 47, 48, 49, 50, 51, 52, 53, 54, 55, 56, 57, 58, 59, 60, 61, 62, 63, 64, 65, 66, 67, 68, 69, 70, 71, 72, 73, 74, 75, 76, 77, 78, 79, 80, 81, 82, 83, 84, 85, 86, 92, 93, 94, 95, 96, 97, 98, 99, 100, 101, 102, 103, 104, 105, 106, 107, 108, 109, 110, 111, 112, 113, 114, 115, 116, 117, 118, 119] (by decide +kernel) (by decide +kernel)
set_option maxRecDepth 20000 in
theorem gX5_total_X5_simulate : GoodIn wsX5_total (wsV RX5 230 RX5 yX5_simulate wsX5_simulate) := goodIn_app (goodIn_of _ (by decide +kernel)) ggX5_total_X5_simulate
set_option maxRecDepth 20000 in
theorem ggX5_total_X0_sumOfCosts : GoodIn wsX5_total wsX0_sumOfCosts := goodIn_r _ [90, 91, 81, 101, 102, 103, 104, 105, 106, 107, 108, 109, 110, 111, 112] (by decide +kernel) (by decide +kernel)
set_option maxRecDepth 20000 in
theorem gX5_total_X0_sumOfCosts : GoodIn wsX5_total (wsV RX5 255 RX0 yX0_sumOfCosts wsX0_sumOfCosts) := goodIn_app (goodIn_of _ (by decide +kernel)) ggX5_total_X0_sumOfCosts
theorem dX5_total_0 : decode cX5_total 0 = .ok (.iload_n 1, 1) := by decide +kernel
theorem dX5_total_1 : decode cX5_total 1 = .ok (.ifCond .lt 16, 3) := by decide +kernel
theorem dX5_total_4 : decode cX5_total 4 = .ok (.iload_n 1, 1) := by decide +kernel
theorem dX5_total_5 : decode cX5_total 5 = .ok (.aload_n 0, 1) := by decide +kernel
theorem dX5_total_6 : decode cX5_total 6 = .ok (.getfield 10, 3) := by decide +kernel
theorem dX5_total_9 : decode cX5_total 9 = .ok (.getfield 121, 3) := by decide +kernel
theorem dX5_total_12 : decode cX5_total 12 = .ok (.iconst 2, 1) := by decide +kernel
theorem dX5_total_13 : decode cX5_total 13 = .ok (.iaload, 1) := by decide +kernel
theorem dX5_total_14 : decode cX5_total 14 = .ok (.if_icmp .lt 13, 3) := by decide +kernel
theorem dX5_total_17 : decode cX5_total 17 = .ok (.new 100, 3) := by decide +kernel
theorem dX5_total_20 : decode cX5_total 20 = .ok (.dup, 1) := by decide +kernel
theorem dX5_total_21 : decode cX5_total 21 = .ok (.ldc 250, 2) := by decide +kernel
theorem dX5_total_23 : decode cX5_total 23 = .ok (.invokespecial 104, 3) := by decide +kernel
theorem dX5_total_26 : decode cX5_total 26 = .ok (.athrow, 1) := by decide +kernel
theorem dX5_total_27 : decode cX5_total 27 = .ok (.aload_n 0, 1) := by decide +kernel
theorem dX5_total_28 : decode cX5_total 28 = .ok (.invokevirtual 230, 3) := by decide +kernel
theorem dX5_total_31 : decode cX5_total 31 = .ok (.iload_n 2, 1) := by decide +kernel
theorem dX5_total_32 : decode cX5_total 32 = .ok (.tableswitch 80 0 3 #[32, 42, 60, 70], 32) := by decide +kernel
theorem dX5_total_64 : decode cX5_total 64 = .ok (.aload_n 0, 1) := by decide +kernel
theorem dX5_total_65 : decode cX5_total 65 = .ok (.getfield 46, 3) := by decide +kernel
theorem dX5_total_68 : decode cX5_total 68 = .ok (.getfield 252, 3) := by decide +kernel
theorem dX5_total_71 : decode cX5_total 71 = .ok (.iload_n 1, 1) := by decide +kernel
theorem dX5_total_72 : decode cX5_total 72 = .ok (.iaload, 1) := by decide +kernel
theorem dX5_total_73 : decode cX5_total 73 = .ok (.ireturn, 1) := by decide +kernel
theorem dX5_total_74 : decode cX5_total 74 = .ok (.aload_n 0, 1) := by decide +kernel
theorem dX5_total_75 : decode cX5_total 75 = .ok (.getfield 46, 3) := by decide +kernel
theorem dX5_total_78 : decode cX5_total 78 = .ok (.getfield 252, 3) := by decide +kernel
theorem dX5_total_81 : decode cX5_total 81 = .ok (.iload_n 1, 1) := by decide +kernel
theorem dX5_total_82 : decode cX5_total 82 = .ok (.iaload, 1) := by decide +kernel
theorem dX5_total_83 : decode cX5_total 83 = .ok (.aload_n 0, 1) := by decide +kernel
theorem dX5_total_84 : decode cX5_total 84 = .ok (.getfield 10, 3) := by decide +kernel
theorem dX5_total_87 : decode cX5_total 87 = .ok (.invokevirtual 255, 3) := by decide +kernel
theorem dX5_total_90 : decode cX5_total 90 = .ok (.imul, 1) := by decide +kernel
theorem dX5_total_91 : decode cX5_total 91 = .ok (.ireturn, 1) := by decide +kernel
theorem dX5_total_92 : decode cX5_total 92 = .ok (.aload_n 0, 1) := by decide +kernel
theorem dX5_total_93 : decode cX5_total 93 = .ok (.getfield 46, 3) := by decide +kernel
theorem dX5_total_96 : decode cX5_total 96 = .ok (.getfield 259, 3) := by decide +kernel
theorem dX5_total_99 : decode cX5_total 99 = .ok (.iload_n 1, 1) := by decide +kernel
theorem dX5_total_100 : decode cX5_total 100 = .ok (.iaload, 1) := by decide +kernel
theorem dX5_total_101 : decode cX5_total 101 = .ok (.ireturn, 1) := by decide +kernel
theorem dX5_total_102 : decode cX5_total 102 = .ok (.aload_n 0, 1) := by decide +kernel
theorem dX5_total_103 : decode cX5_total 103 = .ok (.getfield 46, 3) := by decide +kernel
theorem dX5_total_106 : decode cX5_total 106 = .ok (.getfield 262, 3) := by decide +kernel
theorem dX5_total_109 : decode cX5_total 109 = .ok (.iload_n 1, 1) := by decide +kernel
theorem dX5_total_110 : decode cX5_total 110 = .ok (.iaload, 1) := by decide +kernel
theorem dX5_total_111 : decode cX5_total 111 = .ok (.ireturn, 1) := by decide +kernel
theorem dX5_total_112 : decode cX5_total 112 = .ok (.new 62, 3) := by decide +kernel
theorem dX5_total_115 : decode cX5_total 115 = .ok (.dup, 1) := by decide +kernel
theorem dX5_total_116 : decode cX5_total 116 = .ok (.ldc_w 265, 3) := by decide +kernel
theorem dX5_total_119 : decode cX5_total 119 = .ok (.invokespecial 66, 3) := by decide +kernel
theorem dX5_total_122 : decode cX5_total 122 = .ok (.athrow, 1) := by decide +kernel
set_option maxRecDepth 20000 in
theorem ggX5_fill_X5_simulate : GoodIn wsX5_fill wsX5_simulate := goodIn_r _ [6, 1, 7, 8, 9, 10, 11, 12, 13, 14, 15, 16, 17, 18, 19, 20, 21, 22, 23, 24, 25, 26, 27, 28, 29, 30, 31, 32, 33, 34, 35, 36, 37, 38, 39, 40, 41, 42, 43, 44, 45, 46, 47, 48, 49, 50, 51, 52, 53, 54, 55, 56, 57, 58, 59, 60, 61, 62, 63, 64, 65, 66, 67, 68, 69, 70, 71, 72, 73, 74, 75, 76, 77, 78, 79, 80, 81, 82, 87, 88, 89, 90, 91, 92, 93, 94, 95, 96, 97, 98, 99, 100, 101, 102, 103, 104, 105, 106, 107, 108, 109, 110, 111, 112, 113, 114] (by decide +kernel) (by decide +kernel)
set_option maxRecDepth 20000 in
theorem gX5_fill_X5_simulate : GoodIn wsX5_fill (wsV RX5 230 RX5 yX5_simulate wsX5_simulate) := goodIn_app (goodIn_of _ (by decide +kernel)) ggX5_fill_X5_simulate
set_option maxRecDepth 20000 in
theorem ggX5_fill_X3_latestFirstStart : GoodIn wsX5_fill wsX3_latestFirstStart := goodIn_r _ [86, 14, 15, 31, 32, 33, 34, 108, 109, 110, 111, 112, 113, 114] (by decide +kernel) (by decide +kernel)
set_option maxRecDepth 20000 in
theorem gX5_fill_X3_latestFirstStart : GoodIn wsX5_fill (wsV RX5 267 RX3 yX3_latestFirstStart wsX3_latestFirstStart) := goodIn_app (goodIn_of _ (by decide +kernel)) ggX5_fill_X3_latestFirstStart
theorem dX5_fill_0 : decode cX5_fill 0 = .ok (.aload_n 0, 1) := by decide +kernel
theorem dX5_fill_1 : decode cX5_fill 1 = .ok (.invokevirtual 230, 3) := by decide +kernel
theorem dX5_fill_4 : decode cX5_fill 4 = .ok (.aload_n 0, 1) := by decide +kernel
theorem dX5_fill_5 : decode cX5_fill 5 = .ok (.getfield 46, 3) := by decide +kernel
theorem dX5_fill_8 : decode cX5_fill 8 = .ok (.invokevirtual 267, 3) := by decide +kernel
theorem dX5_fill_11 : decode cX5_fill 11 = .ok (.ireturn, 1) := by decide +kernel
set_option maxRecDepth 20000 in
theorem ggX5_drain_X5_simulate : GoodIn wsX5_drain wsX5_simulate := goodIn_r _ [6, 1, 7, 8, 9, 10, 11, 12, 13, 14, 15, 16, 17, 18, 19, 20, 21, 22, 23, 24, 25, 26, 27, 28, 29, 30, 31, 32, 33, 34, 35, 36, 37, 38, 39, 40, 41, 42, 43, 44, 45, 46, 47, 48, 49, 50, 51, 52, 53, 54, 55, 56, 57, 58, 59, 60, 61, 62, 63, 64, 65, 66, 67, 68, 69, 70, 71, 72, 73, 74, 75, 76, 77, 78, 79, 80, 81, 82, 90, 91, 92, 93, 94, 95, 96, 97, 98, 106, 107, 108, 109, 110, 111, 112, 113, 114, 115, 116, 117, 99, 100, 101, 102, 103, 104, 105] (by decide +kernel) (by decide +kernel)
set_option maxRecDepth 20000 in
theorem gX5_drain_X5_simulate : GoodIn wsX5_drain (wsV RX5 230 RX5 yX5_simulate wsX5_simulate) := goodIn_app (goodIn_of _ (by decide +kernel)) ggX5_drain_X5_simulate
set_option maxRecDepth 20000 in
theorem ggX5_drain_X3_earliestEnd : GoodIn wsX5_drain wsX3_earliestEnd := goodIn_r _ [86, 13, 14, 17, 87, 88, 33, 89, 99, 100, 101, 102, 103, 104, 105] (by decide +kernel) (by decide +kernel)
set_option maxRecDepth 20000 in
theorem gX5_drain_X3_earliestEnd : GoodIn wsX5_drain (wsV RX5 270 RX3 yX3_earliestEnd wsX3_earliestEnd) := goodIn_app (goodIn_of _ (by decide +kernel)) ggX5_drain_X3_earliestEnd
theorem dX5_drain_0 : decode cX5_drain 0 = .ok (.aload_n 0, 1) := by decide +kernel
theorem dX5_drain_1 : decode cX5_drain 1 = .ok (.invokevirtual 230, 3) := by decide +kernel
theorem dX5_drain_4 : decode cX5_drain 4 = .ok (.aload_n 0, 1) := by decide +kernel
theorem dX5_drain_5 : decode cX5_drain 5 = .ok (.getfield 46, 3) := by decide +kernel
theorem dX5_drain_8 : decode cX5_drain 8 = .ok (.getfield 233, 3) := by decide +kernel
theorem dX5_drain_11 : decode cX5_drain 11 = .ok (.aload_n 0, 1) := by decide +kernel
theorem dX5_drain_12 : decode cX5_drain 12 = .ok (.getfield 46, 3) := by decide +kernel
theorem dX5_drain_15 : decode cX5_drain 15 = .ok (.invokevirtual 270, 3) := by decide +kernel
theorem dX5_drain_18 : decode cX5_drain 18 = .ok (.isub, 1) := by decide +kernel
theorem dX5_drain_19 : decode cX5_drain 19 = .ok (.ireturn, 1) := by decide +kernel
set_option maxRecDepth 20000 in
theorem ggX5_speedUp_X5_simulate : GoodIn wsX5_speedUp wsX5_simulate := goodIn_r _ [11, 6, 5, 12, 13, 14, 15, 16, 17, 18, 19, 20, 21, 22, 23, 24, 25, 26, 27, 28, 29, 30, 31, 32, 33, 34, 35, 36, 37, 38, 39, 40, 41, 42, 43, 44, 45, 46, 47, 48, 49, 50, 51, 52, 53, 54, 55, 56, 57, 58, 59, 60, 61, 62, 63, 64, 65, 66, 67, 68, 69, 70, 71, 72, 73, 74, 75, 76, 77, 78, 79, 80, 81, 82, 83, 84, 85, 86, 95, 96, 97, 98, 99, 100, 101, 102, 103, 104, 105, 106, 107, 108, 109, 110, 111, 112, 113, 114, 115, 116, 117, 118, 119, 120, 121, 122] (by decide +kernel) (by decide +kernel)
set_option maxRecDepth 20000 in
theorem gX5_speedUp_X5_simulate : GoodIn wsX5_speedUp (wsV RX5 230 RX5 yX5_simulate wsX5_simulate) := goodIn_app (goodIn_of _ (by decide +kernel)) ggX5_speedUp_X5_simulate
set_option maxRecDepth 20000 in
theorem ggX5_speedUp_X0_sumOfCosts : GoodIn wsX5_speedUp wsX0_sumOfCosts := goodIn_r _ [90, 91, 81, 104, 105, 106, 107, 108, 109, 110, 111, 112, 113, 114, 115] (by decide +kernel) (by decide +kernel)
set_option maxRecDepth 20000 in
theorem gX5_speedUp_X0_sumOfCosts : GoodIn wsX5_speedUp (wsV RX5 255 RX0 yX0_sumOfCosts wsX0_sumOfCosts) := goodIn_app (goodIn_of _ (by decide +kernel)) ggX5_speedUp_X0_sumOfCosts
set_option maxRecDepth 20000 in
theorem ggX5_speedUp_X5_greatestDivisor : GoodIn wsX5_speedUp wsX5_greatestDivisor := goodIn_r _ [94] (by decide +kernel) (by decide +kernel)
set_option maxRecDepth 20000 in
theorem gX5_speedUp_X5_greatestDivisor : GoodIn wsX5_speedUp (va_wsS RX5 277 yX5_greatestDivisor wsX5_greatestDivisor) := goodIn_app (goodIn_of _ (by decide +kernel)) ggX5_speedUp_X5_greatestDivisor
theorem dX5_speedUp_0 : decode cX5_speedUp 0 = .ok (.iload_n 1, 1) := by decide +kernel
theorem dX5_speedUp_1 : decode cX5_speedUp 1 = .ok (.ifCond .eq 19, 3) := by decide +kernel
theorem dX5_speedUp_4 : decode cX5_speedUp 4 = .ok (.iload_n 1, 1) := by decide +kernel
theorem dX5_speedUp_5 : decode cX5_speedUp 5 = .ok (.iconst 1, 1) := by decide +kernel
theorem dX5_speedUp_6 : decode cX5_speedUp 6 = .ok (.if_icmp .eq 14, 3) := by decide +kernel
theorem dX5_speedUp_9 : decode cX5_speedUp 9 = .ok (.new 62, 3) := by decide +kernel
theorem dX5_speedUp_12 : decode cX5_speedUp 12 = .ok (.dup, 1) := by decide +kernel
theorem dX5_speedUp_13 : decode cX5_speedUp 13 = .ok (.ldc_w 273, 3) := by decide +kernel
theorem dX5_speedUp_16 : decode cX5_speedUp 16 = .ok (.invokespecial 66, 3) := by decide +kernel
theorem dX5_speedUp_19 : decode cX5_speedUp 19 = .ok (.athrow, 1) := by decide +kernel
theorem dX5_speedUp_20 : decode cX5_speedUp 20 = .ok (.aload_n 0, 1) := by decide +kernel
theorem dX5_speedUp_21 : decode cX5_speedUp 21 = .ok (.getfield 10, 3) := by decide +kernel
theorem dX5_speedUp_24 : decode cX5_speedUp 24 = .ok (.getfield 124, 3) := by decide +kernel
theorem dX5_speedUp_27 : decode cX5_speedUp 27 = .ok (.ifCond .ne 14, 3) := by decide +kernel
theorem dX5_speedUp_30 : decode cX5_speedUp 30 = .ok (.new 72, 3) := by decide +kernel
theorem dX5_speedUp_33 : decode cX5_speedUp 33 = .ok (.dup, 1) := by decide +kernel
theorem dX5_speedUp_34 : decode cX5_speedUp 34 = .ok (.ldc_w 275, 3) := by decide +kernel
theorem dX5_speedUp_37 : decode cX5_speedUp 37 = .ok (.invokespecial 76, 3) := by decide +kernel
theorem dX5_speedUp_40 : decode cX5_speedUp 40 = .ok (.athrow, 1) := by decide +kernel
theorem dX5_speedUp_41 : decode cX5_speedUp 41 = .ok (.aload_n 0, 1) := by decide +kernel
theorem dX5_speedUp_42 : decode cX5_speedUp 42 = .ok (.invokevirtual 230, 3) := by decide +kernel
theorem dX5_speedUp_45 : decode cX5_speedUp 45 = .ok (.aload_n 0, 1) := by decide +kernel
theorem dX5_speedUp_46 : decode cX5_speedUp 46 = .ok (.getfield 10, 3) := by decide +kernel
theorem dX5_speedUp_49 : decode cX5_speedUp 49 = .ok (.invokevirtual 255, 3) := by decide +kernel
theorem dX5_speedUp_52 : decode cX5_speedUp 52 = .ok (.aload_n 0, 1) := by decide +kernel
theorem dX5_speedUp_53 : decode cX5_speedUp 53 = .ok (.getfield 10, 3) := by decide +kernel
theorem dX5_speedUp_56 : decode cX5_speedUp 56 = .ok (.getfield 121, 3) := by decide +kernel
theorem dX5_speedUp_59 : decode cX5_speedUp 59 = .ok (.iconst 0, 1) := by decide +kernel
theorem dX5_speedUp_60 : decode cX5_speedUp 60 = .ok (.iaload, 1) := by decide +kernel
theorem dX5_speedUp_61 : decode cX5_speedUp 61 = .ok (.imul, 1) := by decide +kernel
theorem dX5_speedUp_62 : decode cX5_speedUp 62 = .ok (.istore_n 2, 1) := by decide +kernel
theorem dX5_speedUp_63 : decode cX5_speedUp 63 = .ok (.iload_n 2, 1) := by decide +kernel
theorem dX5_speedUp_64 : decode cX5_speedUp 64 = .ok (.aload_n 0, 1) := by decide +kernel
theorem dX5_speedUp_65 : decode cX5_speedUp 65 = .ok (.getfield 46, 3) := by decide +kernel
theorem dX5_speedUp_68 : decode cX5_speedUp 68 = .ok (.getfield 233, 3) := by decide +kernel
theorem dX5_speedUp_71 : decode cX5_speedUp 71 = .ok (.invokestatic 277, 3) := by decide +kernel
theorem dX5_speedUp_74 : decode cX5_speedUp 74 = .ok (.istore_n 3, 1) := by decide +kernel
theorem dX5_speedUp_75 : decode cX5_speedUp 75 = .ok (.iload_n 3, 1) := by decide +kernel
theorem dX5_speedUp_76 : decode cX5_speedUp 76 = .ok (.iconst 1, 1) := by decide +kernel
theorem dX5_speedUp_77 : decode cX5_speedUp 77 = .ok (.if_icmp .ge 5, 3) := by decide +kernel
theorem dX5_speedUp_80 : decode cX5_speedUp 80 = .ok (.iconst 0, 1) := by decide +kernel
theorem dX5_speedUp_81 : decode cX5_speedUp 81 = .ok (.ireturn, 1) := by decide +kernel
theorem dX5_speedUp_82 : decode cX5_speedUp 82 = .ok (.iload_n 1, 1) := by decide +kernel
theorem dX5_speedUp_83 : decode cX5_speedUp 83 = .ok (.ifCond .ne 7, 3) := by decide +kernel
theorem dX5_speedUp_86 : decode cX5_speedUp 86 = .ok (.iload_n 2, 1) := by decide +kernel
theorem dX5_speedUp_87 : decode cX5_speedUp 87 = .ok (.goto 10, 3) := by decide +kernel
theorem dX5_speedUp_90 : decode cX5_speedUp 90 = .ok (.aload_n 0, 1) := by decide +kernel
theorem dX5_speedUp_91 : decode cX5_speedUp 91 = .ok (.getfield 46, 3) := by decide +kernel
theorem dX5_speedUp_94 : decode cX5_speedUp 94 = .ok (.getfield 233, 3) := by decide +kernel
theorem dX5_speedUp_97 : decode cX5_speedUp 97 = .ok (.iload_n 3, 1) := by decide +kernel
theorem dX5_speedUp_98 : decode cX5_speedUp 98 = .ok (.idiv, 1) := by decide +kernel
theorem dX5_speedUp_99 : decode cX5_speedUp 99 = .ok (.ireturn, 1) := by decide +kernel
set_option maxRecDepth 20000 in
theorem ggX5_bestProcessors_X3_simulate : GoodIn wsX5_bestProcessors wsX3_simulate := goodIn_r _ [7, 8, 9, 10, 11, 12, 13, 14, 15, 16, 6, 17, 18, 19, 20, 21, 22, 23, 24, 25, 26, 27, 28, 29, 30, 31, 32, 33, 34, 35, 36, 37, 38, 39, 40, 41, 42, 43, 44, 45, 46, 47, 48, 49, 50, 51, 52, 53, 54, 55, 56, 57, 58, 59, 60, 61, 62, 63, 64, 65, 66, 67, 68, 69, 70, 71, 72, 73, 74, 75, 76, 77, 87, 88, 89, 90, 91, 92, 93, 94, 95, 96, 97, 98, 99, 100, 101, 102, 103, 104, 105] (by decide +kernel) (by decide +kernel)
set_option maxRecDepth 20000 in
theorem gX5_bestProcessors_X3_simulate : GoodIn wsX5_bestProcessors (wsV RX5 280 RX3 yX3_simulate wsX3_simulate) := goodIn_app (goodIn_of _ (by decide +kernel)) ggX5_bestProcessors_X3_simulate
theorem dX5_bestProcessors_0 : decode cX5_bestProcessors 0 = .ok (.iconst 1, 1) := by decide +kernel
theorem dX5_bestProcessors_1 : decode cX5_bestProcessors 1 = .ok (.istore_n 1, 1) := by decide +kernel
theorem dX5_bestProcessors_2 : decode cX5_bestProcessors 2 = .ok (.iconst 0, 1) := by decide +kernel
theorem dX5_bestProcessors_3 : decode cX5_bestProcessors 3 = .ok (.istore_n 2, 1) := by decide +kernel
theorem dX5_bestProcessors_4 : decode cX5_bestProcessors 4 = .ok (.iconst 1, 1) := by decide +kernel
theorem dX5_bestProcessors_5 : decode cX5_bestProcessors 5 = .ok (.istore_n 3, 1) := by decide +kernel
theorem dX5_bestProcessors_6 : decode cX5_bestProcessors 6 = .ok (.iload_n 3, 1) := by decide +kernel
theorem dX5_bestProcessors_7 : decode cX5_bestProcessors 7 = .ok (.bipush 6, 2) := by decide +kernel
theorem dX5_bestProcessors_9 : decode cX5_bestProcessors 9 = .ok (.if_icmp .gt 47, 3) := by decide +kernel
theorem dX5_bestProcessors_12 : decode cX5_bestProcessors 12 = .ok (.aload_n 0, 1) := by decide +kernel
theorem dX5_bestProcessors_13 : decode cX5_bestProcessors 13 = .ok (.getfield 46, 3) := by decide +kernel
theorem dX5_bestProcessors_16 : decode cX5_bestProcessors 16 = .ok (.aload_n 0, 1) := by decide +kernel
theorem dX5_bestProcessors_17 : decode cX5_bestProcessors 17 = .ok (.getfield 10, 3) := by decide +kernel
theorem dX5_bestProcessors_20 : decode cX5_bestProcessors 20 = .ok (.iload_n 3, 1) := by decide +kernel
theorem dX5_bestProcessors_21 : decode cX5_bestProcessors 21 = .ok (.invokevirtual 280, 3) := by decide +kernel
theorem dX5_bestProcessors_24 : decode cX5_bestProcessors 24 = .ok (.iload_n 3, 1) := by decide +kernel
theorem dX5_bestProcessors_25 : decode cX5_bestProcessors 25 = .ok (.iconst 1, 1) := by decide +kernel
theorem dX5_bestProcessors_26 : decode cX5_bestProcessors 26 = .ok (.if_icmp .eq 14, 3) := by decide +kernel
theorem dX5_bestProcessors_29 : decode cX5_bestProcessors 29 = .ok (.aload_n 0, 1) := by decide +kernel
theorem dX5_bestProcessors_30 : decode cX5_bestProcessors 30 = .ok (.getfield 46, 3) := by decide +kernel
theorem dX5_bestProcessors_33 : decode cX5_bestProcessors 33 = .ok (.getfield 233, 3) := by decide +kernel
theorem dX5_bestProcessors_36 : decode cX5_bestProcessors 36 = .ok (.iload_n 2, 1) := by decide +kernel
theorem dX5_bestProcessors_37 : decode cX5_bestProcessors 37 = .ok (.if_icmp .ge 13, 3) := by decide +kernel
theorem dX5_bestProcessors_40 : decode cX5_bestProcessors 40 = .ok (.iload_n 3, 1) := by decide +kernel
theorem dX5_bestProcessors_41 : decode cX5_bestProcessors 41 = .ok (.istore_n 1, 1) := by decide +kernel
theorem dX5_bestProcessors_42 : decode cX5_bestProcessors 42 = .ok (.aload_n 0, 1) := by decide +kernel
theorem dX5_bestProcessors_43 : decode cX5_bestProcessors 43 = .ok (.getfield 46, 3) := by decide +kernel
theorem dX5_bestProcessors_46 : decode cX5_bestProcessors 46 = .ok (.getfield 233, 3) := by decide +kernel
theorem dX5_bestProcessors_49 : decode cX5_bestProcessors 49 = .ok (.istore_n 2, 1) := by decide +kernel
theorem dX5_bestProcessors_50 : decode cX5_bestProcessors 50 = .ok (.iinc 3 1, 3) := by decide +kernel
theorem dX5_bestProcessors_53 : decode cX5_bestProcessors 53 = .ok (.goto (-47), 3) := by decide +kernel
theorem dX5_bestProcessors_56 : decode cX5_bestProcessors 56 = .ok (.iload_n 1, 1) := by decide +kernel
theorem dX5_bestProcessors_57 : decode cX5_bestProcessors 57 = .ok (.ireturn, 1) := by decide +kernel
set_option maxRecDepth 20000 in
theorem ggX5_signals_X0_isSignalled : GoodIn wsX5_signals wsX0_isSignalled := goodIn_r _ [10, 11, 12, 13, 14, 15, 9, 16, 17, 27, 28, 29, 30, 31, 32, 33, 34, 35, 36, 37, 38] (by decide +kernel) (by decide +kernel)
set_option maxRecDepth 20000 in
theorem gX5_signals_X0_isSignalled : GoodIn wsX5_signals (wsV RX5 207 RX0 yX0_isSignalled wsX0_isSignalled) := goodIn_app (goodIn_of _ (by decide +kernel)) ggX5_signals_X0_isSignalled
theorem dX5_signals_0 : decode cX5_signals 0 = .ok (.iconst 0, 1) := by decide +kernel
theorem dX5_signals_1 : decode cX5_signals 1 = .ok (.istore_n 1, 1) := by decide +kernel
theorem dX5_signals_2 : decode cX5_signals 2 = .ok (.iconst 0, 1) := by decide +kernel
theorem dX5_signals_3 : decode cX5_signals 3 = .ok (.istore_n 2, 1) := by decide +kernel
theorem dX5_signals_4 : decode cX5_signals 4 = .ok (.iload_n 2, 1) := by decide +kernel
theorem dX5_signals_5 : decode cX5_signals 5 = .ok (.aload_n 0, 1) := by decide +kernel
theorem dX5_signals_6 : decode cX5_signals 6 = .ok (.getfield 10, 3) := by decide +kernel
theorem dX5_signals_9 : decode cX5_signals 9 = .ok (.getfield 151, 3) := by decide +kernel
theorem dX5_signals_12 : decode cX5_signals 12 = .ok (.if_icmp .ge 46, 3) := by decide +kernel
theorem dX5_signals_15 : decode cX5_signals 15 = .ok (.aload_n 0, 1) := by decide +kernel
theorem dX5_signals_16 : decode cX5_signals 16 = .ok (.getfield 10, 3) := by decide +kernel
theorem dX5_signals_19 : decode cX5_signals 19 = .ok (.iload_n 2, 1) := by decide +kernel
theorem dX5_signals_20 : decode cX5_signals 20 = .ok (.invokevirtual 207, 3) := by decide +kernel
theorem dX5_signals_23 : decode cX5_signals 23 = .ok (.ifCond .eq 29, 3) := by decide +kernel
theorem dX5_signals_26 : decode cX5_signals 26 = .ok (.iload_n 1, 1) := by decide +kernel
theorem dX5_signals_27 : decode cX5_signals 27 = .ok (.iconst 0, 1) := by decide +kernel
theorem dX5_signals_28 : decode cX5_signals 28 = .ok (.aload_n 0, 1) := by decide +kernel
theorem dX5_signals_29 : decode cX5_signals 29 = .ok (.getfield 10, 3) := by decide +kernel
theorem dX5_signals_32 : decode cX5_signals 32 = .ok (.getfield 121, 3) := by decide +kernel
theorem dX5_signals_35 : decode cX5_signals 35 = .ok (.iconst 0, 1) := by decide +kernel
theorem dX5_signals_36 : decode cX5_signals 36 = .ok (.iaload, 1) := by decide +kernel
theorem dX5_signals_37 : decode cX5_signals 37 = .ok (.aload_n 0, 1) := by decide +kernel
theorem dX5_signals_38 : decode cX5_signals 38 = .ok (.getfield 10, 3) := by decide +kernel
theorem dX5_signals_41 : decode cX5_signals 41 = .ok (.getfield 177, 3) := by decide +kernel
theorem dX5_signals_44 : decode cX5_signals 44 = .ok (.iload_n 2, 1) := by decide +kernel
theorem dX5_signals_45 : decode cX5_signals 45 = .ok (.iaload, 1) := by decide +kernel
theorem dX5_signals_46 : decode cX5_signals 46 = .ok (.isub, 1) := by decide +kernel
theorem dX5_signals_47 : decode cX5_signals 47 = .ok (.invokestatic 283, 3) := by decide +kernel
theorem dX5_signals_50 : decode cX5_signals 50 = .ok (.iadd, 1) := by decide +kernel
theorem dX5_signals_51 : decode cX5_signals 51 = .ok (.istore_n 1, 1) := by decide +kernel
theorem dX5_signals_52 : decode cX5_signals 52 = .ok (.iinc 2 1, 3) := by decide +kernel
theorem dX5_signals_55 : decode cX5_signals 55 = .ok (.goto (-51), 3) := by decide +kernel
theorem dX5_signals_58 : decode cX5_signals 58 = .ok (.iload_n 1, 1) := by decide +kernel
theorem dX5_signals_59 : decode cX5_signals 59 = .ok (.ireturn, 1) := by decide +kernel
set_option maxRecDepth 20000 in
theorem ggX5_violated_X5_simulate : GoodIn wsX5_violated wsX5_simulate := goodIn_r _ [7, 2, 1, 8, 9, 10, 11, 12, 13, 14, 15, 16, 17, 18, 19, 20, 21, 22, 23, 24, 25, 26, 27, 28, 29, 30, 31, 32, 33, 34, 35, 36, 37, 38, 39, 40, 41, 42, 43, 44, 45, 46, 47, 48, 49, 50, 51, 52, 53, 54, 55, 56, 57, 58, 59, 60, 61, 62, 63, 64, 65, 66, 67, 68, 69, 70, 71, 72, 73, 74, 75, 76, 77, 78, 79, 80, 81, 82, 88, 89, 90, 91, 92, 93, 94, 95, 96, 97, 98, 99, 100, 101, 102, 103, 104, 105, 106, 107, 108, 109, 110, 111, 112, 113, 114, 115] (by decide +kernel) (by decide +kernel)
set_option maxRecDepth 20000 in
theorem gX5_violated_X5_simulate : GoodIn wsX5_violated (wsV RX5 230 RX5 yX5_simulate wsX5_simulate) := goodIn_app (goodIn_of _ (by decide +kernel)) ggX5_violated_X5_simulate
set_option maxRecDepth 20000 in
theorem ggX5_violated_X3_violates : GoodIn wsX5_violated wsX3_violates := goodIn_r _ [86, 87, 52, 53, 38, 54, 55, 64, 65, 66, 67, 68, 69, 70, 71, 72, 32, 33, 34, 51, 73, 74, 75, 76, 77, 56, 57, 58, 11, 59, 60, 61, 62, 63, 97, 98, 99, 100, 101, 102, 103, 104, 105, 106, 107, 108, 109, 110, 111, 112, 113, 114, 115] (by decide +kernel) (by decide +kernel)
set_option maxRecDepth 20000 in
theorem gX5_violated_X3_violates : GoodIn wsX5_violated (wsV RX5 288 RX3 yX3_violates wsX3_violates) := goodIn_app (goodIn_of _ (by decide +kernel)) ggX5_violated_X3_violates
theorem dX5_violated_0 : decode cX5_violated 0 = .ok (.aload_n 0, 1) := by decide +kernel
theorem dX5_violated_1 : decode cX5_violated 1 = .ok (.invokevirtual 230, 3) := by decide +kernel
theorem dX5_violated_4 : decode cX5_violated 4 = .ok (.iconst 0, 1) := by decide +kernel
theorem dX5_violated_5 : decode cX5_violated 5 = .ok (.istore_n 1, 1) := by decide +kernel
theorem dX5_violated_6 : decode cX5_violated 6 = .ok (.iload_n 1, 1) := by decide +kernel
theorem dX5_violated_7 : decode cX5_violated 7 = .ok (.aload_n 0, 1) := by decide +kernel
theorem dX5_violated_8 : decode cX5_violated 8 = .ok (.getfield 10, 3) := by decide +kernel
theorem dX5_violated_11 : decode cX5_violated 11 = .ok (.getfield 151, 3) := by decide +kernel
theorem dX5_violated_14 : decode cX5_violated 14 = .ok (.if_icmp .ge 26, 3) := by decide +kernel
theorem dX5_violated_17 : decode cX5_violated 17 = .ok (.aload_n 0, 1) := by decide +kernel
theorem dX5_violated_18 : decode cX5_violated 18 = .ok (.getfield 46, 3) := by decide +kernel
theorem dX5_violated_21 : decode cX5_violated 21 = .ok (.aload_n 0, 1) := by decide +kernel
theorem dX5_violated_22 : decode cX5_violated 22 = .ok (.getfield 10, 3) := by decide +kernel
theorem dX5_violated_25 : decode cX5_violated 25 = .ok (.iload_n 1, 1) := by decide +kernel
theorem dX5_violated_26 : decode cX5_violated 26 = .ok (.invokevirtual 288, 3) := by decide +kernel
theorem dX5_violated_29 : decode cX5_violated 29 = .ok (.ifCond .eq 5, 3) := by decide +kernel
theorem dX5_violated_32 : decode cX5_violated 32 = .ok (.iload_n 1, 1) := by decide +kernel
theorem dX5_violated_33 : decode cX5_violated 33 = .ok (.ireturn, 1) := by decide +kernel
theorem dX5_violated_34 : decode cX5_violated 34 = .ok (.iinc 1 1, 3) := by decide +kernel
theorem dX5_violated_37 : decode cX5_violated 37 = .ok (.goto (-31), 3) := by decide +kernel
theorem dX5_violated_40 : decode cX5_violated 40 = .ok (.iconst (-1), 1) := by decide +kernel
theorem dX5_violated_41 : decode cX5_violated 41 = .ok (.ireturn, 1) := by decide +kernel
set_option maxRecDepth 20000 in
theorem ggX5_save_X0_copyFrom : GoodIn wsX5_save wsX0_copyFrom := goodIn_r _ [8, 9, 10, 11, 12, 13, 14, 15, 16, 17, 7, 18, 19, 20, 21, 22, 23, 33, 34, 35, 36, 37, 38, 39, 40, 41, 42, 43, 44] (by decide +kernel) (by decide +kernel)
set_option maxRecDepth 20000 in
theorem gX5_save_X0_copyFrom : GoodIn wsX5_save (wsV RX5 84 RX0 yX0_copyFrom wsX0_copyFrom) := goodIn_app (goodIn_of _ (by decide +kernel)) ggX5_save_X0_copyFrom
theorem dX5_save_0 : decode cX5_save 0 = .ok (.aload_n 0, 1) := by decide +kernel
theorem dX5_save_1 : decode cX5_save 1 = .ok (.getfield 16, 3) := by decide +kernel
theorem dX5_save_4 : decode cX5_save 4 = .ok (.aload_n 0, 1) := by decide +kernel
theorem dX5_save_5 : decode cX5_save 5 = .ok (.getfield 10, 3) := by decide +kernel
theorem dX5_save_8 : decode cX5_save 8 = .ok (.invokevirtual 84, 3) := by decide +kernel
theorem dX5_save_11 : decode cX5_save 11 = .ok (.aload_n 0, 1) := by decide +kernel
theorem dX5_save_12 : decode cX5_save 12 = .ok (.iconst 1, 1) := by decide +kernel
theorem dX5_save_13 : decode cX5_save 13 = .ok (.putfield 50, 3) := by decide +kernel
theorem dX5_save_16 : decode cX5_save 16 = .ok (.aload_n 0, 1) := by decide +kernel
theorem dX5_save_17 : decode cX5_save 17 = .ok (.getfield 10, 3) := by decide +kernel
theorem dX5_save_20 : decode cX5_save 20 = .ok (.getfield 151, 3) := by decide +kernel
theorem dX5_save_23 : decode cX5_save 23 = .ok (.ireturn, 1) := by decide +kernel
set_option maxRecDepth 20000 in
theorem ggX5_restore_X0_copyFrom : GoodIn wsX5_restore wsX0_copyFrom := goodIn_r _ [10, 11, 12, 13, 14, 15, 16, 17, 18, 19, 9, 20, 21, 22, 23, 24, 25, 35, 36, 37, 38, 39, 40, 41, 42, 43, 44, 45, 46] (by decide +kernel) (by decide +kernel)
set_option maxRecDepth 20000 in
theorem gX5_restore_X0_copyFrom : GoodIn wsX5_restore (wsV RX5 84 RX0 yX0_copyFrom wsX0_copyFrom) := goodIn_app (goodIn_of _ (by decide +kernel)) ggX5_restore_X0_copyFrom
theorem dX5_restore_0 : decode cX5_restore 0 = .ok (.aload_n 0, 1) := by decide +kernel
theorem dX5_restore_1 : decode cX5_restore 1 = .ok (.getfield 50, 3) := by decide +kernel
theorem dX5_restore_4 : decode cX5_restore 4 = .ok (.ifCond .ne 14, 3) := by decide +kernel
theorem dX5_restore_7 : decode cX5_restore 7 = .ok (.new 72, 3) := by decide +kernel
theorem dX5_restore_10 : decode cX5_restore 10 = .ok (.dup, 1) := by decide +kernel
theorem dX5_restore_11 : decode cX5_restore 11 = .ok (.ldc_w 292, 3) := by decide +kernel
theorem dX5_restore_14 : decode cX5_restore 14 = .ok (.invokespecial 76, 3) := by decide +kernel
theorem dX5_restore_17 : decode cX5_restore 17 = .ok (.athrow, 1) := by decide +kernel
theorem dX5_restore_18 : decode cX5_restore 18 = .ok (.aload_n 0, 1) := by decide +kernel
theorem dX5_restore_19 : decode cX5_restore 19 = .ok (.getfield 10, 3) := by decide +kernel
theorem dX5_restore_22 : decode cX5_restore 22 = .ok (.aload_n 0, 1) := by decide +kernel
theorem dX5_restore_23 : decode cX5_restore 23 = .ok (.getfield 16, 3) := by decide +kernel
theorem dX5_restore_26 : decode cX5_restore 26 = .ok (.invokevirtual 84, 3) := by decide +kernel
theorem dX5_restore_29 : decode cX5_restore 29 = .ok (.aload_n 0, 1) := by decide +kernel
theorem dX5_restore_30 : decode cX5_restore 30 = .ok (.getfield 10, 3) := by decide +kernel
theorem dX5_restore_33 : decode cX5_restore 33 = .ok (.getfield 151, 3) := by decide +kernel
theorem dX5_restore_36 : decode cX5_restore 36 = .ok (.ireturn, 1) := by decide +kernel
set_option maxRecDepth 20000 in
theorem ggX5_count_X0_signalledDependences : GoodIn wsX5_count wsX0_signalledDependences := goodIn_r _ [9, 10, 11, 12, 13, 8, 14, 15, 16, 17, 18, 19, 20, 36, 37, 38, 39, 40, 41, 42, 43, 44, 45, 46, 47] (by decide +kernel) (by decide +kernel)
set_option maxRecDepth 20000 in
theorem gX5_count_X0_signalledDependences : GoodIn wsX5_count (wsV RX5 294 RX0 yX0_signalledDependences wsX0_signalledDependences) := goodIn_app (goodIn_of _ (by decide +kernel)) ggX5_count_X0_signalledDependences
set_option maxRecDepth 20000 in
theorem ggX5_count_X0_sumOfCosts : GoodIn wsX5_count wsX0_sumOfCosts := goodIn_r _ [24, 25, 26, 36, 37, 38, 39, 40, 41, 42, 43, 44, 45, 46, 47] (by decide +kernel) (by decide +kernel)
set_option maxRecDepth 20000 in
theorem gX5_count_X0_sumOfCosts : GoodIn wsX5_count (wsV RX5 255 RX0 yX0_sumOfCosts wsX0_sumOfCosts) := goodIn_app (goodIn_of _ (by decide +kernel)) ggX5_count_X0_sumOfCosts
theorem dX5_count_0 : decode cX5_count 0 = .ok (.iload_n 1, 1) := by decide +kernel
theorem dX5_count_1 : decode cX5_count 1 = .ok (.bipush 10, 2) := by decide +kernel
theorem dX5_count_3 : decode cX5_count 3 = .ok (.if_icmp .lt 22, 3) := by decide +kernel
theorem dX5_count_6 : decode cX5_count 6 = .ok (.iload_n 1, 1) := by decide +kernel
theorem dX5_count_7 : decode cX5_count 7 = .ok (.bipush 14, 2) := by decide +kernel
theorem dX5_count_9 : decode cX5_count 9 = .ok (.if_icmp .ge 16, 3) := by decide +kernel
theorem dX5_count_12 : decode cX5_count 12 = .ok (.aload_n 0, 1) := by decide +kernel
theorem dX5_count_13 : decode cX5_count 13 = .ok (.getfield 10, 3) := by decide +kernel
theorem dX5_count_16 : decode cX5_count 16 = .ok (.getfield 121, 3) := by decide +kernel
theorem dX5_count_19 : decode cX5_count 19 = .ok (.iload_n 1, 1) := by decide +kernel
theorem dX5_count_20 : decode cX5_count 20 = .ok (.bipush 10, 2) := by decide +kernel
theorem dX5_count_22 : decode cX5_count 22 = .ok (.isub, 1) := by decide +kernel
theorem dX5_count_23 : decode cX5_count 23 = .ok (.iaload, 1) := by decide +kernel
theorem dX5_count_24 : decode cX5_count 24 = .ok (.ireturn, 1) := by decide +kernel
theorem dX5_count_25 : decode cX5_count 25 = .ok (.iload_n 1, 1) := by decide +kernel
theorem dX5_count_26 : decode cX5_count 26 = .ok (.tableswitch 74 0 4 #[34, 42, 50, 58, 66], 34) := by decide +kernel
theorem dX5_count_60 : decode cX5_count 60 = .ok (.aload_n 0, 1) := by decide +kernel
theorem dX5_count_61 : decode cX5_count 61 = .ok (.getfield 10, 3) := by decide +kernel
theorem dX5_count_64 : decode cX5_count 64 = .ok (.getfield 124, 3) := by decide +kernel
theorem dX5_count_67 : decode cX5_count 67 = .ok (.ireturn, 1) := by decide +kernel
theorem dX5_count_68 : decode cX5_count 68 = .ok (.aload_n 0, 1) := by decide +kernel
theorem dX5_count_69 : decode cX5_count 69 = .ok (.getfield 10, 3) := by decide +kernel
theorem dX5_count_72 : decode cX5_count 72 = .ok (.getfield 151, 3) := by decide +kernel
theorem dX5_count_75 : decode cX5_count 75 = .ok (.ireturn, 1) := by decide +kernel
theorem dX5_count_76 : decode cX5_count 76 = .ok (.aload_n 0, 1) := by decide +kernel
theorem dX5_count_77 : decode cX5_count 77 = .ok (.getfield 10, 3) := by decide +kernel
theorem dX5_count_80 : decode cX5_count 80 = .ok (.invokevirtual 294, 3) := by decide +kernel
theorem dX5_count_83 : decode cX5_count 83 = .ok (.ireturn, 1) := by decide +kernel
theorem dX5_count_84 : decode cX5_count 84 = .ok (.aload_n 0, 1) := by decide +kernel
theorem dX5_count_85 : decode cX5_count 85 = .ok (.getfield 25, 3) := by decide +kernel
theorem dX5_count_88 : decode cX5_count 88 = .ok (.getfield 81, 3) := by decide +kernel
theorem dX5_count_91 : decode cX5_count 91 = .ok (.ireturn, 1) := by decide +kernel
theorem dX5_count_92 : decode cX5_count 92 = .ok (.aload_n 0, 1) := by decide +kernel
theorem dX5_count_93 : decode cX5_count 93 = .ok (.getfield 10, 3) := by decide +kernel
theorem dX5_count_96 : decode cX5_count 96 = .ok (.invokevirtual 255, 3) := by decide +kernel
theorem dX5_count_99 : decode cX5_count 99 = .ok (.ireturn, 1) := by decide +kernel
theorem dX5_count_100 : decode cX5_count 100 = .ok (.new 62, 3) := by decide +kernel
theorem dX5_count_103 : decode cX5_count 103 = .ok (.dup, 1) := by decide +kernel
theorem dX5_count_104 : decode cX5_count 104 = .ok (.ldc_w 297, 3) := by decide +kernel
theorem dX5_count_107 : decode cX5_count 107 = .ok (.invokespecial 66, 3) := by decide +kernel
theorem dX5_count_110 : decode cX5_count 110 = .ok (.athrow, 1) := by decide +kernel
set_option maxRecDepth 20000 in
theorem ggX5_simulate_X3_simulate : GoodIn wsX5_simulate wsX3_simulate := goodIn_r _ [7, 8, 9, 10, 11, 12, 13, 14, 15, 16, 6, 17, 18, 19, 20, 21, 22, 23, 24, 25, 26, 27, 28, 29, 30, 31, 32, 33, 34, 35, 36, 37, 38, 39, 40, 41, 42, 43, 44, 45, 46, 47, 48, 49, 50, 51, 52, 53, 54, 55, 56, 57, 58, 59, 60, 61, 62, 63, 64, 65, 66, 67, 68, 69, 70, 71, 72, 73, 74, 75, 76, 77, 99, 100, 101, 102, 103, 104, 105, 87, 88, 89, 90, 91, 92, 93, 94, 95, 96, 97, 98] (by decide +kernel) (by decide +kernel)
set_option maxRecDepth 20000 in
theorem gX5_simulate_X3_simulate : GoodIn wsX5_simulate (wsV RX5 280 RX3 yX3_simulate wsX3_simulate) := goodIn_app (goodIn_of _ (by decide +kernel)) ggX5_simulate_X3_simulate
theorem dX5_simulate_0 : decode cX5_simulate 0 = .ok (.aload_n 0, 1) := by decide +kernel
theorem dX5_simulate_1 : decode cX5_simulate 1 = .ok (.getfield 46, 3) := by decide +kernel
theorem dX5_simulate_4 : decode cX5_simulate 4 = .ok (.aload_n 0, 1) := by decide +kernel
theorem dX5_simulate_5 : decode cX5_simulate 5 = .ok (.getfield 10, 3) := by decide +kernel
theorem dX5_simulate_8 : decode cX5_simulate 8 = .ok (.aload_n 0, 1) := by decide +kernel
theorem dX5_simulate_9 : decode cX5_simulate 9 = .ok (.getfield 10, 3) := by decide +kernel
theorem dX5_simulate_12 : decode cX5_simulate 12 = .ok (.getfield 121, 3) := by decide +kernel
theorem dX5_simulate_15 : decode cX5_simulate 15 = .ok (.iconst 2, 1) := by decide +kernel
theorem dX5_simulate_16 : decode cX5_simulate 16 = .ok (.iaload, 1) := by decide +kernel
theorem dX5_simulate_17 : decode cX5_simulate 17 = .ok (.invokevirtual 280, 3) := by decide +kernel
theorem dX5_simulate_20 : decode cX5_simulate 20 = .ok (.return_, 1) := by decide +kernel
set_option maxRecDepth 20000 in
theorem ggX5_isImplied_X2_greatestSum : GoodIn wsX5_isImplied wsX2_greatestSum := goodIn_r _ [7, 8, 9, 10, 11, 12, 13, 14, 15, 16, 17, 18, 19, 20, 21, 22, 6, 23, 24, 25, 26, 27, 28, 29, 30, 31, 32, 33, 34, 35, 36, 37, 38, 39, 40, 41, 42, 43, 44, 45, 46, 47, 48, 49, 50, 51, 52, 53, 54, 55, 56, 57, 58, 59, 60, 61, 62, 63, 64, 65, 66, 67, 68, 69, 70, 71, 72, 73, 74, 75, 76, 77, 78, 89, 90, 91, 92, 93, 94, 95, 96, 97, 98, 99, 100, 101] (by decide +kernel) (by decide +kernel)
set_option maxRecDepth 20000 in
theorem gX5_isImplied_X2_greatestSum : GoodIn wsX5_isImplied (wsV RX5 194 RX2 yX2_greatestSum wsX2_greatestSum) := goodIn_app (goodIn_of _ (by decide +kernel)) ggX5_isImplied_X2_greatestSum
set_option maxRecDepth 20000 in
theorem ggX5_isImplied_X0_lagOf : GoodIn wsX5_isImplied wsX0_lagOf := goodIn_r _ [68, 69, 70, 71, 72, 73, 25, 26, 27, 64, 10, 11, 12, 13, 14, 74, 50, 51, 52, 53, 89, 90, 91, 92, 93, 94, 95, 96, 97, 98, 99, 100] (by decide +kernel) (by decide +kernel)
set_option maxRecDepth 20000 in
theorem gX5_isImplied_X0_lagOf : GoodIn wsX5_isImplied (wsV RX5 180 RX0 yX0_lagOf wsX0_lagOf) := goodIn_app (goodIn_of _ (by decide +kernel)) ggX5_isImplied_X0_lagOf
theorem dX5_isImplied_0 : decode cX5_isImplied 0 = .ok (.aload_n 0, 1) := by decide +kernel
theorem dX5_isImplied_1 : decode cX5_isImplied 1 = .ok (.getfield 32, 3) := by decide +kernel
theorem dX5_isImplied_4 : decode cX5_isImplied 4 = .ok (.aload_n 0, 1) := by decide +kernel
theorem dX5_isImplied_5 : decode cX5_isImplied 5 = .ok (.getfield 10, 3) := by decide +kernel
theorem dX5_isImplied_8 : decode cX5_isImplied 8 = .ok (.iload_n 1, 1) := by decide +kernel
theorem dX5_isImplied_9 : decode cX5_isImplied 9 = .ok (.iload_n 2, 1) := by decide +kernel
theorem dX5_isImplied_10 : decode cX5_isImplied 10 = .ok (.invokevirtual 194, 3) := by decide +kernel
theorem dX5_isImplied_13 : decode cX5_isImplied 13 = .ok (.aload_n 0, 1) := by decide +kernel
theorem dX5_isImplied_14 : decode cX5_isImplied 14 = .ok (.getfield 10, 3) := by decide +kernel
theorem dX5_isImplied_17 : decode cX5_isImplied 17 = .ok (.iload_n 1, 1) := by decide +kernel
theorem dX5_isImplied_18 : decode cX5_isImplied 18 = .ok (.invokevirtual 180, 3) := by decide +kernel
theorem dX5_isImplied_21 : decode cX5_isImplied 21 = .ok (.if_icmp .lt 7, 3) := by decide +kernel
theorem dX5_isImplied_24 : decode cX5_isImplied 24 = .ok (.iconst 1, 1) := by decide +kernel
theorem dX5_isImplied_25 : decode cX5_isImplied 25 = .ok (.goto 4, 3) := by decide +kernel
theorem dX5_isImplied_28 : decode cX5_isImplied 28 = .ok (.iconst 0, 1) := by decide +kernel
theorem dX5_isImplied_29 : decode cX5_isImplied 29 = .ok (.ireturn, 1) := by decide +kernel
theorem dX5_isMode_0 : decode cX5_isMode 0 = .ok (.iload_n 0, 1) := by decide +kernel
theorem dX5_isMode_1 : decode cX5_isMode 1 = .ok (.ifCond .eq 8, 3) := by decide +kernel
theorem dX5_isMode_4 : decode cX5_isMode 4 = .ok (.iload_n 0, 1) := by decide +kernel
theorem dX5_isMode_5 : decode cX5_isMode 5 = .ok (.iconst 1, 1) := by decide +kernel
theorem dX5_isMode_6 : decode cX5_isMode 6 = .ok (.if_icmp .ne 7, 3) := by decide +kernel
theorem dX5_isMode_9 : decode cX5_isMode 9 = .ok (.iconst 1, 1) := by decide +kernel
theorem dX5_isMode_10 : decode cX5_isMode 10 = .ok (.goto 4, 3) := by decide +kernel
theorem dX5_isMode_13 : decode cX5_isMode 13 = .ok (.iconst 0, 1) := by decide +kernel
theorem dX5_isMode_14 : decode cX5_isMode 14 = .ok (.ireturn, 1) := by decide +kernel
theorem dX5_greatestDivisor_0 : decode cX5_greatestDivisor 0 = .ok (.iload_n 0, 1) := by decide +kernel
theorem dX5_greatestDivisor_1 : decode cX5_greatestDivisor 1 = .ok (.istore_n 2, 1) := by decide +kernel
theorem dX5_greatestDivisor_2 : decode cX5_greatestDivisor 2 = .ok (.iload_n 1, 1) := by decide +kernel
theorem dX5_greatestDivisor_3 : decode cX5_greatestDivisor 3 = .ok (.istore_n 3, 1) := by decide +kernel
theorem dX5_greatestDivisor_4 : decode cX5_greatestDivisor 4 = .ok (.iconst 0, 1) := by decide +kernel
theorem dX5_greatestDivisor_5 : decode cX5_greatestDivisor 5 = .ok (.istore 4, 2) := by decide +kernel
theorem dX5_greatestDivisor_7 : decode cX5_greatestDivisor 7 = .ok (.iload 4, 2) := by decide +kernel
theorem dX5_greatestDivisor_9 : decode cX5_greatestDivisor 9 = .ok (.bipush 47, 2) := by decide +kernel
theorem dX5_greatestDivisor_11 : decode cX5_greatestDivisor 11 = .ok (.if_icmp .ge 23, 3) := by decide +kernel
theorem dX5_greatestDivisor_14 : decode cX5_greatestDivisor 14 = .ok (.iload_n 3, 1) := by decide +kernel
theorem dX5_greatestDivisor_15 : decode cX5_greatestDivisor 15 = .ok (.ifCond .eq 19, 3) := by decide +kernel
theorem dX5_greatestDivisor_18 : decode cX5_greatestDivisor 18 = .ok (.iload_n 2, 1) := by decide +kernel
theorem dX5_greatestDivisor_19 : decode cX5_greatestDivisor 19 = .ok (.iload_n 3, 1) := by decide +kernel
theorem dX5_greatestDivisor_20 : decode cX5_greatestDivisor 20 = .ok (.irem, 1) := by decide +kernel
theorem dX5_greatestDivisor_21 : decode cX5_greatestDivisor 21 = .ok (.istore 5, 2) := by decide +kernel
theorem dX5_greatestDivisor_23 : decode cX5_greatestDivisor 23 = .ok (.iload_n 3, 1) := by decide +kernel
theorem dX5_greatestDivisor_24 : decode cX5_greatestDivisor 24 = .ok (.istore_n 2, 1) := by decide +kernel
theorem dX5_greatestDivisor_25 : decode cX5_greatestDivisor 25 = .ok (.iload 5, 2) := by decide +kernel
theorem dX5_greatestDivisor_27 : decode cX5_greatestDivisor 27 = .ok (.istore_n 3, 1) := by decide +kernel
theorem dX5_greatestDivisor_28 : decode cX5_greatestDivisor 28 = .ok (.iinc 4 1, 3) := by decide +kernel
theorem dX5_greatestDivisor_31 : decode cX5_greatestDivisor 31 = .ok (.goto (-24), 3) := by decide +kernel
theorem dX5_greatestDivisor_34 : decode cX5_greatestDivisor 34 = .ok (.iload_n 2, 1) := by decide +kernel
theorem dX5_greatestDivisor_35 : decode cX5_greatestDivisor 35 = .ok (.ireturn, 1) := by decide +kernel
