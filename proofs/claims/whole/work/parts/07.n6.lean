theorem dX6_init_0 : decode cX6_init 0 = .ok (.aload_n 0, 1) := by decide +kernel
theorem dX6_init_1 : decode cX6_init 1 = .ok (.invokespecial 1, 3) := by decide +kernel
theorem dX6_init_4 : decode cX6_init 4 = .ok (.aload_n 0, 1) := by decide +kernel
theorem dX6_init_5 : decode cX6_init 5 = .ok (.bipush 110, 2) := by decide +kernel
theorem dX6_init_7 : decode cX6_init 7 = .ok (.newarray .int, 2) := by decide +kernel
theorem dX6_init_9 : decode cX6_init 9 = .ok (.putfield 7, 3) := by decide +kernel
theorem dX6_init_12 : decode cX6_init 12 = .ok (.aload_n 0, 1) := by decide +kernel
theorem dX6_init_13 : decode cX6_init 13 = .ok (.bipush 110, 2) := by decide +kernel
theorem dX6_init_15 : decode cX6_init 15 = .ok (.newarray .int, 2) := by decide +kernel
theorem dX6_init_17 : decode cX6_init 17 = .ok (.putfield 13, 3) := by decide +kernel
theorem dX6_init_20 : decode cX6_init 20 = .ok (.aload_n 0, 1) := by decide +kernel
theorem dX6_init_21 : decode cX6_init 21 = .ok (.bipush 60, 2) := by decide +kernel
theorem dX6_init_23 : decode cX6_init 23 = .ok (.newarray .int, 2) := by decide +kernel
theorem dX6_init_25 : decode cX6_init 25 = .ok (.putfield 16, 3) := by decide +kernel
theorem dX6_init_28 : decode cX6_init 28 = .ok (.aload_n 0, 1) := by decide +kernel
theorem dX6_init_29 : decode cX6_init 29 = .ok (.iconst (-1), 1) := by decide +kernel
theorem dX6_init_30 : decode cX6_init 30 = .ok (.putfield 19, 3) := by decide +kernel
theorem dX6_init_33 : decode cX6_init 33 = .ok (.aload_n 0, 1) := by decide +kernel
theorem dX6_init_34 : decode cX6_init 34 = .ok (.bipush 48, 2) := by decide +kernel
theorem dX6_init_36 : decode cX6_init 36 = .ok (.newarray .int, 2) := by decide +kernel
theorem dX6_init_38 : decode cX6_init 38 = .ok (.putfield 23, 3) := by decide +kernel
theorem dX6_init_41 : decode cX6_init 41 = .ok (.aload_n 0, 1) := by decide +kernel
theorem dX6_init_42 : decode cX6_init 42 = .ok (.bipush 8, 2) := by decide +kernel
theorem dX6_init_44 : decode cX6_init 44 = .ok (.newarray .int, 2) := by decide +kernel
theorem dX6_init_46 : decode cX6_init 46 = .ok (.putfield 26, 3) := by decide +kernel
theorem dX6_init_49 : decode cX6_init 49 = .ok (.aload_n 0, 1) := by decide +kernel
theorem dX6_init_50 : decode cX6_init 50 = .ok (.bipush 8, 2) := by decide +kernel
theorem dX6_init_52 : decode cX6_init 52 = .ok (.newarray .int, 2) := by decide +kernel
theorem dX6_init_54 : decode cX6_init 54 = .ok (.putfield 29, 3) := by decide +kernel
theorem dX6_init_57 : decode cX6_init 57 = .ok (.aload_n 0, 1) := by decide +kernel
theorem dX6_init_58 : decode cX6_init 58 = .ok (.sipush 320, 3) := by decide +kernel
theorem dX6_init_61 : decode cX6_init 61 = .ok (.newarray .int, 2) := by decide +kernel
theorem dX6_init_63 : decode cX6_init 63 = .ok (.putfield 32, 3) := by decide +kernel
theorem dX6_init_66 : decode cX6_init 66 = .ok (.aload_n 0, 1) := by decide +kernel
theorem dX6_init_67 : decode cX6_init 67 = .ok (.bipush 40, 2) := by decide +kernel
theorem dX6_init_69 : decode cX6_init 69 = .ok (.newarray .int, 2) := by decide +kernel
theorem dX6_init_71 : decode cX6_init 71 = .ok (.putfield 35, 3) := by decide +kernel
theorem dX6_init_74 : decode cX6_init 74 = .ok (.aload_n 0, 1) := by decide +kernel
theorem dX6_init_75 : decode cX6_init 75 = .ok (.bipush 6, 2) := by decide +kernel
theorem dX6_init_77 : decode cX6_init 77 = .ok (.newarray .int, 2) := by decide +kernel
theorem dX6_init_79 : decode cX6_init 79 = .ok (.putfield 38, 3) := by decide +kernel
theorem dX6_init_82 : decode cX6_init 82 = .ok (.aload_n 0, 1) := by decide +kernel
theorem dX6_init_83 : decode cX6_init 83 = .ok (.bipush 6, 2) := by decide +kernel
theorem dX6_init_85 : decode cX6_init 85 = .ok (.newarray .int, 2) := by decide +kernel
theorem dX6_init_87 : decode cX6_init 87 = .ok (.putfield 41, 3) := by decide +kernel
theorem dX6_init_90 : decode cX6_init 90 = .ok (.aload_n 0, 1) := by decide +kernel
theorem dX6_init_91 : decode cX6_init 91 = .ok (.bipush 6, 2) := by decide +kernel
theorem dX6_init_93 : decode cX6_init 93 = .ok (.newarray .int, 2) := by decide +kernel
theorem dX6_init_95 : decode cX6_init 95 = .ok (.putfield 44, 3) := by decide +kernel
theorem dX6_init_98 : decode cX6_init 98 = .ok (.aload_n 0, 1) := by decide +kernel
theorem dX6_init_99 : decode cX6_init 99 = .ok (.bipush 6, 2) := by decide +kernel
theorem dX6_init_101 : decode cX6_init 101 = .ok (.newarray .int, 2) := by decide +kernel
theorem dX6_init_103 : decode cX6_init 103 = .ok (.putfield 47, 3) := by decide +kernel
theorem dX6_init_106 : decode cX6_init 106 = .ok (.aload_n 0, 1) := by decide +kernel
theorem dX6_init_107 : decode cX6_init 107 = .ok (.bipush 6, 2) := by decide +kernel
theorem dX6_init_109 : decode cX6_init 109 = .ok (.newarray .int, 2) := by decide +kernel
theorem dX6_init_111 : decode cX6_init 111 = .ok (.putfield 50, 3) := by decide +kernel
theorem dX6_init_114 : decode cX6_init 114 = .ok (.aload_n 0, 1) := by decide +kernel
theorem dX6_init_115 : decode cX6_init 115 = .ok (.getfield 7, 3) := by decide +kernel
theorem dX6_init_118 : decode cX6_init 118 = .ok (.iconst 2, 1) := by decide +kernel
theorem dX6_init_119 : decode cX6_init 119 = .ok (.bipush 10, 2) := by decide +kernel
theorem dX6_init_121 : decode cX6_init 121 = .ok (.iastore, 1) := by decide +kernel
theorem dX6_init_122 : decode cX6_init 122 = .ok (.aload_n 0, 1) := by decide +kernel
theorem dX6_init_123 : decode cX6_init 123 = .ok (.getfield 7, 3) := by decide +kernel
theorem dX6_init_126 : decode cX6_init 126 = .ok (.iconst 3, 1) := by decide +kernel
theorem dX6_init_127 : decode cX6_init 127 = .ok (.iconst 1, 1) := by decide +kernel
theorem dX6_init_128 : decode cX6_init 128 = .ok (.iastore, 1) := by decide +kernel
theorem dX6_init_129 : decode cX6_init 129 = .ok (.aload_n 0, 1) := by decide +kernel
theorem dX6_init_130 : decode cX6_init 130 = .ok (.getfield 7, 3) := by decide +kernel
theorem dX6_init_133 : decode cX6_init 133 = .ok (.iconst 4, 1) := by decide +kernel
theorem dX6_init_134 : decode cX6_init 134 = .ok (.iconst 2, 1) := by decide +kernel
theorem dX6_init_135 : decode cX6_init 135 = .ok (.iastore, 1) := by decide +kernel
theorem dX6_init_136 : decode cX6_init 136 = .ok (.return_, 1) := by decide +kernel
theorem dX6_thrown_0 : decode cX6_thrown 0 = .ok (.aload_n 0, 1) := by decide +kernel
theorem dX6_thrown_1 : decode cX6_thrown 1 = .ok (.getfield 53, 3) := by decide +kernel
theorem dX6_thrown_4 : decode cX6_thrown 4 = .ok (.ireturn, 1) := by decide +kernel
theorem dX6_fails_0 : decode cX6_fails 0 = .ok (.aload_n 0, 1) := by decide +kernel
theorem dX6_fails_1 : decode cX6_fails 1 = .ok (.iload_n 1, 1) := by decide +kernel
theorem dX6_fails_2 : decode cX6_fails 2 = .ok (.putfield 53, 3) := by decide +kernel
theorem dX6_fails_5 : decode cX6_fails 5 = .ok (.iconst 0, 1) := by decide +kernel
theorem dX6_fails_6 : decode cX6_fails 6 = .ok (.ireturn, 1) := by decide +kernel
theorem dX6_in_0 : decode cX6_in 0 = .ok (.iload_n 0, 1) := by decide +kernel
theorem dX6_in_1 : decode cX6_in 1 = .ok (.iload_n 1, 1) := by decide +kernel
theorem dX6_in_2 : decode cX6_in 2 = .ok (.if_icmp .lt 12, 3) := by decide +kernel
theorem dX6_in_5 : decode cX6_in 5 = .ok (.iload_n 0, 1) := by decide +kernel
theorem dX6_in_6 : decode cX6_in 6 = .ok (.iload_n 2, 1) := by decide +kernel
theorem dX6_in_7 : decode cX6_in 7 = .ok (.if_icmp .gt 7, 3) := by decide +kernel
theorem dX6_in_10 : decode cX6_in 10 = .ok (.iconst 1, 1) := by decide +kernel
theorem dX6_in_11 : decode cX6_in 11 = .ok (.goto 4, 3) := by decide +kernel
theorem dX6_in_14 : decode cX6_in 14 = .ok (.iconst 0, 1) := by decide +kernel
theorem dX6_in_15 : decode cX6_in 15 = .ok (.ireturn, 1) := by decide +kernel
set_option maxRecDepth 20000 in
theorem ggX6_isStatement_X6_in : GoodIn wsX6_isStatement wsX6_in := goodIn_r _ [5] (by decide +kernel) (by decide +kernel)
set_option maxRecDepth 20000 in
theorem gX6_isStatement_X6_in : GoodIn wsX6_isStatement (va_wsS RX6 56 yX6_in wsX6_in) := goodIn_app (goodIn_of _ (by decide +kernel)) ggX6_isStatement_X6_in
theorem dX6_isStatement_0 : decode cX6_isStatement 0 = .ok (.iload_n 1, 1) := by decide +kernel
theorem dX6_isStatement_1 : decode cX6_isStatement 1 = .ok (.iconst 0, 1) := by decide +kernel
theorem dX6_isStatement_2 : decode cX6_isStatement 2 = .ok (.aload_n 0, 1) := by decide +kernel
theorem dX6_isStatement_3 : decode cX6_isStatement 3 = .ok (.getfield 7, 3) := by decide +kernel
theorem dX6_isStatement_6 : decode cX6_isStatement 6 = .ok (.iconst 0, 1) := by decide +kernel
theorem dX6_isStatement_7 : decode cX6_isStatement 7 = .ok (.iaload, 1) := by decide +kernel
theorem dX6_isStatement_8 : decode cX6_isStatement 8 = .ok (.iconst 1, 1) := by decide +kernel
theorem dX6_isStatement_9 : decode cX6_isStatement 9 = .ok (.isub, 1) := by decide +kernel
theorem dX6_isStatement_10 : decode cX6_isStatement 10 = .ok (.invokestatic 56, 3) := by decide +kernel
theorem dX6_isStatement_13 : decode cX6_isStatement 13 = .ok (.ireturn, 1) := by decide +kernel
set_option maxRecDepth 20000 in
theorem ggX6_isDependence_X6_in : GoodIn wsX6_isDependence wsX6_in := goodIn_r _ [5] (by decide +kernel) (by decide +kernel)
set_option maxRecDepth 20000 in
theorem gX6_isDependence_X6_in : GoodIn wsX6_isDependence (va_wsS RX6 56 yX6_in wsX6_in) := goodIn_app (goodIn_of _ (by decide +kernel)) ggX6_isDependence_X6_in
theorem dX6_isDependence_0 : decode cX6_isDependence 0 = .ok (.iload_n 1, 1) := by decide +kernel
theorem dX6_isDependence_1 : decode cX6_isDependence 1 = .ok (.iconst 0, 1) := by decide +kernel
theorem dX6_isDependence_2 : decode cX6_isDependence 2 = .ok (.aload_n 0, 1) := by decide +kernel
theorem dX6_isDependence_3 : decode cX6_isDependence 3 = .ok (.getfield 7, 3) := by decide +kernel
theorem dX6_isDependence_6 : decode cX6_isDependence 6 = .ok (.iconst 1, 1) := by decide +kernel
theorem dX6_isDependence_7 : decode cX6_isDependence 7 = .ok (.iaload, 1) := by decide +kernel
theorem dX6_isDependence_8 : decode cX6_isDependence 8 = .ok (.iconst 1, 1) := by decide +kernel
theorem dX6_isDependence_9 : decode cX6_isDependence 9 = .ok (.isub, 1) := by decide +kernel
theorem dX6_isDependence_10 : decode cX6_isDependence 10 = .ok (.invokestatic 56, 3) := by decide +kernel
theorem dX6_isDependence_13 : decode cX6_isDependence 13 = .ok (.ireturn, 1) := by decide +kernel
theorem dX6_at_0 : decode cX6_at 0 = .ok (.bipush 30, 2) := by decide +kernel
theorem dX6_at_2 : decode cX6_at 2 = .ok (.iconst 5, 1) := by decide +kernel
theorem dX6_at_3 : decode cX6_at 3 = .ok (.iload_n 0, 1) := by decide +kernel
theorem dX6_at_4 : decode cX6_at 4 = .ok (.imul, 1) := by decide +kernel
theorem dX6_at_5 : decode cX6_at 5 = .ok (.iadd, 1) := by decide +kernel
theorem dX6_at_6 : decode cX6_at 6 = .ok (.iload_n 1, 1) := by decide +kernel
theorem dX6_at_7 : decode cX6_at 7 = .ok (.iadd, 1) := by decide +kernel
theorem dX6_at_8 : decode cX6_at 8 = .ok (.ireturn, 1) := by decide +kernel
set_option maxRecDepth 20000 in
theorem ggX6_source_X6_at : GoodIn wsX6_source wsX6_at := goodIn_r _ [5] (by decide +kernel) (by decide +kernel)
set_option maxRecDepth 20000 in
theorem gX6_source_X6_at : GoodIn wsX6_source (va_wsS RX6 60 yX6_at wsX6_at) := goodIn_app (goodIn_of _ (by decide +kernel)) ggX6_source_X6_at
theorem dX6_source_0 : decode cX6_source 0 = .ok (.aload_n 0, 1) := by decide +kernel
theorem dX6_source_1 : decode cX6_source 1 = .ok (.getfield 7, 3) := by decide +kernel
theorem dX6_source_4 : decode cX6_source 4 = .ok (.iload_n 1, 1) := by decide +kernel
theorem dX6_source_5 : decode cX6_source 5 = .ok (.iconst 1, 1) := by decide +kernel
theorem dX6_source_6 : decode cX6_source 6 = .ok (.invokestatic 60, 3) := by decide +kernel
theorem dX6_source_9 : decode cX6_source 9 = .ok (.iaload, 1) := by decide +kernel
theorem dX6_source_10 : decode cX6_source 10 = .ok (.ireturn, 1) := by decide +kernel
set_option maxRecDepth 20000 in
theorem ggX6_target_X6_at : GoodIn wsX6_target wsX6_at := goodIn_r _ [5] (by decide +kernel) (by decide +kernel)
set_option maxRecDepth 20000 in
theorem gX6_target_X6_at : GoodIn wsX6_target (va_wsS RX6 60 yX6_at wsX6_at) := goodIn_app (goodIn_of _ (by decide +kernel)) ggX6_target_X6_at
theorem dX6_target_0 : decode cX6_target 0 = .ok (.aload_n 0, 1) := by decide +kernel
theorem dX6_target_1 : decode cX6_target 1 = .ok (.getfield 7, 3) := by decide +kernel
theorem dX6_target_4 : decode cX6_target 4 = .ok (.iload_n 1, 1) := by decide +kernel
theorem dX6_target_5 : decode cX6_target 5 = .ok (.iconst 2, 1) := by decide +kernel
theorem dX6_target_6 : decode cX6_target 6 = .ok (.invokestatic 60, 3) := by decide +kernel
theorem dX6_target_9 : decode cX6_target 9 = .ok (.iaload, 1) := by decide +kernel
theorem dX6_target_10 : decode cX6_target 10 = .ok (.ireturn, 1) := by decide +kernel
set_option maxRecDepth 20000 in
theorem ggX6_far_X6_at : GoodIn wsX6_far wsX6_at := goodIn_r _ [5] (by decide +kernel) (by decide +kernel)
set_option maxRecDepth 20000 in
theorem gX6_far_X6_at : GoodIn wsX6_far (va_wsS RX6 60 yX6_at wsX6_at) := goodIn_app (goodIn_of _ (by decide +kernel)) ggX6_far_X6_at
theorem dX6_far_0 : decode cX6_far 0 = .ok (.aload_n 0, 1) := by decide +kernel
theorem dX6_far_1 : decode cX6_far 1 = .ok (.getfield 7, 3) := by decide +kernel
theorem dX6_far_4 : decode cX6_far 4 = .ok (.iload_n 1, 1) := by decide +kernel
theorem dX6_far_5 : decode cX6_far 5 = .ok (.iconst 3, 1) := by decide +kernel
theorem dX6_far_6 : decode cX6_far 6 = .ok (.invokestatic 60, 3) := by decide +kernel
theorem dX6_far_9 : decode cX6_far 9 = .ok (.iaload, 1) := by decide +kernel
theorem dX6_far_10 : decode cX6_far 10 = .ok (.ireturn, 1) := by decide +kernel
set_option maxRecDepth 20000 in
theorem ggX6_isSignal_X6_at : GoodIn wsX6_isSignal wsX6_at := goodIn_r _ [5] (by decide +kernel) (by decide +kernel)
set_option maxRecDepth 20000 in
theorem gX6_isSignal_X6_at : GoodIn wsX6_isSignal (va_wsS RX6 60 yX6_at wsX6_at) := goodIn_app (goodIn_of _ (by decide +kernel)) ggX6_isSignal_X6_at
set_option maxRecDepth 20000 in
theorem ggX6_isSignal_X6_far : GoodIn wsX6_isSignal wsX6_far := goodIn_r _ [9, 1, 2, 3, 4, 5, 10, 11, 12, 13, 14, 15, 16, 17, 18, 19, 20, 21, 22, 23, 24, 25, 26, 27, 28, 29] (by decide +kernel) (by decide +kernel)
set_option maxRecDepth 20000 in
theorem gX6_isSignal_X6_far : GoodIn wsX6_isSignal (wsV RX6 64 RX6 yX6_far wsX6_far) := goodIn_app (goodIn_of _ (by decide +kernel)) ggX6_isSignal_X6_far
theorem dX6_isSignal_0 : decode cX6_isSignal 0 = .ok (.aload_n 0, 1) := by decide +kernel
theorem dX6_isSignal_1 : decode cX6_isSignal 1 = .ok (.getfield 7, 3) := by decide +kernel
theorem dX6_isSignal_4 : decode cX6_isSignal 4 = .ok (.iload_n 1, 1) := by decide +kernel
theorem dX6_isSignal_5 : decode cX6_isSignal 5 = .ok (.iconst 4, 1) := by decide +kernel
theorem dX6_isSignal_6 : decode cX6_isSignal 6 = .ok (.invokestatic 60, 3) := by decide +kernel
theorem dX6_isSignal_9 : decode cX6_isSignal 9 = .ok (.iaload, 1) := by decide +kernel
theorem dX6_isSignal_10 : decode cX6_isSignal 10 = .ok (.iconst 1, 1) := by decide +kernel
theorem dX6_isSignal_11 : decode cX6_isSignal 11 = .ok (.if_icmp .ne 15, 3) := by decide +kernel
theorem dX6_isSignal_14 : decode cX6_isSignal 14 = .ok (.aload_n 0, 1) := by decide +kernel
theorem dX6_isSignal_15 : decode cX6_isSignal 15 = .ok (.iload_n 1, 1) := by decide +kernel
theorem dX6_isSignal_16 : decode cX6_isSignal 16 = .ok (.invokevirtual 64, 3) := by decide +kernel
theorem dX6_isSignal_19 : decode cX6_isSignal 19 = .ok (.ifCond .le 7, 3) := by decide +kernel
theorem dX6_isSignal_22 : decode cX6_isSignal 22 = .ok (.iconst 1, 1) := by decide +kernel
theorem dX6_isSignal_23 : decode cX6_isSignal 23 = .ok (.goto 4, 3) := by decide +kernel
theorem dX6_isSignal_26 : decode cX6_isSignal 26 = .ok (.iconst 0, 1) := by decide +kernel
theorem dX6_isSignal_27 : decode cX6_isSignal 27 = .ok (.ireturn, 1) := by decide +kernel
theorem dX6_cost_0 : decode cX6_cost 0 = .ok (.aload_n 0, 1) := by decide +kernel
theorem dX6_cost_1 : decode cX6_cost 1 = .ok (.getfield 7, 3) := by decide +kernel
theorem dX6_cost_4 : decode cX6_cost 4 = .ok (.bipush 10, 2) := by decide +kernel
theorem dX6_cost_6 : decode cX6_cost 6 = .ok (.iload_n 1, 1) := by decide +kernel
theorem dX6_cost_7 : decode cX6_cost 7 = .ok (.iadd, 1) := by decide +kernel
theorem dX6_cost_8 : decode cX6_cost 8 = .ok (.iaload, 1) := by decide +kernel
theorem dX6_cost_9 : decode cX6_cost 9 = .ok (.ireturn, 1) := by decide +kernel
theorem dX6_placeOf_0 : decode cX6_placeOf 0 = .ok (.iconst 0, 1) := by decide +kernel
theorem dX6_placeOf_1 : decode cX6_placeOf 1 = .ok (.istore_n 2, 1) := by decide +kernel
theorem dX6_placeOf_2 : decode cX6_placeOf 2 = .ok (.aload_n 0, 1) := by decide +kernel
theorem dX6_placeOf_3 : decode cX6_placeOf 3 = .ok (.getfield 7, 3) := by decide +kernel
theorem dX6_placeOf_6 : decode cX6_placeOf 6 = .ok (.bipush 20, 2) := by decide +kernel
theorem dX6_placeOf_8 : decode cX6_placeOf 8 = .ok (.iload_n 2, 1) := by decide +kernel
theorem dX6_placeOf_9 : decode cX6_placeOf 9 = .ok (.iadd, 1) := by decide +kernel
theorem dX6_placeOf_10 : decode cX6_placeOf 10 = .ok (.iaload, 1) := by decide +kernel
theorem dX6_placeOf_11 : decode cX6_placeOf 11 = .ok (.iload_n 1, 1) := by decide +kernel
theorem dX6_placeOf_12 : decode cX6_placeOf 12 = .ok (.if_icmp .eq 9, 3) := by decide +kernel
theorem dX6_placeOf_15 : decode cX6_placeOf 15 = .ok (.iinc 2 1, 3) := by decide +kernel
theorem dX6_placeOf_18 : decode cX6_placeOf 18 = .ok (.goto (-16), 3) := by decide +kernel
theorem dX6_placeOf_21 : decode cX6_placeOf 21 = .ok (.iload_n 2, 1) := by decide +kernel
theorem dX6_placeOf_22 : decode cX6_placeOf 22 = .ok (.ireturn, 1) := by decide +kernel
set_option maxRecDepth 20000 in
theorem ggX6_offset_X6_cost : GoodIn wsX6_offset wsX6_cost := goodIn_r _ [6, 1, 7, 8, 9, 10, 11, 12, 13, 14, 15, 16, 17, 18, 19, 20, 21, 22, 23, 24, 25, 26] (by decide +kernel) (by decide +kernel)
set_option maxRecDepth 20000 in
theorem gX6_offset_X6_cost : GoodIn wsX6_offset (wsV RX6 68 RX6 yX6_cost wsX6_cost) := goodIn_app (goodIn_of _ (by decide +kernel)) ggX6_offset_X6_cost
theorem dX6_offset_0 : decode cX6_offset 0 = .ok (.iconst 0, 1) := by decide +kernel
theorem dX6_offset_1 : decode cX6_offset 1 = .ok (.istore_n 2, 1) := by decide +kernel
theorem dX6_offset_2 : decode cX6_offset 2 = .ok (.iconst 0, 1) := by decide +kernel
theorem dX6_offset_3 : decode cX6_offset 3 = .ok (.istore_n 3, 1) := by decide +kernel
theorem dX6_offset_4 : decode cX6_offset 4 = .ok (.aload_n 0, 1) := by decide +kernel
theorem dX6_offset_5 : decode cX6_offset 5 = .ok (.getfield 7, 3) := by decide +kernel
theorem dX6_offset_8 : decode cX6_offset 8 = .ok (.bipush 20, 2) := by decide +kernel
theorem dX6_offset_10 : decode cX6_offset 10 = .ok (.iload_n 3, 1) := by decide +kernel
theorem dX6_offset_11 : decode cX6_offset 11 = .ok (.iadd, 1) := by decide +kernel
theorem dX6_offset_12 : decode cX6_offset 12 = .ok (.iaload, 1) := by decide +kernel
theorem dX6_offset_13 : decode cX6_offset 13 = .ok (.iload_n 1, 1) := by decide +kernel
theorem dX6_offset_14 : decode cX6_offset 14 = .ok (.if_icmp .eq 25, 3) := by decide +kernel
theorem dX6_offset_17 : decode cX6_offset 17 = .ok (.iload_n 2, 1) := by decide +kernel
theorem dX6_offset_18 : decode cX6_offset 18 = .ok (.aload_n 0, 1) := by decide +kernel
theorem dX6_offset_19 : decode cX6_offset 19 = .ok (.aload_n 0, 1) := by decide +kernel
theorem dX6_offset_20 : decode cX6_offset 20 = .ok (.getfield 7, 3) := by decide +kernel
theorem dX6_offset_23 : decode cX6_offset 23 = .ok (.bipush 20, 2) := by decide +kernel
theorem dX6_offset_25 : decode cX6_offset 25 = .ok (.iload_n 3, 1) := by decide +kernel
theorem dX6_offset_26 : decode cX6_offset 26 = .ok (.iadd, 1) := by decide +kernel
theorem dX6_offset_27 : decode cX6_offset 27 = .ok (.iaload, 1) := by decide +kernel
theorem dX6_offset_28 : decode cX6_offset 28 = .ok (.invokevirtual 68, 3) := by decide +kernel
theorem dX6_offset_31 : decode cX6_offset 31 = .ok (.iadd, 1) := by decide +kernel
theorem dX6_offset_32 : decode cX6_offset 32 = .ok (.istore_n 2, 1) := by decide +kernel
theorem dX6_offset_33 : decode cX6_offset 33 = .ok (.iinc 3 1, 3) := by decide +kernel
theorem dX6_offset_36 : decode cX6_offset 36 = .ok (.goto (-32), 3) := by decide +kernel
theorem dX6_offset_39 : decode cX6_offset 39 = .ok (.iload_n 2, 1) := by decide +kernel
theorem dX6_offset_40 : decode cX6_offset 40 = .ok (.ireturn, 1) := by decide +kernel
set_option maxRecDepth 20000 in
theorem ggX6_bare_X6_source : GoodIn wsX6_bare wsX6_source := goodIn_r _ [6, 1, 7, 8, 5, 9, 18, 19, 20, 21, 22, 23, 24, 25, 26, 27, 28, 29, 30, 31, 32, 33, 34, 35, 36, 37] (by decide +kernel) (by decide +kernel)
set_option maxRecDepth 20000 in
theorem gX6_bare_X6_source : GoodIn wsX6_bare (wsV RX6 71 RX6 yX6_source wsX6_source) := goodIn_app (goodIn_of _ (by decide +kernel)) ggX6_bare_X6_source
set_option maxRecDepth 20000 in
theorem ggX6_bare_X6_cost : GoodIn wsX6_bare wsX6_cost := goodIn_r _ [13, 1, 18, 19, 20, 21, 22, 23, 24, 25, 26, 27, 28, 29, 30, 31, 32, 33, 34, 35, 36, 37] (by decide +kernel) (by decide +kernel)
set_option maxRecDepth 20000 in
theorem gX6_bare_X6_cost : GoodIn wsX6_bare (wsV RX6 68 RX6 yX6_cost wsX6_cost) := goodIn_app (goodIn_of _ (by decide +kernel)) ggX6_bare_X6_cost
set_option maxRecDepth 20000 in
theorem ggX6_bare_X6_target : GoodIn wsX6_bare wsX6_target := goodIn_r _ [17, 1, 7, 8, 5, 9, 18, 19, 20, 21, 22, 23, 24, 25, 26, 27, 28, 29, 30, 31, 32, 33, 34, 35, 36, 37] (by decide +kernel) (by decide +kernel)
set_option maxRecDepth 20000 in
theorem gX6_bare_X6_target : GoodIn wsX6_bare (wsV RX6 74 RX6 yX6_target wsX6_target) := goodIn_app (goodIn_of _ (by decide +kernel)) ggX6_bare_X6_target
set_option maxRecDepth 20000 in
theorem ggX6_bare_X6_at : GoodIn wsX6_bare wsX6_at := goodIn_r _ [9] (by decide +kernel) (by decide +kernel)
set_option maxRecDepth 20000 in
theorem gX6_bare_X6_at : GoodIn wsX6_bare (va_wsS RX6 60 yX6_at wsX6_at) := goodIn_app (goodIn_of _ (by decide +kernel)) ggX6_bare_X6_at
theorem dX6_bare_0 : decode cX6_bare 0 = .ok (.aload_n 0, 1) := by decide +kernel
theorem dX6_bare_1 : decode cX6_bare 1 = .ok (.aload_n 0, 1) := by decide +kernel
theorem dX6_bare_2 : decode cX6_bare 2 = .ok (.iload_n 1, 1) := by decide +kernel
theorem dX6_bare_3 : decode cX6_bare 3 = .ok (.invokevirtual 71, 3) := by decide +kernel
theorem dX6_bare_6 : decode cX6_bare 6 = .ok (.invokevirtual 68, 3) := by decide +kernel
theorem dX6_bare_9 : decode cX6_bare 9 = .ok (.aload_n 0, 1) := by decide +kernel
theorem dX6_bare_10 : decode cX6_bare 10 = .ok (.aload_n 0, 1) := by decide +kernel
theorem dX6_bare_11 : decode cX6_bare 11 = .ok (.iload_n 1, 1) := by decide +kernel
theorem dX6_bare_12 : decode cX6_bare 12 = .ok (.invokevirtual 74, 3) := by decide +kernel
theorem dX6_bare_15 : decode cX6_bare 15 = .ok (.invokevirtual 68, 3) := by decide +kernel
theorem dX6_bare_18 : decode cX6_bare 18 = .ok (.isub, 1) := by decide +kernel
theorem dX6_bare_19 : decode cX6_bare 19 = .ok (.iconst 1, 1) := by decide +kernel
theorem dX6_bare_20 : decode cX6_bare 20 = .ok (.iadd, 1) := by decide +kernel
theorem dX6_bare_21 : decode cX6_bare 21 = .ok (.istore_n 2, 1) := by decide +kernel
theorem dX6_bare_22 : decode cX6_bare 22 = .ok (.aload_n 0, 1) := by decide +kernel
theorem dX6_bare_23 : decode cX6_bare 23 = .ok (.getfield 7, 3) := by decide +kernel
theorem dX6_bare_26 : decode cX6_bare 26 = .ok (.iload_n 1, 1) := by decide +kernel
theorem dX6_bare_27 : decode cX6_bare 27 = .ok (.iconst 0, 1) := by decide +kernel
theorem dX6_bare_28 : decode cX6_bare 28 = .ok (.invokestatic 60, 3) := by decide +kernel
theorem dX6_bare_31 : decode cX6_bare 31 = .ok (.iaload, 1) := by decide +kernel
theorem dX6_bare_32 : decode cX6_bare 32 = .ok (.ifCond .ne 15, 3) := by decide +kernel
theorem dX6_bare_35 : decode cX6_bare 35 = .ok (.aload_n 0, 1) := by decide +kernel
theorem dX6_bare_36 : decode cX6_bare 36 = .ok (.aload_n 0, 1) := by decide +kernel
theorem dX6_bare_37 : decode cX6_bare 37 = .ok (.iload_n 1, 1) := by decide +kernel
theorem dX6_bare_38 : decode cX6_bare 38 = .ok (.invokevirtual 71, 3) := by decide +kernel
theorem dX6_bare_41 : decode cX6_bare 41 = .ok (.invokevirtual 68, 3) := by decide +kernel
theorem dX6_bare_44 : decode cX6_bare 44 = .ok (.goto 27, 3) := by decide +kernel
theorem dX6_bare_47 : decode cX6_bare 47 = .ok (.aload_n 0, 1) := by decide +kernel
theorem dX6_bare_48 : decode cX6_bare 48 = .ok (.getfield 7, 3) := by decide +kernel
theorem dX6_bare_51 : decode cX6_bare 51 = .ok (.iload_n 1, 1) := by decide +kernel
theorem dX6_bare_52 : decode cX6_bare 52 = .ok (.iconst 0, 1) := by decide +kernel
theorem dX6_bare_53 : decode cX6_bare 53 = .ok (.invokestatic 60, 3) := by decide +kernel
theorem dX6_bare_56 : decode cX6_bare 56 = .ok (.iaload, 1) := by decide +kernel
theorem dX6_bare_57 : decode cX6_bare 57 = .ok (.iconst 1, 1) := by decide +kernel
theorem dX6_bare_58 : decode cX6_bare 58 = .ok (.if_icmp .eq 8, 3) := by decide +kernel
theorem dX6_bare_61 : decode cX6_bare 61 = .ok (.iload_n 2, 1) := by decide +kernel
theorem dX6_bare_62 : decode cX6_bare 62 = .ok (.iconst 1, 1) := by decide +kernel
theorem dX6_bare_63 : decode cX6_bare 63 = .ok (.if_icmp .ge 7, 3) := by decide +kernel
theorem dX6_bare_66 : decode cX6_bare 66 = .ok (.iconst 1, 1) := by decide +kernel
theorem dX6_bare_67 : decode cX6_bare 67 = .ok (.goto 4, 3) := by decide +kernel
theorem dX6_bare_70 : decode cX6_bare 70 = .ok (.iload_n 2, 1) := by decide +kernel
theorem dX6_bare_71 : decode cX6_bare 71 = .ok (.ireturn, 1) := by decide +kernel
set_option maxRecDepth 20000 in
theorem ggX6_lag_X6_bare : GoodIn wsX6_lag wsX6_bare := goodIn_r _ [6, 1, 7, 8, 9, 5, 10, 11, 12, 13, 14, 15, 16, 17, 18, 19, 20, 21, 22, 23, 24, 25, 26, 27, 28, 29, 30, 31, 32, 33, 34, 35, 36, 37, 38, 39, 40, 41] (by decide +kernel) (by decide +kernel)
set_option maxRecDepth 20000 in
theorem gX6_lag_X6_bare : GoodIn wsX6_lag (wsV RX6 77 RX6 yX6_bare wsX6_bare) := goodIn_app (goodIn_of _ (by decide +kernel)) ggX6_lag_X6_bare
theorem dX6_lag_0 : decode cX6_lag 0 = .ok (.aload_n 0, 1) := by decide +kernel
theorem dX6_lag_1 : decode cX6_lag 1 = .ok (.iload_n 1, 1) := by decide +kernel
theorem dX6_lag_2 : decode cX6_lag 2 = .ok (.invokevirtual 77, 3) := by decide +kernel
theorem dX6_lag_5 : decode cX6_lag 5 = .ok (.aload_n 0, 1) := by decide +kernel
theorem dX6_lag_6 : decode cX6_lag 6 = .ok (.getfield 7, 3) := by decide +kernel
theorem dX6_lag_9 : decode cX6_lag 9 = .ok (.iconst 3, 1) := by decide +kernel
theorem dX6_lag_10 : decode cX6_lag 10 = .ok (.iaload, 1) := by decide +kernel
theorem dX6_lag_11 : decode cX6_lag 11 = .ok (.iadd, 1) := by decide +kernel
theorem dX6_lag_12 : decode cX6_lag 12 = .ok (.ireturn, 1) := by decide +kernel
theorem dX6_byteOf_0 : decode cX6_byteOf 0 = .ok (.iload_n 0, 1) := by decide +kernel
theorem dX6_byteOf_1 : decode cX6_byteOf 1 = .ok (.bipush 24, 2) := by decide +kernel
theorem dX6_byteOf_3 : decode cX6_byteOf 3 = .ok (.bipush 8, 2) := by decide +kernel
theorem dX6_byteOf_5 : decode cX6_byteOf 5 = .ok (.iload_n 1, 1) := by decide +kernel
theorem dX6_byteOf_6 : decode cX6_byteOf 6 = .ok (.imul, 1) := by decide +kernel
theorem dX6_byteOf_7 : decode cX6_byteOf 7 = .ok (.isub, 1) := by decide +kernel
theorem dX6_byteOf_8 : decode cX6_byteOf 8 = .ok (.iushr, 1) := by decide +kernel
theorem dX6_byteOf_9 : decode cX6_byteOf 9 = .ok (.sipush 255, 3) := by decide +kernel
theorem dX6_byteOf_12 : decode cX6_byteOf 12 = .ok (.iand, 1) := by decide +kernel
theorem dX6_byteOf_13 : decode cX6_byteOf 13 = .ok (.ireturn, 1) := by decide +kernel
set_option maxRecDepth 20000 in
theorem ggX6_append_X6_byteOf : GoodIn wsX6_append wsX6_byteOf := goodIn_r _ [7] (by decide +kernel) (by decide +kernel)
set_option maxRecDepth 20000 in
theorem gX6_append_X6_byteOf : GoodIn wsX6_append (va_wsS RX6 80 yX6_byteOf wsX6_byteOf) := goodIn_app (goodIn_of _ (by decide +kernel)) ggX6_append_X6_byteOf
set_option maxRecDepth 20000 in
theorem ggX6_append_X6_in : GoodIn wsX6_append wsX6_in := goodIn_r _ [10] (by decide +kernel) (by decide +kernel)
set_option maxRecDepth 20000 in
theorem gX6_append_X6_in : GoodIn wsX6_append (va_wsS RX6 56 yX6_in wsX6_in) := goodIn_app (goodIn_of _ (by decide +kernel)) ggX6_append_X6_in
set_option maxRecDepth 20000 in
theorem ggX6_append_X6_fails : GoodIn wsX6_append wsX6_fails := goodIn_r _ [14, 1, 15, 16, 17, 18, 19, 20, 21, 22, 23, 24, 25, 26, 27, 28, 29, 30, 31, 32, 33, 34] (by decide +kernel) (by decide +kernel)
set_option maxRecDepth 20000 in
theorem gX6_append_X6_fails : GoodIn wsX6_append (wsV RX6 83 RX6 yX6_fails wsX6_fails) := goodIn_app (goodIn_of _ (by decide +kernel)) ggX6_append_X6_fails
theorem dX6_append_0 : decode cX6_append 0 = .ok (.aload_n 0, 1) := by decide +kernel
theorem dX6_append_1 : decode cX6_append 1 = .ok (.iconst 0, 1) := by decide +kernel
theorem dX6_append_2 : decode cX6_append 2 = .ok (.putfield 53, 3) := by decide +kernel
theorem dX6_append_5 : decode cX6_append 5 = .ok (.iconst 0, 1) := by decide +kernel
theorem dX6_append_6 : decode cX6_append 6 = .ok (.istore_n 2, 1) := by decide +kernel
theorem dX6_append_7 : decode cX6_append 7 = .ok (.iconst 0, 1) := by decide +kernel
theorem dX6_append_8 : decode cX6_append 8 = .ok (.istore_n 3, 1) := by decide +kernel
theorem dX6_append_9 : decode cX6_append 9 = .ok (.iload_n 3, 1) := by decide +kernel
theorem dX6_append_10 : decode cX6_append 10 = .ok (.iconst 4, 1) := by decide +kernel
theorem dX6_append_11 : decode cX6_append 11 = .ok (.if_icmp .ge 54, 3) := by decide +kernel
theorem dX6_append_14 : decode cX6_append 14 = .ok (.iload_n 1, 1) := by decide +kernel
theorem dX6_append_15 : decode cX6_append 15 = .ok (.iload_n 3, 1) := by decide +kernel
theorem dX6_append_16 : decode cX6_append 16 = .ok (.invokestatic 80, 3) := by decide +kernel
theorem dX6_append_19 : decode cX6_append 19 = .ok (.ifCond .eq 24, 3) := by decide +kernel
theorem dX6_append_22 : decode cX6_append 22 = .ok (.iload_n 1, 1) := by decide +kernel
theorem dX6_append_23 : decode cX6_append 23 = .ok (.iload_n 3, 1) := by decide +kernel
theorem dX6_append_24 : decode cX6_append 24 = .ok (.invokestatic 80, 3) := by decide +kernel
theorem dX6_append_27 : decode cX6_append 27 = .ok (.bipush 33, 2) := by decide +kernel
theorem dX6_append_29 : decode cX6_append 29 = .ok (.bipush 126, 2) := by decide +kernel
theorem dX6_append_31 : decode cX6_append 31 = .ok (.invokestatic 56, 3) := by decide +kernel
theorem dX6_append_34 : decode cX6_append 34 = .ok (.ifCond .ne 9, 3) := by decide +kernel
theorem dX6_append_37 : decode cX6_append 37 = .ok (.aload_n 0, 1) := by decide +kernel
theorem dX6_append_38 : decode cX6_append 38 = .ok (.iconst 1, 1) := by decide +kernel
theorem dX6_append_39 : decode cX6_append 39 = .ok (.invokevirtual 83, 3) := by decide +kernel
theorem dX6_append_42 : decode cX6_append 42 = .ok (.ireturn, 1) := by decide +kernel
theorem dX6_append_43 : decode cX6_append 43 = .ok (.iload_n 2, 1) := by decide +kernel
theorem dX6_append_44 : decode cX6_append 44 = .ok (.iload_n 1, 1) := by decide +kernel
theorem dX6_append_45 : decode cX6_append 45 = .ok (.iload_n 3, 1) := by decide +kernel
theorem dX6_append_46 : decode cX6_append 46 = .ok (.invokestatic 80, 3) := by decide +kernel
theorem dX6_append_49 : decode cX6_append 49 = .ok (.ifCond .ne 7, 3) := by decide +kernel
theorem dX6_append_52 : decode cX6_append 52 = .ok (.iconst 0, 1) := by decide +kernel
theorem dX6_append_53 : decode cX6_append 53 = .ok (.goto 4, 3) := by decide +kernel
theorem dX6_append_56 : decode cX6_append 56 = .ok (.iconst 1, 1) := by decide +kernel
theorem dX6_append_57 : decode cX6_append 57 = .ok (.iadd, 1) := by decide +kernel
theorem dX6_append_58 : decode cX6_append 58 = .ok (.istore_n 2, 1) := by decide +kernel
theorem dX6_append_59 : decode cX6_append 59 = .ok (.iinc 3 1, 3) := by decide +kernel
theorem dX6_append_62 : decode cX6_append 62 = .ok (.goto (-53), 3) := by decide +kernel
theorem dX6_append_65 : decode cX6_append 65 = .ok (.aload_n 0, 1) := by decide +kernel
theorem dX6_append_66 : decode cX6_append 66 = .ok (.getfield 86, 3) := by decide +kernel
theorem dX6_append_69 : decode cX6_append 69 = .ok (.iload_n 2, 1) := by decide +kernel
theorem dX6_append_70 : decode cX6_append 70 = .ok (.iadd, 1) := by decide +kernel
theorem dX6_append_71 : decode cX6_append 71 = .ok (.bipush 60, 2) := by decide +kernel
theorem dX6_append_73 : decode cX6_append 73 = .ok (.if_icmp .le 9, 3) := by decide +kernel
theorem dX6_append_76 : decode cX6_append 76 = .ok (.aload_n 0, 1) := by decide +kernel
theorem dX6_append_77 : decode cX6_append 77 = .ok (.iconst 2, 1) := by decide +kernel
theorem dX6_append_78 : decode cX6_append 78 = .ok (.invokevirtual 83, 3) := by decide +kernel
theorem dX6_append_81 : decode cX6_append 81 = .ok (.ireturn, 1) := by decide +kernel
theorem dX6_append_82 : decode cX6_append 82 = .ok (.iconst 0, 1) := by decide +kernel
theorem dX6_append_83 : decode cX6_append 83 = .ok (.istore_n 3, 1) := by decide +kernel
theorem dX6_append_84 : decode cX6_append 84 = .ok (.iload_n 3, 1) := by decide +kernel
theorem dX6_append_85 : decode cX6_append 85 = .ok (.iconst 4, 1) := by decide +kernel
theorem dX6_append_86 : decode cX6_append 86 = .ok (.if_icmp .ge 41, 3) := by decide +kernel
theorem dX6_append_89 : decode cX6_append 89 = .ok (.iload_n 1, 1) := by decide +kernel
theorem dX6_append_90 : decode cX6_append 90 = .ok (.iload_n 3, 1) := by decide +kernel
theorem dX6_append_91 : decode cX6_append 91 = .ok (.invokestatic 80, 3) := by decide +kernel
theorem dX6_append_94 : decode cX6_append 94 = .ok (.ifCond .eq 27, 3) := by decide +kernel
theorem dX6_append_97 : decode cX6_append 97 = .ok (.aload_n 0, 1) := by decide +kernel
theorem dX6_append_98 : decode cX6_append 98 = .ok (.getfield 16, 3) := by decide +kernel
theorem dX6_append_101 : decode cX6_append 101 = .ok (.aload_n 0, 1) := by decide +kernel
theorem dX6_append_102 : decode cX6_append 102 = .ok (.getfield 86, 3) := by decide +kernel
theorem dX6_append_105 : decode cX6_append 105 = .ok (.iload_n 1, 1) := by decide +kernel
theorem dX6_append_106 : decode cX6_append 106 = .ok (.iload_n 3, 1) := by decide +kernel
theorem dX6_append_107 : decode cX6_append 107 = .ok (.invokestatic 80, 3) := by decide +kernel
theorem dX6_append_110 : decode cX6_append 110 = .ok (.iastore, 1) := by decide +kernel
theorem dX6_append_111 : decode cX6_append 111 = .ok (.aload_n 0, 1) := by decide +kernel
theorem dX6_append_112 : decode cX6_append 112 = .ok (.dup, 1) := by decide +kernel
theorem dX6_append_113 : decode cX6_append 113 = .ok (.getfield 86, 3) := by decide +kernel
theorem dX6_append_116 : decode cX6_append 116 = .ok (.iconst 1, 1) := by decide +kernel
theorem dX6_append_117 : decode cX6_append 117 = .ok (.iadd, 1) := by decide +kernel
theorem dX6_append_118 : decode cX6_append 118 = .ok (.putfield 86, 3) := by decide +kernel
theorem dX6_append_121 : decode cX6_append 121 = .ok (.iinc 3 1, 3) := by decide +kernel
theorem dX6_append_124 : decode cX6_append 124 = .ok (.goto (-40), 3) := by decide +kernel
theorem dX6_append_127 : decode cX6_append 127 = .ok (.aload_n 0, 1) := by decide +kernel
theorem dX6_append_128 : decode cX6_append 128 = .ok (.getfield 86, 3) := by decide +kernel
theorem dX6_append_131 : decode cX6_append 131 = .ok (.ireturn, 1) := by decide +kernel
theorem dX6_errorPosition_0 : decode cX6_errorPosition 0 = .ok (.aload_n 0, 1) := by decide +kernel
theorem dX6_errorPosition_1 : decode cX6_errorPosition 1 = .ok (.iconst 0, 1) := by decide +kernel
theorem dX6_errorPosition_2 : decode cX6_errorPosition 2 = .ok (.putfield 53, 3) := by decide +kernel
theorem dX6_errorPosition_5 : decode cX6_errorPosition 5 = .ok (.aload_n 0, 1) := by decide +kernel
theorem dX6_errorPosition_6 : decode cX6_errorPosition 6 = .ok (.getfield 19, 3) := by decide +kernel
theorem dX6_errorPosition_9 : decode cX6_errorPosition 9 = .ok (.ireturn, 1) := by decide +kernel
theorem dX6_here_0 : decode cX6_here 0 = .ok (.aload_n 0, 1) := by decide +kernel
theorem dX6_here_1 : decode cX6_here 1 = .ok (.getfield 89, 3) := by decide +kernel
theorem dX6_here_4 : decode cX6_here 4 = .ok (.aload_n 0, 1) := by decide +kernel
theorem dX6_here_5 : decode cX6_here 5 = .ok (.getfield 86, 3) := by decide +kernel
theorem dX6_here_8 : decode cX6_here 8 = .ok (.if_icmp .ge 15, 3) := by decide +kernel
theorem dX6_here_11 : decode cX6_here 11 = .ok (.aload_n 0, 1) := by decide +kernel
theorem dX6_here_12 : decode cX6_here 12 = .ok (.getfield 16, 3) := by decide +kernel
theorem dX6_here_15 : decode cX6_here 15 = .ok (.aload_n 0, 1) := by decide +kernel
theorem dX6_here_16 : decode cX6_here 16 = .ok (.getfield 89, 3) := by decide +kernel
theorem dX6_here_19 : decode cX6_here 19 = .ok (.iaload, 1) := by decide +kernel
theorem dX6_here_20 : decode cX6_here 20 = .ok (.goto 4, 3) := by decide +kernel
theorem dX6_here_23 : decode cX6_here 23 = .ok (.iconst (-1), 1) := by decide +kernel
theorem dX6_here_24 : decode cX6_here 24 = .ok (.ireturn, 1) := by decide +kernel
set_option maxRecDepth 20000 in
theorem ggX6_skips_X6_here : GoodIn wsX6_skips wsX6_here := goodIn_r _ [6, 1, 7, 8, 9, 10, 11, 12, 13, 14, 15, 16, 17, 18, 19, 20, 21, 22, 23, 24, 25, 26, 27, 28] (by decide +kernel) (by decide +kernel)
set_option maxRecDepth 20000 in
theorem gX6_skips_X6_here : GoodIn wsX6_skips (wsV RX6 92 RX6 yX6_here wsX6_here) := goodIn_app (goodIn_of _ (by decide +kernel)) ggX6_skips_X6_here
theorem dX6_skips_0 : decode cX6_skips 0 = .ok (.aload_n 0, 1) := by decide +kernel
theorem dX6_skips_1 : decode cX6_skips 1 = .ok (.invokevirtual 92, 3) := by decide +kernel
theorem dX6_skips_4 : decode cX6_skips 4 = .ok (.iload_n 1, 1) := by decide +kernel
theorem dX6_skips_5 : decode cX6_skips 5 = .ok (.if_icmp .eq 5, 3) := by decide +kernel
theorem dX6_skips_8 : decode cX6_skips 8 = .ok (.iconst 0, 1) := by decide +kernel
theorem dX6_skips_9 : decode cX6_skips 9 = .ok (.ireturn, 1) := by decide +kernel
theorem dX6_skips_10 : decode cX6_skips 10 = .ok (.aload_n 0, 1) := by decide +kernel
theorem dX6_skips_11 : decode cX6_skips 11 = .ok (.dup, 1) := by decide +kernel
theorem dX6_skips_12 : decode cX6_skips 12 = .ok (.getfield 89, 3) := by decide +kernel
theorem dX6_skips_15 : decode cX6_skips 15 = .ok (.iconst 1, 1) := by decide +kernel
theorem dX6_skips_16 : decode cX6_skips 16 = .ok (.iadd, 1) := by decide +kernel
theorem dX6_skips_17 : decode cX6_skips 17 = .ok (.putfield 89, 3) := by decide +kernel
theorem dX6_skips_20 : decode cX6_skips 20 = .ok (.iconst 1, 1) := by decide +kernel
theorem dX6_skips_21 : decode cX6_skips 21 = .ok (.ireturn, 1) := by decide +kernel
set_option maxRecDepth 20000 in
theorem ggX6_takes_X6_here : GoodIn wsX6_takes wsX6_here := goodIn_r _ [7, 2, 8, 9, 13, 14, 15, 16, 17, 18, 19, 20, 21, 22, 23, 24, 25, 26, 27, 28, 29, 30, 31, 32] (by decide +kernel) (by decide +kernel)
set_option maxRecDepth 20000 in
theorem gX6_takes_X6_here : GoodIn wsX6_takes (wsV RX6 92 RX6 yX6_here wsX6_here) := goodIn_app (goodIn_of _ (by decide +kernel)) ggX6_takes_X6_here
set_option maxRecDepth 20000 in
theorem ggX6_takes_X6_in : GoodIn wsX6_takes wsX6_in := goodIn_r _ [12] (by decide +kernel) (by decide +kernel)
set_option maxRecDepth 20000 in
theorem gX6_takes_X6_in : GoodIn wsX6_takes (va_wsS RX6 56 yX6_in wsX6_in) := goodIn_app (goodIn_of _ (by decide +kernel)) ggX6_takes_X6_in
theorem dX6_takes_0 : decode cX6_takes 0 = .ok (.aload_n 0, 1) := by decide +kernel
theorem dX6_takes_1 : decode cX6_takes 1 = .ok (.invokevirtual 92, 3) := by decide +kernel
theorem dX6_takes_4 : decode cX6_takes 4 = .ok (.bipush 48, 2) := by decide +kernel
theorem dX6_takes_6 : decode cX6_takes 6 = .ok (.iload_n 1, 1) := by decide +kernel
theorem dX6_takes_7 : decode cX6_takes 7 = .ok (.iadd, 1) := by decide +kernel
theorem dX6_takes_8 : decode cX6_takes 8 = .ok (.bipush 48, 2) := by decide +kernel
theorem dX6_takes_10 : decode cX6_takes 10 = .ok (.iload_n 2, 1) := by decide +kernel
theorem dX6_takes_11 : decode cX6_takes 11 = .ok (.iadd, 1) := by decide +kernel
theorem dX6_takes_12 : decode cX6_takes 12 = .ok (.invokestatic 56, 3) := by decide +kernel
theorem dX6_takes_15 : decode cX6_takes 15 = .ok (.ifCond .ne 5, 3) := by decide +kernel
theorem dX6_takes_18 : decode cX6_takes 18 = .ok (.iconst 0, 1) := by decide +kernel
theorem dX6_takes_19 : decode cX6_takes 19 = .ok (.ireturn, 1) := by decide +kernel
theorem dX6_takes_20 : decode cX6_takes 20 = .ok (.aload_n 0, 1) := by decide +kernel
theorem dX6_takes_21 : decode cX6_takes 21 = .ok (.aload_n 0, 1) := by decide +kernel
theorem dX6_takes_22 : decode cX6_takes 22 = .ok (.invokevirtual 92, 3) := by decide +kernel
theorem dX6_takes_25 : decode cX6_takes 25 = .ok (.bipush 48, 2) := by decide +kernel
theorem dX6_takes_27 : decode cX6_takes 27 = .ok (.isub, 1) := by decide +kernel
theorem dX6_takes_28 : decode cX6_takes 28 = .ok (.putfield 96, 3) := by decide +kernel
theorem dX6_takes_31 : decode cX6_takes 31 = .ok (.aload_n 0, 1) := by decide +kernel
theorem dX6_takes_32 : decode cX6_takes 32 = .ok (.dup, 1) := by decide +kernel
theorem dX6_takes_33 : decode cX6_takes 33 = .ok (.getfield 89, 3) := by decide +kernel
theorem dX6_takes_36 : decode cX6_takes 36 = .ok (.iconst 1, 1) := by decide +kernel
theorem dX6_takes_37 : decode cX6_takes 37 = .ok (.iadd, 1) := by decide +kernel
theorem dX6_takes_38 : decode cX6_takes 38 = .ok (.putfield 89, 3) := by decide +kernel
theorem dX6_takes_41 : decode cX6_takes 41 = .ok (.iconst 1, 1) := by decide +kernel
theorem dX6_takes_42 : decode cX6_takes 42 = .ok (.ireturn, 1) := by decide +kernel
set_option maxRecDepth 20000 in
theorem ggX6_standsAt_X6_placeOf : GoodIn wsX6_standsAt wsX6_placeOf := goodIn_r _ [6, 1, 7, 8, 9, 10, 11, 12, 13, 14, 15, 16, 17, 18, 19, 20, 21, 22, 23, 24, 25, 26] (by decide +kernel) (by decide +kernel)
set_option maxRecDepth 20000 in
theorem gX6_standsAt_X6_placeOf : GoodIn wsX6_standsAt (wsV RX6 99 RX6 yX6_placeOf wsX6_placeOf) := goodIn_app (goodIn_of _ (by decide +kernel)) ggX6_standsAt_X6_placeOf
theorem dX6_standsAt_0 : decode cX6_standsAt 0 = .ok (.iload_n 1, 1) := by decide +kernel
theorem dX6_standsAt_1 : decode cX6_standsAt 1 = .ok (.aload_n 0, 1) := by decide +kernel
theorem dX6_standsAt_2 : decode cX6_standsAt 2 = .ok (.getfield 7, 3) := by decide +kernel
theorem dX6_standsAt_5 : decode cX6_standsAt 5 = .ok (.iconst 0, 1) := by decide +kernel
theorem dX6_standsAt_6 : decode cX6_standsAt 6 = .ok (.iaload, 1) := by decide +kernel
theorem dX6_standsAt_7 : decode cX6_standsAt 7 = .ok (.if_icmp .ge 11, 3) := by decide +kernel
theorem dX6_standsAt_10 : decode cX6_standsAt 10 = .ok (.aload_n 0, 1) := by decide +kernel
theorem dX6_standsAt_11 : decode cX6_standsAt 11 = .ok (.iload_n 1, 1) := by decide +kernel
theorem dX6_standsAt_12 : decode cX6_standsAt 12 = .ok (.invokevirtual 99, 3) := by decide +kernel
theorem dX6_standsAt_15 : decode cX6_standsAt 15 = .ok (.goto 4, 3) := by decide +kernel
theorem dX6_standsAt_18 : decode cX6_standsAt 18 = .ok (.iload_n 1, 1) := by decide +kernel
theorem dX6_standsAt_19 : decode cX6_standsAt 19 = .ok (.ireturn, 1) := by decide +kernel
set_option maxRecDepth 20000 in
theorem ggX6_readsStatement_X6_takes : GoodIn wsX6_readsStatement wsX6_takes := goodIn_r _ [8, 2, 1, 9, 10, 11, 7, 12, 13, 14, 15, 16, 17, 22, 23, 24, 25, 26, 27, 28, 29, 30, 31, 32, 33, 34, 35, 36, 37, 38, 39, 40, 41] (by decide +kernel) (by decide +kernel)
set_option maxRecDepth 20000 in
theorem gX6_readsStatement_X6_takes : GoodIn wsX6_readsStatement (wsV RX6 102 RX6 yX6_takes wsX6_takes) := goodIn_app (goodIn_of _ (by decide +kernel)) ggX6_readsStatement_X6_takes
set_option maxRecDepth 20000 in
theorem ggX6_readsStatement_X6_skips : GoodIn wsX6_readsStatement wsX6_skips := goodIn_r _ [21, 1, 9, 10, 11, 7, 12, 13, 14, 22, 23, 24, 25, 26, 27, 28, 29, 30, 31, 32, 33, 34, 35, 36, 37, 38, 39, 40, 41] (by decide +kernel) (by decide +kernel)
set_option maxRecDepth 20000 in
theorem gX6_readsStatement_X6_skips : GoodIn wsX6_readsStatement (wsV RX6 106 RX6 yX6_skips wsX6_skips) := goodIn_app (goodIn_of _ (by decide +kernel)) ggX6_readsStatement_X6_skips
theorem dX6_readsStatement_0 : decode cX6_readsStatement 0 = .ok (.iload_n 1, 1) := by decide +kernel
theorem dX6_readsStatement_1 : decode cX6_readsStatement 1 = .ok (.bipush 8, 2) := by decide +kernel
theorem dX6_readsStatement_3 : decode cX6_readsStatement 3 = .ok (.if_icmp .ne 5, 3) := by decide +kernel
theorem dX6_readsStatement_6 : decode cX6_readsStatement 6 = .ok (.iconst 0, 1) := by decide +kernel
theorem dX6_readsStatement_7 : decode cX6_readsStatement 7 = .ok (.ireturn, 1) := by decide +kernel
theorem dX6_readsStatement_8 : decode cX6_readsStatement 8 = .ok (.aload_n 0, 1) := by decide +kernel
theorem dX6_readsStatement_9 : decode cX6_readsStatement 9 = .ok (.dup, 1) := by decide +kernel
theorem dX6_readsStatement_10 : decode cX6_readsStatement 10 = .ok (.getfield 89, 3) := by decide +kernel
theorem dX6_readsStatement_13 : decode cX6_readsStatement 13 = .ok (.iconst 1, 1) := by decide +kernel
theorem dX6_readsStatement_14 : decode cX6_readsStatement 14 = .ok (.iadd, 1) := by decide +kernel
theorem dX6_readsStatement_15 : decode cX6_readsStatement 15 = .ok (.putfield 89, 3) := by decide +kernel
theorem dX6_readsStatement_18 : decode cX6_readsStatement 18 = .ok (.aload_n 0, 1) := by decide +kernel
theorem dX6_readsStatement_19 : decode cX6_readsStatement 19 = .ok (.iconst 1, 1) := by decide +kernel
theorem dX6_readsStatement_20 : decode cX6_readsStatement 20 = .ok (.bipush 9, 2) := by decide +kernel
theorem dX6_readsStatement_22 : decode cX6_readsStatement 22 = .ok (.invokevirtual 102, 3) := by decide +kernel
theorem dX6_readsStatement_25 : decode cX6_readsStatement 25 = .ok (.ifCond .ne 5, 3) := by decide +kernel
theorem dX6_readsStatement_28 : decode cX6_readsStatement 28 = .ok (.iconst 0, 1) := by decide +kernel
theorem dX6_readsStatement_29 : decode cX6_readsStatement 29 = .ok (.ireturn, 1) := by decide +kernel
theorem dX6_readsStatement_30 : decode cX6_readsStatement 30 = .ok (.aload_n 0, 1) := by decide +kernel
theorem dX6_readsStatement_31 : decode cX6_readsStatement 31 = .ok (.getfield 96, 3) := by decide +kernel
theorem dX6_readsStatement_34 : decode cX6_readsStatement 34 = .ok (.istore_n 3, 1) := by decide +kernel
theorem dX6_readsStatement_35 : decode cX6_readsStatement 35 = .ok (.aload_n 0, 1) := by decide +kernel
theorem dX6_readsStatement_36 : decode cX6_readsStatement 36 = .ok (.bipush 59, 2) := by decide +kernel
theorem dX6_readsStatement_38 : decode cX6_readsStatement 38 = .ok (.invokevirtual 106, 3) := by decide +kernel
theorem dX6_readsStatement_41 : decode cX6_readsStatement 41 = .ok (.ifCond .ne 5, 3) := by decide +kernel
theorem dX6_readsStatement_44 : decode cX6_readsStatement 44 = .ok (.iconst 0, 1) := by decide +kernel
theorem dX6_readsStatement_45 : decode cX6_readsStatement 45 = .ok (.ireturn, 1) := by decide +kernel
theorem dX6_readsStatement_46 : decode cX6_readsStatement 46 = .ok (.iload_n 2, 1) := by decide +kernel
theorem dX6_readsStatement_47 : decode cX6_readsStatement 47 = .ok (.ifCond .eq 33, 3) := by decide +kernel
theorem dX6_readsStatement_50 : decode cX6_readsStatement 50 = .ok (.aload_n 0, 1) := by decide +kernel
theorem dX6_readsStatement_51 : decode cX6_readsStatement 51 = .ok (.getfield 7, 3) := by decide +kernel
theorem dX6_readsStatement_54 : decode cX6_readsStatement 54 = .ok (.bipush 10, 2) := by decide +kernel
theorem dX6_readsStatement_56 : decode cX6_readsStatement 56 = .ok (.iload_n 1, 1) := by decide +kernel
theorem dX6_readsStatement_57 : decode cX6_readsStatement 57 = .ok (.iadd, 1) := by decide +kernel
theorem dX6_readsStatement_58 : decode cX6_readsStatement 58 = .ok (.iload_n 3, 1) := by decide +kernel
theorem dX6_readsStatement_59 : decode cX6_readsStatement 59 = .ok (.iastore, 1) := by decide +kernel
theorem dX6_readsStatement_60 : decode cX6_readsStatement 60 = .ok (.aload_n 0, 1) := by decide +kernel
theorem dX6_readsStatement_61 : decode cX6_readsStatement 61 = .ok (.getfield 7, 3) := by decide +kernel
theorem dX6_readsStatement_64 : decode cX6_readsStatement 64 = .ok (.bipush 20, 2) := by decide +kernel
theorem dX6_readsStatement_66 : decode cX6_readsStatement 66 = .ok (.iload_n 1, 1) := by decide +kernel
theorem dX6_readsStatement_67 : decode cX6_readsStatement 67 = .ok (.iadd, 1) := by decide +kernel
theorem dX6_readsStatement_68 : decode cX6_readsStatement 68 = .ok (.iload_n 1, 1) := by decide +kernel
theorem dX6_readsStatement_69 : decode cX6_readsStatement 69 = .ok (.iastore, 1) := by decide +kernel
theorem dX6_readsStatement_70 : decode cX6_readsStatement 70 = .ok (.aload_n 0, 1) := by decide +kernel
theorem dX6_readsStatement_71 : decode cX6_readsStatement 71 = .ok (.getfield 7, 3) := by decide +kernel
theorem dX6_readsStatement_74 : decode cX6_readsStatement 74 = .ok (.iconst 0, 1) := by decide +kernel
theorem dX6_readsStatement_75 : decode cX6_readsStatement 75 = .ok (.dup2, 1) := by decide +kernel
theorem dX6_readsStatement_76 : decode cX6_readsStatement 76 = .ok (.iaload, 1) := by decide +kernel
theorem dX6_readsStatement_77 : decode cX6_readsStatement 77 = .ok (.iconst 1, 1) := by decide +kernel
theorem dX6_readsStatement_78 : decode cX6_readsStatement 78 = .ok (.iadd, 1) := by decide +kernel
theorem dX6_readsStatement_79 : decode cX6_readsStatement 79 = .ok (.iastore, 1) := by decide +kernel
theorem dX6_readsStatement_80 : decode cX6_readsStatement 80 = .ok (.iconst 1, 1) := by decide +kernel
theorem dX6_readsStatement_81 : decode cX6_readsStatement 81 = .ok (.ireturn, 1) := by decide +kernel
set_option maxRecDepth 20000 in
theorem ggX6_readsDependence_X6_takes : GoodIn wsX6_readsDependence wsX6_takes := goodIn_r _ [8, 2, 1, 9, 10, 11, 7, 12, 13, 14, 15, 16, 17, 33, 34, 35, 36, 37, 38, 39, 40, 41, 42, 43, 44, 45, 46, 47, 48, 49, 50, 51, 52] (by decide +kernel) (by decide +kernel)
set_option maxRecDepth 20000 in
theorem gX6_readsDependence_X6_takes : GoodIn wsX6_readsDependence (wsV RX6 102 RX6 yX6_takes wsX6_takes) := goodIn_app (goodIn_of _ (by decide +kernel)) ggX6_readsDependence_X6_takes
set_option maxRecDepth 20000 in
theorem ggX6_readsDependence_X6_skips : GoodIn wsX6_readsDependence wsX6_skips := goodIn_r _ [21, 1, 9, 10, 11, 7, 12, 13, 14, 33, 34, 35, 36, 37, 38, 39, 40, 41, 42, 43, 44, 45, 46, 47, 48, 49, 50, 51, 52] (by decide +kernel) (by decide +kernel)
set_option maxRecDepth 20000 in
theorem gX6_readsDependence_X6_skips : GoodIn wsX6_readsDependence (wsV RX6 106 RX6 yX6_skips wsX6_skips) := goodIn_app (goodIn_of _ (by decide +kernel)) ggX6_readsDependence_X6_skips
set_option maxRecDepth 20000 in
theorem ggX6_readsDependence_X6_here : GoodIn wsX6_readsDependence wsX6_here := goodIn_r _ [12, 1, 13, 14, 33, 34, 35, 36, 37, 38, 39, 40, 41, 42, 43, 44, 45, 46, 47, 48, 49, 50, 51, 52] (by decide +kernel) (by decide +kernel)
set_option maxRecDepth 20000 in
theorem gX6_readsDependence_X6_here : GoodIn wsX6_readsDependence (wsV RX6 92 RX6 yX6_here wsX6_here) := goodIn_app (goodIn_of _ (by decide +kernel)) ggX6_readsDependence_X6_here
set_option maxRecDepth 20000 in
theorem ggX6_readsDependence_X6_in : GoodIn wsX6_readsDependence wsX6_in := goodIn_r _ [17] (by decide +kernel) (by decide +kernel)
set_option maxRecDepth 20000 in
theorem gX6_readsDependence_X6_in : GoodIn wsX6_readsDependence (va_wsS RX6 56 yX6_in wsX6_in) := goodIn_app (goodIn_of _ (by decide +kernel)) ggX6_readsDependence_X6_in
set_option maxRecDepth 20000 in
theorem ggX6_readsDependence_X6_standsAt : GoodIn wsX6_readsDependence wsX6_standsAt := goodIn_r _ [25, 3, 26, 27, 28, 7, 29, 33, 34, 35, 36, 37, 38, 39, 40, 41, 42, 43, 44, 45, 46, 47, 48, 49, 50, 51, 52] (by decide +kernel) (by decide +kernel)
set_option maxRecDepth 20000 in
theorem gX6_readsDependence_X6_standsAt : GoodIn wsX6_readsDependence (wsV RX6 110 RX6 yX6_standsAt wsX6_standsAt) := goodIn_app (goodIn_of _ (by decide +kernel)) ggX6_readsDependence_X6_standsAt
set_option maxRecDepth 20000 in
theorem ggX6_readsDependence_X6_at : GoodIn wsX6_readsDependence wsX6_at := goodIn_r _ [32] (by decide +kernel) (by decide +kernel)
set_option maxRecDepth 20000 in
theorem gX6_readsDependence_X6_at : GoodIn wsX6_readsDependence (va_wsS RX6 60 yX6_at wsX6_at) := goodIn_app (goodIn_of _ (by decide +kernel)) ggX6_readsDependence_X6_at
theorem dX6_readsDependence_0 : decode cX6_readsDependence 0 = .ok (.iload_n 3, 1) := by decide +kernel
theorem dX6_readsDependence_1 : decode cX6_readsDependence 1 = .ok (.bipush 16, 2) := by decide +kernel
theorem dX6_readsDependence_3 : decode cX6_readsDependence 3 = .ok (.if_icmp .ne 5, 3) := by decide +kernel
theorem dX6_readsDependence_6 : decode cX6_readsDependence 6 = .ok (.iconst 0, 1) := by decide +kernel
theorem dX6_readsDependence_7 : decode cX6_readsDependence 7 = .ok (.ireturn, 1) := by decide +kernel
theorem dX6_readsDependence_8 : decode cX6_readsDependence 8 = .ok (.aload_n 0, 1) := by decide +kernel
theorem dX6_readsDependence_9 : decode cX6_readsDependence 9 = .ok (.dup, 1) := by decide +kernel
theorem dX6_readsDependence_10 : decode cX6_readsDependence 10 = .ok (.getfield 89, 3) := by decide +kernel
theorem dX6_readsDependence_13 : decode cX6_readsDependence 13 = .ok (.iconst 1, 1) := by decide +kernel
theorem dX6_readsDependence_14 : decode cX6_readsDependence 14 = .ok (.iadd, 1) := by decide +kernel
theorem dX6_readsDependence_15 : decode cX6_readsDependence 15 = .ok (.putfield 89, 3) := by decide +kernel
theorem dX6_readsDependence_18 : decode cX6_readsDependence 18 = .ok (.aload_n 0, 1) := by decide +kernel
theorem dX6_readsDependence_19 : decode cX6_readsDependence 19 = .ok (.iconst 0, 1) := by decide +kernel
theorem dX6_readsDependence_20 : decode cX6_readsDependence 20 = .ok (.iload_n 2, 1) := by decide +kernel
theorem dX6_readsDependence_21 : decode cX6_readsDependence 21 = .ok (.iconst 1, 1) := by decide +kernel
theorem dX6_readsDependence_22 : decode cX6_readsDependence 22 = .ok (.isub, 1) := by decide +kernel
theorem dX6_readsDependence_23 : decode cX6_readsDependence 23 = .ok (.invokevirtual 102, 3) := by decide +kernel
theorem dX6_readsDependence_26 : decode cX6_readsDependence 26 = .ok (.ifCond .ne 5, 3) := by decide +kernel
theorem dX6_readsDependence_29 : decode cX6_readsDependence 29 = .ok (.iconst 0, 1) := by decide +kernel
theorem dX6_readsDependence_30 : decode cX6_readsDependence 30 = .ok (.ireturn, 1) := by decide +kernel
theorem dX6_readsDependence_31 : decode cX6_readsDependence 31 = .ok (.aload_n 0, 1) := by decide +kernel
theorem dX6_readsDependence_32 : decode cX6_readsDependence 32 = .ok (.getfield 96, 3) := by decide +kernel
theorem dX6_readsDependence_35 : decode cX6_readsDependence 35 = .ok (.istore 5, 2) := by decide +kernel
theorem dX6_readsDependence_37 : decode cX6_readsDependence 37 = .ok (.aload_n 0, 1) := by decide +kernel
theorem dX6_readsDependence_38 : decode cX6_readsDependence 38 = .ok (.bipush 62, 2) := by decide +kernel
theorem dX6_readsDependence_40 : decode cX6_readsDependence 40 = .ok (.invokevirtual 106, 3) := by decide +kernel
theorem dX6_readsDependence_43 : decode cX6_readsDependence 43 = .ok (.ifCond .eq 14, 3) := by decide +kernel
theorem dX6_readsDependence_46 : decode cX6_readsDependence 46 = .ok (.aload_n 0, 1) := by decide +kernel
theorem dX6_readsDependence_47 : decode cX6_readsDependence 47 = .ok (.iconst 0, 1) := by decide +kernel
theorem dX6_readsDependence_48 : decode cX6_readsDependence 48 = .ok (.iload_n 2, 1) := by decide +kernel
theorem dX6_readsDependence_49 : decode cX6_readsDependence 49 = .ok (.iconst 1, 1) := by decide +kernel
theorem dX6_readsDependence_50 : decode cX6_readsDependence 50 = .ok (.isub, 1) := by decide +kernel
theorem dX6_readsDependence_51 : decode cX6_readsDependence 51 = .ok (.invokevirtual 102, 3) := by decide +kernel
theorem dX6_readsDependence_54 : decode cX6_readsDependence 54 = .ok (.ifCond .ne 5, 3) := by decide +kernel
theorem dX6_readsDependence_57 : decode cX6_readsDependence 57 = .ok (.iconst 0, 1) := by decide +kernel
theorem dX6_readsDependence_58 : decode cX6_readsDependence 58 = .ok (.ireturn, 1) := by decide +kernel
theorem dX6_readsDependence_59 : decode cX6_readsDependence 59 = .ok (.aload_n 0, 1) := by decide +kernel
theorem dX6_readsDependence_60 : decode cX6_readsDependence 60 = .ok (.getfield 96, 3) := by decide +kernel
theorem dX6_readsDependence_63 : decode cX6_readsDependence 63 = .ok (.istore 6, 2) := by decide +kernel
theorem dX6_readsDependence_65 : decode cX6_readsDependence 65 = .ok (.aload_n 0, 1) := by decide +kernel
theorem dX6_readsDependence_66 : decode cX6_readsDependence 66 = .ok (.bipush 58, 2) := by decide +kernel
theorem dX6_readsDependence_68 : decode cX6_readsDependence 68 = .ok (.invokevirtual 106, 3) := by decide +kernel
theorem dX6_readsDependence_71 : decode cX6_readsDependence 71 = .ok (.ifCond .eq 41, 3) := by decide +kernel
theorem dX6_readsDependence_74 : decode cX6_readsDependence 74 = .ok (.aload_n 0, 1) := by decide +kernel
theorem dX6_readsDependence_75 : decode cX6_readsDependence 75 = .ok (.invokevirtual 92, 3) := by decide +kernel
theorem dX6_readsDependence_78 : decode cX6_readsDependence 78 = .ok (.bipush 48, 2) := by decide +kernel
theorem dX6_readsDependence_80 : decode cX6_readsDependence 80 = .ok (.bipush 53, 2) := by decide +kernel
theorem dX6_readsDependence_82 : decode cX6_readsDependence 82 = .ok (.invokestatic 56, 3) := by decide +kernel
theorem dX6_readsDependence_85 : decode cX6_readsDependence 85 = .ok (.ifCond .eq 27, 3) := by decide +kernel
theorem dX6_readsDependence_88 : decode cX6_readsDependence 88 = .ok (.aload_n 0, 1) := by decide +kernel
theorem dX6_readsDependence_89 : decode cX6_readsDependence 89 = .ok (.invokevirtual 92, 3) := by decide +kernel
theorem dX6_readsDependence_92 : decode cX6_readsDependence 92 = .ok (.bipush 48, 2) := by decide +kernel
theorem dX6_readsDependence_94 : decode cX6_readsDependence 94 = .ok (.if_icmp .ne 20, 3) := by decide +kernel
theorem dX6_readsDependence_97 : decode cX6_readsDependence 97 = .ok (.aload_n 0, 1) := by decide +kernel
theorem dX6_readsDependence_98 : decode cX6_readsDependence 98 = .ok (.iload 5, 2) := by decide +kernel
theorem dX6_readsDependence_100 : decode cX6_readsDependence 100 = .ok (.invokevirtual 110, 3) := by decide +kernel
theorem dX6_readsDependence_103 : decode cX6_readsDependence 103 = .ok (.aload_n 0, 1) := by decide +kernel
theorem dX6_readsDependence_104 : decode cX6_readsDependence 104 = .ok (.iload 6, 2) := by decide +kernel
theorem dX6_readsDependence_106 : decode cX6_readsDependence 106 = .ok (.invokevirtual 110, 3) := by decide +kernel
theorem dX6_readsDependence_109 : decode cX6_readsDependence 109 = .ok (.if_icmp .lt 5, 3) := by decide +kernel
theorem dX6_readsDependence_112 : decode cX6_readsDependence 112 = .ok (.iconst 0, 1) := by decide +kernel
theorem dX6_readsDependence_113 : decode cX6_readsDependence 113 = .ok (.ireturn, 1) := by decide +kernel
theorem dX6_readsDependence_114 : decode cX6_readsDependence 114 = .ok (.aload_n 0, 1) := by decide +kernel
theorem dX6_readsDependence_115 : decode cX6_readsDependence 115 = .ok (.invokevirtual 92, 3) := by decide +kernel
theorem dX6_readsDependence_118 : decode cX6_readsDependence 118 = .ok (.bipush 48, 2) := by decide +kernel
theorem dX6_readsDependence_120 : decode cX6_readsDependence 120 = .ok (.isub, 1) := by decide +kernel
theorem dX6_readsDependence_121 : decode cX6_readsDependence 121 = .ok (.istore 7, 2) := by decide +kernel
theorem dX6_readsDependence_123 : decode cX6_readsDependence 123 = .ok (.aload_n 0, 1) := by decide +kernel
theorem dX6_readsDependence_124 : decode cX6_readsDependence 124 = .ok (.dup, 1) := by decide +kernel
theorem dX6_readsDependence_125 : decode cX6_readsDependence 125 = .ok (.getfield 89, 3) := by decide +kernel
theorem dX6_readsDependence_128 : decode cX6_readsDependence 128 = .ok (.iconst 1, 1) := by decide +kernel
theorem dX6_readsDependence_129 : decode cX6_readsDependence 129 = .ok (.iadd, 1) := by decide +kernel
theorem dX6_readsDependence_130 : decode cX6_readsDependence 130 = .ok (.putfield 89, 3) := by decide +kernel
theorem dX6_readsDependence_133 : decode cX6_readsDependence 133 = .ok (.aload_n 0, 1) := by decide +kernel
theorem dX6_readsDependence_134 : decode cX6_readsDependence 134 = .ok (.bipush 59, 2) := by decide +kernel
theorem dX6_readsDependence_136 : decode cX6_readsDependence 136 = .ok (.invokevirtual 106, 3) := by decide +kernel
theorem dX6_readsDependence_139 : decode cX6_readsDependence 139 = .ok (.ifCond .ne 5, 3) := by decide +kernel
theorem dX6_readsDependence_142 : decode cX6_readsDependence 142 = .ok (.iconst 0, 1) := by decide +kernel
theorem dX6_readsDependence_143 : decode cX6_readsDependence 143 = .ok (.ireturn, 1) := by decide +kernel
theorem dX6_readsDependence_144 : decode cX6_readsDependence 144 = .ok (.iload 4, 2) := by decide +kernel
theorem dX6_readsDependence_146 : decode cX6_readsDependence 146 = .ok (.ifCond .eq 71, 3) := by decide +kernel
theorem dX6_readsDependence_149 : decode cX6_readsDependence 149 = .ok (.aload_n 0, 1) := by decide +kernel
theorem dX6_readsDependence_150 : decode cX6_readsDependence 150 = .ok (.getfield 7, 3) := by decide +kernel
theorem dX6_readsDependence_153 : decode cX6_readsDependence 153 = .ok (.iload_n 3, 1) := by decide +kernel
theorem dX6_readsDependence_154 : decode cX6_readsDependence 154 = .ok (.iconst 0, 1) := by decide +kernel
theorem dX6_readsDependence_155 : decode cX6_readsDependence 155 = .ok (.invokestatic 60, 3) := by decide +kernel
theorem dX6_readsDependence_158 : decode cX6_readsDependence 158 = .ok (.iload_n 1, 1) := by decide +kernel
theorem dX6_readsDependence_159 : decode cX6_readsDependence 159 = .ok (.iastore, 1) := by decide +kernel
theorem dX6_readsDependence_160 : decode cX6_readsDependence 160 = .ok (.aload_n 0, 1) := by decide +kernel
theorem dX6_readsDependence_161 : decode cX6_readsDependence 161 = .ok (.getfield 7, 3) := by decide +kernel
theorem dX6_readsDependence_164 : decode cX6_readsDependence 164 = .ok (.iload_n 3, 1) := by decide +kernel
theorem dX6_readsDependence_165 : decode cX6_readsDependence 165 = .ok (.iconst 1, 1) := by decide +kernel
theorem dX6_readsDependence_166 : decode cX6_readsDependence 166 = .ok (.invokestatic 60, 3) := by decide +kernel
theorem dX6_readsDependence_169 : decode cX6_readsDependence 169 = .ok (.iload 5, 2) := by decide +kernel
theorem dX6_readsDependence_171 : decode cX6_readsDependence 171 = .ok (.iastore, 1) := by decide +kernel
theorem dX6_readsDependence_172 : decode cX6_readsDependence 172 = .ok (.aload_n 0, 1) := by decide +kernel
theorem dX6_readsDependence_173 : decode cX6_readsDependence 173 = .ok (.getfield 7, 3) := by decide +kernel
theorem dX6_readsDependence_176 : decode cX6_readsDependence 176 = .ok (.iload_n 3, 1) := by decide +kernel
theorem dX6_readsDependence_177 : decode cX6_readsDependence 177 = .ok (.iconst 2, 1) := by decide +kernel
theorem dX6_readsDependence_178 : decode cX6_readsDependence 178 = .ok (.invokestatic 60, 3) := by decide +kernel
theorem dX6_readsDependence_181 : decode cX6_readsDependence 181 = .ok (.iload 6, 2) := by decide +kernel
theorem dX6_readsDependence_183 : decode cX6_readsDependence 183 = .ok (.iastore, 1) := by decide +kernel
theorem dX6_readsDependence_184 : decode cX6_readsDependence 184 = .ok (.aload_n 0, 1) := by decide +kernel
theorem dX6_readsDependence_185 : decode cX6_readsDependence 185 = .ok (.getfield 7, 3) := by decide +kernel
theorem dX6_readsDependence_188 : decode cX6_readsDependence 188 = .ok (.iload_n 3, 1) := by decide +kernel
theorem dX6_readsDependence_189 : decode cX6_readsDependence 189 = .ok (.iconst 3, 1) := by decide +kernel
theorem dX6_readsDependence_190 : decode cX6_readsDependence 190 = .ok (.invokestatic 60, 3) := by decide +kernel
theorem dX6_readsDependence_193 : decode cX6_readsDependence 193 = .ok (.iload 7, 2) := by decide +kernel
theorem dX6_readsDependence_195 : decode cX6_readsDependence 195 = .ok (.iastore, 1) := by decide +kernel
theorem dX6_readsDependence_196 : decode cX6_readsDependence 196 = .ok (.aload_n 0, 1) := by decide +kernel
theorem dX6_readsDependence_197 : decode cX6_readsDependence 197 = .ok (.getfield 7, 3) := by decide +kernel
theorem dX6_readsDependence_200 : decode cX6_readsDependence 200 = .ok (.iload_n 3, 1) := by decide +kernel
theorem dX6_readsDependence_201 : decode cX6_readsDependence 201 = .ok (.iconst 4, 1) := by decide +kernel
theorem dX6_readsDependence_202 : decode cX6_readsDependence 202 = .ok (.invokestatic 60, 3) := by decide +kernel
theorem dX6_readsDependence_205 : decode cX6_readsDependence 205 = .ok (.iconst 1, 1) := by decide +kernel
theorem dX6_readsDependence_206 : decode cX6_readsDependence 206 = .ok (.iastore, 1) := by decide +kernel
theorem dX6_readsDependence_207 : decode cX6_readsDependence 207 = .ok (.aload_n 0, 1) := by decide +kernel
theorem dX6_readsDependence_208 : decode cX6_readsDependence 208 = .ok (.getfield 7, 3) := by decide +kernel
theorem dX6_readsDependence_211 : decode cX6_readsDependence 211 = .ok (.iconst 1, 1) := by decide +kernel
theorem dX6_readsDependence_212 : decode cX6_readsDependence 212 = .ok (.dup2, 1) := by decide +kernel
theorem dX6_readsDependence_213 : decode cX6_readsDependence 213 = .ok (.iaload, 1) := by decide +kernel
theorem dX6_readsDependence_214 : decode cX6_readsDependence 214 = .ok (.iconst 1, 1) := by decide +kernel
theorem dX6_readsDependence_215 : decode cX6_readsDependence 215 = .ok (.iadd, 1) := by decide +kernel
theorem dX6_readsDependence_216 : decode cX6_readsDependence 216 = .ok (.iastore, 1) := by decide +kernel
theorem dX6_readsDependence_217 : decode cX6_readsDependence 217 = .ok (.iconst 1, 1) := by decide +kernel
theorem dX6_readsDependence_218 : decode cX6_readsDependence 218 = .ok (.ireturn, 1) := by decide +kernel
set_option maxRecDepth 20000 in
theorem ggX6_commands_X6_here : GoodIn wsX6_commands wsX6_here := goodIn_r _ [8, 2, 3, 9, 41, 42, 43, 44, 45, 46, 47, 48, 49, 50, 51, 52, 53, 54, 55, 56, 57, 58, 59, 60] (by decide +kernel) (by decide +kernel)
set_option maxRecDepth 20000 in
theorem gX6_commands_X6_here : GoodIn wsX6_commands (wsV RX6 92 RX6 yX6_here wsX6_here) := goodIn_app (goodIn_of _ (by decide +kernel)) ggX6_commands_X6_here
set_option maxRecDepth 20000 in
theorem ggX6_commands_X6_readsStatement : GoodIn wsX6_commands wsX6_readsStatement := goodIn_r _ [13, 2, 14, 1, 15, 16, 17, 7, 18, 4, 5, 6, 8, 3, 9, 19, 20, 21, 22, 23, 24, 25, 41, 42, 43, 44, 45, 46, 47, 48, 49, 50, 51, 52, 53, 54, 55, 56, 57, 58, 59, 60] (by decide +kernel) (by decide +kernel)
set_option maxRecDepth 20000 in
theorem gX6_commands_X6_readsStatement : GoodIn wsX6_commands (wsV RX6 113 RX6 yX6_readsStatement wsX6_readsStatement) := goodIn_app (goodIn_of _ (by decide +kernel)) ggX6_commands_X6_readsStatement
set_option maxRecDepth 20000 in
theorem ggX6_commands_X6_readsDependence : GoodIn wsX6_commands wsX6_readsDependence := goodIn_r _ [29, 2, 14, 1, 15, 16, 17, 7, 18, 4, 5, 6, 8, 3, 9, 19, 20, 21, 22, 23, 24, 25, 30, 31, 32, 33, 34, 35, 36, 37, 38, 39, 40, 41, 42, 43, 44, 45, 46, 47, 48, 49, 50, 51, 52, 53, 54, 55, 56, 57, 58, 59, 60] (by decide +kernel) (by decide +kernel)
set_option maxRecDepth 20000 in
theorem gX6_commands_X6_readsDependence : GoodIn wsX6_commands (wsV RX6 117 RX6 yX6_readsDependence wsX6_readsDependence) := goodIn_app (goodIn_of _ (by decide +kernel)) ggX6_commands_X6_readsDependence
theorem dX6_commands_0 : decode cX6_commands 0 = .ok (.aload_n 0, 1) := by decide +kernel
theorem dX6_commands_1 : decode cX6_commands 1 = .ok (.getfield 7, 3) := by decide +kernel
theorem dX6_commands_4 : decode cX6_commands 4 = .ok (.iconst 0, 1) := by decide +kernel
theorem dX6_commands_5 : decode cX6_commands 5 = .ok (.iaload, 1) := by decide +kernel
theorem dX6_commands_6 : decode cX6_commands 6 = .ok (.istore_n 2, 1) := by decide +kernel
theorem dX6_commands_7 : decode cX6_commands 7 = .ok (.aload_n 0, 1) := by decide +kernel
theorem dX6_commands_8 : decode cX6_commands 8 = .ok (.getfield 7, 3) := by decide +kernel
theorem dX6_commands_11 : decode cX6_commands 11 = .ok (.iconst 1, 1) := by decide +kernel
theorem dX6_commands_12 : decode cX6_commands 12 = .ok (.iaload, 1) := by decide +kernel
theorem dX6_commands_13 : decode cX6_commands 13 = .ok (.istore_n 3, 1) := by decide +kernel
theorem dX6_commands_14 : decode cX6_commands 14 = .ok (.iconst 0, 1) := by decide +kernel
theorem dX6_commands_15 : decode cX6_commands 15 = .ok (.istore 4, 2) := by decide +kernel
theorem dX6_commands_17 : decode cX6_commands 17 = .ok (.aload_n 0, 1) := by decide +kernel
theorem dX6_commands_18 : decode cX6_commands 18 = .ok (.iconst 0, 1) := by decide +kernel
theorem dX6_commands_19 : decode cX6_commands 19 = .ok (.putfield 89, 3) := by decide +kernel
theorem dX6_commands_22 : decode cX6_commands 22 = .ok (.iconst 0, 1) := by decide +kernel
theorem dX6_commands_23 : decode cX6_commands 23 = .ok (.istore 5, 2) := by decide +kernel
theorem dX6_commands_25 : decode cX6_commands 25 = .ok (.aload_n 0, 1) := by decide +kernel
theorem dX6_commands_26 : decode cX6_commands 26 = .ok (.invokevirtual 92, 3) := by decide +kernel
theorem dX6_commands_29 : decode cX6_commands 29 = .ok (.bipush 115, 2) := by decide +kernel
theorem dX6_commands_31 : decode cX6_commands 31 = .ok (.if_icmp .ne 17, 3) := by decide +kernel
theorem dX6_commands_34 : decode cX6_commands 34 = .ok (.aload_n 0, 1) := by decide +kernel
theorem dX6_commands_35 : decode cX6_commands 35 = .ok (.iload_n 2, 1) := by decide +kernel
theorem dX6_commands_36 : decode cX6_commands 36 = .ok (.iload_n 1, 1) := by decide +kernel
theorem dX6_commands_37 : decode cX6_commands 37 = .ok (.invokevirtual 113, 3) := by decide +kernel
theorem dX6_commands_40 : decode cX6_commands 40 = .ok (.istore 5, 2) := by decide +kernel
theorem dX6_commands_42 : decode cX6_commands 42 = .ok (.iinc 2 1, 3) := by decide +kernel
theorem dX6_commands_45 : decode cX6_commands 45 = .ok (.goto 69, 3) := by decide +kernel
theorem dX6_commands_48 : decode cX6_commands 48 = .ok (.aload_n 0, 1) := by decide +kernel
theorem dX6_commands_49 : decode cX6_commands 49 = .ok (.invokevirtual 92, 3) := by decide +kernel
theorem dX6_commands_52 : decode cX6_commands 52 = .ok (.bipush 102, 2) := by decide +kernel
theorem dX6_commands_54 : decode cX6_commands 54 = .ok (.if_icmp .eq 21, 3) := by decide +kernel
theorem dX6_commands_57 : decode cX6_commands 57 = .ok (.aload_n 0, 1) := by decide +kernel
theorem dX6_commands_58 : decode cX6_commands 58 = .ok (.invokevirtual 92, 3) := by decide +kernel
theorem dX6_commands_61 : decode cX6_commands 61 = .ok (.bipush 97, 2) := by decide +kernel
theorem dX6_commands_63 : decode cX6_commands 63 = .ok (.if_icmp .eq 12, 3) := by decide +kernel
theorem dX6_commands_66 : decode cX6_commands 66 = .ok (.aload_n 0, 1) := by decide +kernel
theorem dX6_commands_67 : decode cX6_commands 67 = .ok (.invokevirtual 92, 3) := by decide +kernel
theorem dX6_commands_70 : decode cX6_commands 70 = .ok (.bipush 111, 2) := by decide +kernel
theorem dX6_commands_72 : decode cX6_commands 72 = .ok (.if_icmp .ne 42, 3) := by decide +kernel
theorem dX6_commands_75 : decode cX6_commands 75 = .ok (.aload_n 0, 1) := by decide +kernel
theorem dX6_commands_76 : decode cX6_commands 76 = .ok (.aload_n 0, 1) := by decide +kernel
theorem dX6_commands_77 : decode cX6_commands 77 = .ok (.invokevirtual 92, 3) := by decide +kernel
theorem dX6_commands_80 : decode cX6_commands 80 = .ok (.bipush 102, 2) := by decide +kernel
theorem dX6_commands_82 : decode cX6_commands 82 = .ok (.if_icmp .ne 7, 3) := by decide +kernel
theorem dX6_commands_85 : decode cX6_commands 85 = .ok (.iconst 0, 1) := by decide +kernel
theorem dX6_commands_86 : decode cX6_commands 86 = .ok (.goto 17, 3) := by decide +kernel
theorem dX6_commands_89 : decode cX6_commands 89 = .ok (.aload_n 0, 1) := by decide +kernel
theorem dX6_commands_90 : decode cX6_commands 90 = .ok (.invokevirtual 92, 3) := by decide +kernel
theorem dX6_commands_93 : decode cX6_commands 93 = .ok (.bipush 97, 2) := by decide +kernel
theorem dX6_commands_95 : decode cX6_commands 95 = .ok (.if_icmp .ne 7, 3) := by decide +kernel
theorem dX6_commands_98 : decode cX6_commands 98 = .ok (.iconst 1, 1) := by decide +kernel
theorem dX6_commands_99 : decode cX6_commands 99 = .ok (.goto 4, 3) := by decide +kernel
theorem dX6_commands_102 : decode cX6_commands 102 = .ok (.iconst 2, 1) := by decide +kernel
theorem dX6_commands_103 : decode cX6_commands 103 = .ok (.iload_n 2, 1) := by decide +kernel
theorem dX6_commands_104 : decode cX6_commands 104 = .ok (.iload_n 3, 1) := by decide +kernel
theorem dX6_commands_105 : decode cX6_commands 105 = .ok (.iload_n 1, 1) := by decide +kernel
theorem dX6_commands_106 : decode cX6_commands 106 = .ok (.invokevirtual 117, 3) := by decide +kernel
theorem dX6_commands_109 : decode cX6_commands 109 = .ok (.istore 5, 2) := by decide +kernel
theorem dX6_commands_111 : decode cX6_commands 111 = .ok (.iinc 3 1, 3) := by decide +kernel
theorem dX6_commands_114 : decode cX6_commands 114 = .ok (.iload 5, 2) := by decide +kernel
theorem dX6_commands_116 : decode cX6_commands 116 = .ok (.ifCond .ne 5, 3) := by decide +kernel
theorem dX6_commands_119 : decode cX6_commands 119 = .ok (.iconst (-1), 1) := by decide +kernel
theorem dX6_commands_120 : decode cX6_commands 120 = .ok (.ireturn, 1) := by decide +kernel
theorem dX6_commands_121 : decode cX6_commands 121 = .ok (.iinc 4 1, 3) := by decide +kernel
theorem dX6_commands_124 : decode cX6_commands 124 = .ok (.aload_n 0, 1) := by decide +kernel
theorem dX6_commands_125 : decode cX6_commands 125 = .ok (.getfield 89, 3) := by decide +kernel
theorem dX6_commands_128 : decode cX6_commands 128 = .ok (.aload_n 0, 1) := by decide +kernel
theorem dX6_commands_129 : decode cX6_commands 129 = .ok (.getfield 86, 3) := by decide +kernel
theorem dX6_commands_132 : decode cX6_commands 132 = .ok (.if_icmp .lt (-110), 3) := by decide +kernel
theorem dX6_commands_135 : decode cX6_commands 135 = .ok (.iload 4, 2) := by decide +kernel
theorem dX6_commands_137 : decode cX6_commands 137 = .ok (.ireturn, 1) := by decide +kernel
set_option maxRecDepth 20000 in
theorem ggX6_execute_X6_commands : GoodIn wsX6_execute wsX6_commands := goodIn_r _ [9, 10, 2, 4, 11, 12, 13, 8, 14, 15, 16, 17, 18, 19, 20, 21, 22, 23, 24, 25, 26, 27, 28, 29, 30, 31, 32, 33, 34, 35, 36, 37, 38, 39, 40, 41, 42, 43, 44, 45, 46, 51, 52, 53, 54, 55, 56, 57, 58, 59, 60, 61, 62, 63, 64, 65, 66, 67, 68, 69, 70] (by decide +kernel) (by decide +kernel)
set_option maxRecDepth 20000 in
theorem gX6_execute_X6_commands : GoodIn wsX6_execute (wsV RX6 121 RX6 yX6_commands wsX6_commands) := goodIn_app (goodIn_of _ (by decide +kernel)) ggX6_execute_X6_commands
set_option maxRecDepth 20000 in
theorem ggX6_execute_X6_fails : GoodIn wsX6_execute wsX6_fails := goodIn_r _ [50, 1, 51, 52, 53, 54, 55, 56, 57, 58, 59, 60, 61, 62, 63, 64, 65, 66, 67, 68, 69, 70] (by decide +kernel) (by decide +kernel)
set_option maxRecDepth 20000 in
theorem gX6_execute_X6_fails : GoodIn wsX6_execute (wsV RX6 83 RX6 yX6_fails wsX6_fails) := goodIn_app (goodIn_of _ (by decide +kernel)) ggX6_execute_X6_fails
theorem dX6_execute_0 : decode cX6_execute 0 = .ok (.aload_n 0, 1) := by decide +kernel
theorem dX6_execute_1 : decode cX6_execute 1 = .ok (.iconst 0, 1) := by decide +kernel
theorem dX6_execute_2 : decode cX6_execute 2 = .ok (.putfield 53, 3) := by decide +kernel
theorem dX6_execute_5 : decode cX6_execute 5 = .ok (.aload_n 0, 1) := by decide +kernel
theorem dX6_execute_6 : decode cX6_execute 6 = .ok (.iconst 0, 1) := by decide +kernel
theorem dX6_execute_7 : decode cX6_execute 7 = .ok (.invokevirtual 121, 3) := by decide +kernel
theorem dX6_execute_10 : decode cX6_execute 10 = .ok (.istore_n 1, 1) := by decide +kernel
theorem dX6_execute_11 : decode cX6_execute 11 = .ok (.aload_n 0, 1) := by decide +kernel
theorem dX6_execute_12 : decode cX6_execute 12 = .ok (.iload_n 1, 1) := by decide +kernel
theorem dX6_execute_13 : decode cX6_execute 13 = .ok (.ifCond .ge 10, 3) := by decide +kernel
theorem dX6_execute_16 : decode cX6_execute 16 = .ok (.aload_n 0, 1) := by decide +kernel
theorem dX6_execute_17 : decode cX6_execute 17 = .ok (.getfield 89, 3) := by decide +kernel
theorem dX6_execute_20 : decode cX6_execute 20 = .ok (.goto 4, 3) := by decide +kernel
theorem dX6_execute_23 : decode cX6_execute 23 = .ok (.iconst (-1), 1) := by decide +kernel
theorem dX6_execute_24 : decode cX6_execute 24 = .ok (.putfield 19, 3) := by decide +kernel
theorem dX6_execute_27 : decode cX6_execute 27 = .ok (.iload_n 1, 1) := by decide +kernel
theorem dX6_execute_28 : decode cX6_execute 28 = .ok (.ifCond .lt 9, 3) := by decide +kernel
theorem dX6_execute_31 : decode cX6_execute 31 = .ok (.aload_n 0, 1) := by decide +kernel
theorem dX6_execute_32 : decode cX6_execute 32 = .ok (.iconst 1, 1) := by decide +kernel
theorem dX6_execute_33 : decode cX6_execute 33 = .ok (.invokevirtual 121, 3) := by decide +kernel
theorem dX6_execute_36 : decode cX6_execute 36 = .ok (.pop, 1) := by decide +kernel
theorem dX6_execute_37 : decode cX6_execute 37 = .ok (.aload_n 0, 1) := by decide +kernel
theorem dX6_execute_38 : decode cX6_execute 38 = .ok (.iconst 0, 1) := by decide +kernel
theorem dX6_execute_39 : decode cX6_execute 39 = .ok (.putfield 86, 3) := by decide +kernel
theorem dX6_execute_42 : decode cX6_execute 42 = .ok (.iload_n 1, 1) := by decide +kernel
theorem dX6_execute_43 : decode cX6_execute 43 = .ok (.ifCond .ge 11, 3) := by decide +kernel
theorem dX6_execute_46 : decode cX6_execute 46 = .ok (.aload_n 0, 1) := by decide +kernel
theorem dX6_execute_47 : decode cX6_execute 47 = .ok (.iconst 1, 1) := by decide +kernel
theorem dX6_execute_48 : decode cX6_execute 48 = .ok (.invokevirtual 83, 3) := by decide +kernel
theorem dX6_execute_51 : decode cX6_execute 51 = .ok (.goto 4, 3) := by decide +kernel
theorem dX6_execute_54 : decode cX6_execute 54 = .ok (.iload_n 1, 1) := by decide +kernel
theorem dX6_execute_55 : decode cX6_execute 55 = .ok (.ireturn, 1) := by decide +kernel
set_option maxRecDepth 20000 in
theorem ggX6_setCost_X6_isStatement : GoodIn wsX6_setCost wsX6_isStatement := goodIn_r _ [7, 2, 8, 9, 6, 10, 19, 20, 21, 22, 23, 24, 25, 26, 27, 28, 29, 30, 31, 32, 33, 34, 35, 36, 37, 38] (by decide +kernel) (by decide +kernel)
set_option maxRecDepth 20000 in
theorem gX6_setCost_X6_isStatement : GoodIn wsX6_setCost (wsV RX6 125 RX6 yX6_isStatement wsX6_isStatement) := goodIn_app (goodIn_of _ (by decide +kernel)) ggX6_setCost_X6_isStatement
set_option maxRecDepth 20000 in
theorem ggX6_setCost_X6_fails : GoodIn wsX6_setCost wsX6_fails := goodIn_r _ [14, 1, 19, 20, 21, 22, 23, 24, 25, 26, 27, 28, 29, 30, 31, 32, 33, 34, 35, 36, 37, 38] (by decide +kernel) (by decide +kernel)
set_option maxRecDepth 20000 in
theorem gX6_setCost_X6_fails : GoodIn wsX6_setCost (wsV RX6 83 RX6 yX6_fails wsX6_fails) := goodIn_app (goodIn_of _ (by decide +kernel)) ggX6_setCost_X6_fails
set_option maxRecDepth 20000 in
theorem ggX6_setCost_X6_in : GoodIn wsX6_setCost wsX6_in := goodIn_r _ [10] (by decide +kernel) (by decide +kernel)
set_option maxRecDepth 20000 in
theorem gX6_setCost_X6_in : GoodIn wsX6_setCost (va_wsS RX6 56 yX6_in wsX6_in) := goodIn_app (goodIn_of _ (by decide +kernel)) ggX6_setCost_X6_in
set_option maxRecDepth 20000 in
theorem ggX6_setCost_X6_cost : GoodIn wsX6_setCost wsX6_cost := goodIn_r _ [18, 2, 19, 20, 21, 22, 23, 24, 25, 26, 27, 28, 29, 30, 31, 32, 33, 34, 35, 36, 37, 38] (by decide +kernel) (by decide +kernel)
set_option maxRecDepth 20000 in
theorem gX6_setCost_X6_cost : GoodIn wsX6_setCost (wsV RX6 68 RX6 yX6_cost wsX6_cost) := goodIn_app (goodIn_of _ (by decide +kernel)) ggX6_setCost_X6_cost
theorem dX6_setCost_0 : decode cX6_setCost 0 = .ok (.aload_n 0, 1) := by decide +kernel
theorem dX6_setCost_1 : decode cX6_setCost 1 = .ok (.iconst 0, 1) := by decide +kernel
theorem dX6_setCost_2 : decode cX6_setCost 2 = .ok (.putfield 53, 3) := by decide +kernel
theorem dX6_setCost_5 : decode cX6_setCost 5 = .ok (.aload_n 0, 1) := by decide +kernel
theorem dX6_setCost_6 : decode cX6_setCost 6 = .ok (.iload_n 1, 1) := by decide +kernel
theorem dX6_setCost_7 : decode cX6_setCost 7 = .ok (.invokevirtual 125, 3) := by decide +kernel
theorem dX6_setCost_10 : decode cX6_setCost 10 = .ok (.ifCond .ne 9, 3) := by decide +kernel
theorem dX6_setCost_13 : decode cX6_setCost 13 = .ok (.aload_n 0, 1) := by decide +kernel
theorem dX6_setCost_14 : decode cX6_setCost 14 = .ok (.iconst 1, 1) := by decide +kernel
theorem dX6_setCost_15 : decode cX6_setCost 15 = .ok (.invokevirtual 83, 3) := by decide +kernel
theorem dX6_setCost_18 : decode cX6_setCost 18 = .ok (.ireturn, 1) := by decide +kernel
theorem dX6_setCost_19 : decode cX6_setCost 19 = .ok (.iload_n 2, 1) := by decide +kernel
theorem dX6_setCost_20 : decode cX6_setCost 20 = .ok (.iconst 1, 1) := by decide +kernel
theorem dX6_setCost_21 : decode cX6_setCost 21 = .ok (.bipush 9, 2) := by decide +kernel
theorem dX6_setCost_23 : decode cX6_setCost 23 = .ok (.invokestatic 56, 3) := by decide +kernel
theorem dX6_setCost_26 : decode cX6_setCost 26 = .ok (.ifCond .ne 9, 3) := by decide +kernel
theorem dX6_setCost_29 : decode cX6_setCost 29 = .ok (.aload_n 0, 1) := by decide +kernel
theorem dX6_setCost_30 : decode cX6_setCost 30 = .ok (.iconst 2, 1) := by decide +kernel
theorem dX6_setCost_31 : decode cX6_setCost 31 = .ok (.invokevirtual 83, 3) := by decide +kernel
theorem dX6_setCost_34 : decode cX6_setCost 34 = .ok (.ireturn, 1) := by decide +kernel
theorem dX6_setCost_35 : decode cX6_setCost 35 = .ok (.aload_n 0, 1) := by decide +kernel
theorem dX6_setCost_36 : decode cX6_setCost 36 = .ok (.iload_n 1, 1) := by decide +kernel
theorem dX6_setCost_37 : decode cX6_setCost 37 = .ok (.invokevirtual 68, 3) := by decide +kernel
theorem dX6_setCost_40 : decode cX6_setCost 40 = .ok (.istore_n 3, 1) := by decide +kernel
theorem dX6_setCost_41 : decode cX6_setCost 41 = .ok (.aload_n 0, 1) := by decide +kernel
theorem dX6_setCost_42 : decode cX6_setCost 42 = .ok (.getfield 7, 3) := by decide +kernel
theorem dX6_setCost_45 : decode cX6_setCost 45 = .ok (.bipush 10, 2) := by decide +kernel
theorem dX6_setCost_47 : decode cX6_setCost 47 = .ok (.iload_n 1, 1) := by decide +kernel
theorem dX6_setCost_48 : decode cX6_setCost 48 = .ok (.iadd, 1) := by decide +kernel
theorem dX6_setCost_49 : decode cX6_setCost 49 = .ok (.iload_n 2, 1) := by decide +kernel
theorem dX6_setCost_50 : decode cX6_setCost 50 = .ok (.iastore, 1) := by decide +kernel
theorem dX6_setCost_51 : decode cX6_setCost 51 = .ok (.iload_n 3, 1) := by decide +kernel
theorem dX6_setCost_52 : decode cX6_setCost 52 = .ok (.ireturn, 1) := by decide +kernel
set_option maxRecDepth 20000 in
theorem ggX6_maySet_X6_in : GoodIn wsX6_maySet wsX6_in := goodIn_r _ [4] (by decide +kernel) (by decide +kernel)
set_option maxRecDepth 20000 in
theorem gX6_maySet_X6_in : GoodIn wsX6_maySet (va_wsS RX6 56 yX6_in wsX6_in) := goodIn_app (goodIn_of _ (by decide +kernel)) ggX6_maySet_X6_in
theorem dX6_maySet_0 : decode cX6_maySet 0 = .ok (.iload_n 0, 1) := by decide +kernel
theorem dX6_maySet_1 : decode cX6_maySet 1 = .ok (.tableswitch 61 0 3 #[31, 39, 46, 54], 31) := by decide +kernel
theorem dX6_maySet_32 : decode cX6_maySet 32 = .ok (.iload_n 1, 1) := by decide +kernel
theorem dX6_maySet_33 : decode cX6_maySet 33 = .ok (.iconst 1, 1) := by decide +kernel
theorem dX6_maySet_34 : decode cX6_maySet 34 = .ok (.bipush 40, 2) := by decide +kernel
theorem dX6_maySet_36 : decode cX6_maySet 36 = .ok (.invokestatic 56, 3) := by decide +kernel
theorem dX6_maySet_39 : decode cX6_maySet 39 = .ok (.ireturn, 1) := by decide +kernel
theorem dX6_maySet_40 : decode cX6_maySet 40 = .ok (.iload_n 1, 1) := by decide +kernel
theorem dX6_maySet_41 : decode cX6_maySet 41 = .ok (.iconst 0, 1) := by decide +kernel
theorem dX6_maySet_42 : decode cX6_maySet 42 = .ok (.iconst 5, 1) := by decide +kernel
theorem dX6_maySet_43 : decode cX6_maySet 43 = .ok (.invokestatic 56, 3) := by decide +kernel
theorem dX6_maySet_46 : decode cX6_maySet 46 = .ok (.ireturn, 1) := by decide +kernel
theorem dX6_maySet_47 : decode cX6_maySet 47 = .ok (.iload_n 1, 1) := by decide +kernel
theorem dX6_maySet_48 : decode cX6_maySet 48 = .ok (.iconst 1, 1) := by decide +kernel
theorem dX6_maySet_49 : decode cX6_maySet 49 = .ok (.bipush 6, 2) := by decide +kernel
theorem dX6_maySet_51 : decode cX6_maySet 51 = .ok (.invokestatic 56, 3) := by decide +kernel
theorem dX6_maySet_54 : decode cX6_maySet 54 = .ok (.ireturn, 1) := by decide +kernel
theorem dX6_maySet_55 : decode cX6_maySet 55 = .ok (.iload_n 1, 1) := by decide +kernel
theorem dX6_maySet_56 : decode cX6_maySet 56 = .ok (.iconst 0, 1) := by decide +kernel
theorem dX6_maySet_57 : decode cX6_maySet 57 = .ok (.iconst 2, 1) := by decide +kernel
theorem dX6_maySet_58 : decode cX6_maySet 58 = .ok (.invokestatic 56, 3) := by decide +kernel
theorem dX6_maySet_61 : decode cX6_maySet 61 = .ok (.ireturn, 1) := by decide +kernel
theorem dX6_maySet_62 : decode cX6_maySet 62 = .ok (.iconst 0, 1) := by decide +kernel
theorem dX6_maySet_63 : decode cX6_maySet 63 = .ok (.ireturn, 1) := by decide +kernel
set_option maxRecDepth 20000 in
theorem ggX6_set_X6_maySet : GoodIn wsX6_set wsX6_maySet := goodIn_r _ [6, 7, 8, 5, 9] (by decide +kernel) (by decide +kernel)
set_option maxRecDepth 20000 in
theorem gX6_set_X6_maySet : GoodIn wsX6_set (va_wsS RX6 128 yX6_maySet wsX6_maySet) := goodIn_app (goodIn_of _ (by decide +kernel)) ggX6_set_X6_maySet
set_option maxRecDepth 20000 in
theorem ggX6_set_X6_fails : GoodIn wsX6_set wsX6_fails := goodIn_r _ [13, 1, 14, 15, 16, 17, 18, 19, 20, 21, 22, 23, 24, 25, 26, 27, 28, 29, 30, 31, 32, 33] (by decide +kernel) (by decide +kernel)
set_option maxRecDepth 20000 in
theorem gX6_set_X6_fails : GoodIn wsX6_set (wsV RX6 83 RX6 yX6_fails wsX6_fails) := goodIn_app (goodIn_of _ (by decide +kernel)) ggX6_set_X6_fails
theorem dX6_set_0 : decode cX6_set 0 = .ok (.aload_n 0, 1) := by decide +kernel
theorem dX6_set_1 : decode cX6_set 1 = .ok (.iconst 0, 1) := by decide +kernel
theorem dX6_set_2 : decode cX6_set 2 = .ok (.putfield 53, 3) := by decide +kernel
theorem dX6_set_5 : decode cX6_set 5 = .ok (.iload_n 1, 1) := by decide +kernel
theorem dX6_set_6 : decode cX6_set 6 = .ok (.iload_n 2, 1) := by decide +kernel
theorem dX6_set_7 : decode cX6_set 7 = .ok (.invokestatic 128, 3) := by decide +kernel
theorem dX6_set_10 : decode cX6_set 10 = .ok (.ifCond .ne 9, 3) := by decide +kernel
theorem dX6_set_13 : decode cX6_set 13 = .ok (.aload_n 0, 1) := by decide +kernel
theorem dX6_set_14 : decode cX6_set 14 = .ok (.iconst 1, 1) := by decide +kernel
theorem dX6_set_15 : decode cX6_set 15 = .ok (.invokevirtual 83, 3) := by decide +kernel
theorem dX6_set_18 : decode cX6_set 18 = .ok (.ireturn, 1) := by decide +kernel
theorem dX6_set_19 : decode cX6_set 19 = .ok (.aload_n 0, 1) := by decide +kernel
theorem dX6_set_20 : decode cX6_set 20 = .ok (.getfield 7, 3) := by decide +kernel
theorem dX6_set_23 : decode cX6_set 23 = .ok (.iconst 2, 1) := by decide +kernel
theorem dX6_set_24 : decode cX6_set 24 = .ok (.iload_n 1, 1) := by decide +kernel
theorem dX6_set_25 : decode cX6_set 25 = .ok (.iadd, 1) := by decide +kernel
theorem dX6_set_26 : decode cX6_set 26 = .ok (.iaload, 1) := by decide +kernel
theorem dX6_set_27 : decode cX6_set 27 = .ok (.istore_n 3, 1) := by decide +kernel
theorem dX6_set_28 : decode cX6_set 28 = .ok (.aload_n 0, 1) := by decide +kernel
theorem dX6_set_29 : decode cX6_set 29 = .ok (.getfield 7, 3) := by decide +kernel
theorem dX6_set_32 : decode cX6_set 32 = .ok (.iconst 2, 1) := by decide +kernel
theorem dX6_set_33 : decode cX6_set 33 = .ok (.iload_n 1, 1) := by decide +kernel
theorem dX6_set_34 : decode cX6_set 34 = .ok (.iadd, 1) := by decide +kernel
theorem dX6_set_35 : decode cX6_set 35 = .ok (.iload_n 2, 1) := by decide +kernel
theorem dX6_set_36 : decode cX6_set 36 = .ok (.iastore, 1) := by decide +kernel
theorem dX6_set_37 : decode cX6_set 37 = .ok (.iload_n 3, 1) := by decide +kernel
theorem dX6_set_38 : decode cX6_set 38 = .ok (.ireturn, 1) := by decide +kernel
set_option maxRecDepth 20000 in
theorem ggX6_binds_X6_far : GoodIn wsX6_binds wsX6_far := goodIn_r _ [6, 1, 7, 8, 5, 9, 18, 19, 20, 21, 22, 23, 24, 25, 26, 27, 28, 29, 30, 31, 32, 33, 34, 35, 36, 37] (by decide +kernel) (by decide +kernel)
set_option maxRecDepth 20000 in
theorem gX6_binds_X6_far : GoodIn wsX6_binds (wsV RX6 64 RX6 yX6_far wsX6_far) := goodIn_app (goodIn_of _ (by decide +kernel)) ggX6_binds_X6_far
set_option maxRecDepth 20000 in
theorem ggX6_binds_X6_source : GoodIn wsX6_binds wsX6_source := goodIn_r _ [13, 1, 7, 8, 5, 9, 18, 19, 20, 21, 22, 23, 24, 25, 26, 27, 28, 29, 30, 31, 32, 33, 34, 35, 36, 37] (by decide +kernel) (by decide +kernel)
set_option maxRecDepth 20000 in
theorem gX6_binds_X6_source : GoodIn wsX6_binds (wsV RX6 71 RX6 yX6_source wsX6_source) := goodIn_app (goodIn_of _ (by decide +kernel)) ggX6_binds_X6_source
set_option maxRecDepth 20000 in
theorem ggX6_binds_X6_target : GoodIn wsX6_binds wsX6_target := goodIn_r _ [17, 1, 7, 8, 5, 9, 18, 19, 20, 21, 22, 23, 24, 25, 26, 27, 28, 29, 30, 31, 32, 33, 34, 35, 36, 37] (by decide +kernel) (by decide +kernel)
set_option maxRecDepth 20000 in
theorem gX6_binds_X6_target : GoodIn wsX6_binds (wsV RX6 74 RX6 yX6_target wsX6_target) := goodIn_app (goodIn_of _ (by decide +kernel)) ggX6_binds_X6_target
theorem dX6_binds_0 : decode cX6_binds 0 = .ok (.iconst 0, 1) := by decide +kernel
theorem dX6_binds_1 : decode cX6_binds 1 = .ok (.istore_n 3, 1) := by decide +kernel
theorem dX6_binds_2 : decode cX6_binds 2 = .ok (.iload_n 3, 1) := by decide +kernel
theorem dX6_binds_3 : decode cX6_binds 3 = .ok (.aload_n 0, 1) := by decide +kernel
theorem dX6_binds_4 : decode cX6_binds 4 = .ok (.getfield 7, 3) := by decide +kernel
theorem dX6_binds_7 : decode cX6_binds 7 = .ok (.iconst 1, 1) := by decide +kernel
theorem dX6_binds_8 : decode cX6_binds 8 = .ok (.iaload, 1) := by decide +kernel
theorem dX6_binds_9 : decode cX6_binds 9 = .ok (.if_icmp .ge 37, 3) := by decide +kernel
theorem dX6_binds_12 : decode cX6_binds 12 = .ok (.aload_n 0, 1) := by decide +kernel
theorem dX6_binds_13 : decode cX6_binds 13 = .ok (.iload_n 3, 1) := by decide +kernel
theorem dX6_binds_14 : decode cX6_binds 14 = .ok (.invokevirtual 64, 3) := by decide +kernel
theorem dX6_binds_17 : decode cX6_binds 17 = .ok (.ifCond .ne 23, 3) := by decide +kernel
theorem dX6_binds_20 : decode cX6_binds 20 = .ok (.aload_n 0, 1) := by decide +kernel
theorem dX6_binds_21 : decode cX6_binds 21 = .ok (.iload_n 3, 1) := by decide +kernel
theorem dX6_binds_22 : decode cX6_binds 22 = .ok (.invokevirtual 71, 3) := by decide +kernel
theorem dX6_binds_25 : decode cX6_binds 25 = .ok (.iload_n 1, 1) := by decide +kernel
theorem dX6_binds_26 : decode cX6_binds 26 = .ok (.if_icmp .ne 14, 3) := by decide +kernel
theorem dX6_binds_29 : decode cX6_binds 29 = .ok (.aload_n 0, 1) := by decide +kernel
theorem dX6_binds_30 : decode cX6_binds 30 = .ok (.iload_n 3, 1) := by decide +kernel
theorem dX6_binds_31 : decode cX6_binds 31 = .ok (.invokevirtual 74, 3) := by decide +kernel
theorem dX6_binds_34 : decode cX6_binds 34 = .ok (.iload_n 2, 1) := by decide +kernel
theorem dX6_binds_35 : decode cX6_binds 35 = .ok (.if_icmp .ne 5, 3) := by decide +kernel
theorem dX6_binds_38 : decode cX6_binds 38 = .ok (.iconst 1, 1) := by decide +kernel
theorem dX6_binds_39 : decode cX6_binds 39 = .ok (.ireturn, 1) := by decide +kernel
theorem dX6_binds_40 : decode cX6_binds 40 = .ok (.iinc 3 1, 3) := by decide +kernel
theorem dX6_binds_43 : decode cX6_binds 43 = .ok (.goto (-41), 3) := by decide +kernel
theorem dX6_binds_46 : decode cX6_binds 46 = .ok (.iconst 0, 1) := by decide +kernel
theorem dX6_binds_47 : decode cX6_binds 47 = .ok (.ireturn, 1) := by decide +kernel
set_option maxRecDepth 20000 in
theorem ggX6_exchange_X6_in : GoodIn wsX6_exchange wsX6_in := goodIn_r _ [6] (by decide +kernel) (by decide +kernel)
set_option maxRecDepth 20000 in
theorem gX6_exchange_X6_in : GoodIn wsX6_exchange (va_wsS RX6 56 yX6_in wsX6_in) := goodIn_app (goodIn_of _ (by decide +kernel)) ggX6_exchange_X6_in
set_option maxRecDepth 20000 in
theorem ggX6_exchange_X6_fails : GoodIn wsX6_exchange wsX6_fails := goodIn_r _ [10, 1, 30, 31, 32, 33, 34, 35, 36, 37, 38, 39, 40, 41, 42, 43, 44, 45, 46, 47, 48, 49] (by decide +kernel) (by decide +kernel)
set_option maxRecDepth 20000 in
theorem gX6_exchange_X6_fails : GoodIn wsX6_exchange (wsV RX6 83 RX6 yX6_fails wsX6_fails) := goodIn_app (goodIn_of _ (by decide +kernel)) ggX6_exchange_X6_fails
set_option maxRecDepth 20000 in
theorem ggX6_exchange_X6_binds : GoodIn wsX6_exchange wsX6_binds := goodIn_r _ [14, 2, 15, 16, 17, 5, 18, 19, 20, 21, 22, 23, 24, 25, 26, 27, 28, 29, 30, 31, 32, 33, 34, 35, 36, 37, 38, 39, 40, 41, 42, 43, 44, 45, 46, 47, 48, 49] (by decide +kernel) (by decide +kernel)
set_option maxRecDepth 20000 in
theorem gX6_exchange_X6_binds : GoodIn wsX6_exchange (wsV RX6 131 RX6 yX6_binds wsX6_binds) := goodIn_app (goodIn_of _ (by decide +kernel)) ggX6_exchange_X6_binds
theorem dX6_exchange_0 : decode cX6_exchange 0 = .ok (.aload_n 0, 1) := by decide +kernel
theorem dX6_exchange_1 : decode cX6_exchange 1 = .ok (.iconst 0, 1) := by decide +kernel
theorem dX6_exchange_2 : decode cX6_exchange 2 = .ok (.putfield 53, 3) := by decide +kernel
theorem dX6_exchange_5 : decode cX6_exchange 5 = .ok (.iload_n 1, 1) := by decide +kernel
theorem dX6_exchange_6 : decode cX6_exchange 6 = .ok (.iconst 0, 1) := by decide +kernel
theorem dX6_exchange_7 : decode cX6_exchange 7 = .ok (.aload_n 0, 1) := by decide +kernel
theorem dX6_exchange_8 : decode cX6_exchange 8 = .ok (.getfield 7, 3) := by decide +kernel
theorem dX6_exchange_11 : decode cX6_exchange 11 = .ok (.iconst 0, 1) := by decide +kernel
theorem dX6_exchange_12 : decode cX6_exchange 12 = .ok (.iaload, 1) := by decide +kernel
theorem dX6_exchange_13 : decode cX6_exchange 13 = .ok (.iconst 2, 1) := by decide +kernel
theorem dX6_exchange_14 : decode cX6_exchange 14 = .ok (.isub, 1) := by decide +kernel
theorem dX6_exchange_15 : decode cX6_exchange 15 = .ok (.invokestatic 56, 3) := by decide +kernel
theorem dX6_exchange_18 : decode cX6_exchange 18 = .ok (.ifCond .ne 9, 3) := by decide +kernel
theorem dX6_exchange_21 : decode cX6_exchange 21 = .ok (.aload_n 0, 1) := by decide +kernel
theorem dX6_exchange_22 : decode cX6_exchange 22 = .ok (.iconst 1, 1) := by decide +kernel
theorem dX6_exchange_23 : decode cX6_exchange 23 = .ok (.invokevirtual 83, 3) := by decide +kernel
theorem dX6_exchange_26 : decode cX6_exchange 26 = .ok (.ireturn, 1) := by decide +kernel
theorem dX6_exchange_27 : decode cX6_exchange 27 = .ok (.aload_n 0, 1) := by decide +kernel
theorem dX6_exchange_28 : decode cX6_exchange 28 = .ok (.getfield 7, 3) := by decide +kernel
theorem dX6_exchange_31 : decode cX6_exchange 31 = .ok (.bipush 20, 2) := by decide +kernel
theorem dX6_exchange_33 : decode cX6_exchange 33 = .ok (.iload_n 1, 1) := by decide +kernel
theorem dX6_exchange_34 : decode cX6_exchange 34 = .ok (.iadd, 1) := by decide +kernel
theorem dX6_exchange_35 : decode cX6_exchange 35 = .ok (.iaload, 1) := by decide +kernel
theorem dX6_exchange_36 : decode cX6_exchange 36 = .ok (.istore_n 2, 1) := by decide +kernel
theorem dX6_exchange_37 : decode cX6_exchange 37 = .ok (.aload_n 0, 1) := by decide +kernel
theorem dX6_exchange_38 : decode cX6_exchange 38 = .ok (.getfield 7, 3) := by decide +kernel
theorem dX6_exchange_41 : decode cX6_exchange 41 = .ok (.bipush 20, 2) := by decide +kernel
theorem dX6_exchange_43 : decode cX6_exchange 43 = .ok (.iload_n 1, 1) := by decide +kernel
theorem dX6_exchange_44 : decode cX6_exchange 44 = .ok (.iadd, 1) := by decide +kernel
theorem dX6_exchange_45 : decode cX6_exchange 45 = .ok (.iconst 1, 1) := by decide +kernel
theorem dX6_exchange_46 : decode cX6_exchange 46 = .ok (.iadd, 1) := by decide +kernel
theorem dX6_exchange_47 : decode cX6_exchange 47 = .ok (.iaload, 1) := by decide +kernel
theorem dX6_exchange_48 : decode cX6_exchange 48 = .ok (.istore_n 3, 1) := by decide +kernel
theorem dX6_exchange_49 : decode cX6_exchange 49 = .ok (.aload_n 0, 1) := by decide +kernel
theorem dX6_exchange_50 : decode cX6_exchange 50 = .ok (.iload_n 2, 1) := by decide +kernel
theorem dX6_exchange_51 : decode cX6_exchange 51 = .ok (.iload_n 3, 1) := by decide +kernel
theorem dX6_exchange_52 : decode cX6_exchange 52 = .ok (.invokevirtual 131, 3) := by decide +kernel
theorem dX6_exchange_55 : decode cX6_exchange 55 = .ok (.ifCond .eq 9, 3) := by decide +kernel
theorem dX6_exchange_58 : decode cX6_exchange 58 = .ok (.aload_n 0, 1) := by decide +kernel
theorem dX6_exchange_59 : decode cX6_exchange 59 = .ok (.iconst 2, 1) := by decide +kernel
theorem dX6_exchange_60 : decode cX6_exchange 60 = .ok (.invokevirtual 83, 3) := by decide +kernel
theorem dX6_exchange_63 : decode cX6_exchange 63 = .ok (.ireturn, 1) := by decide +kernel
theorem dX6_exchange_64 : decode cX6_exchange 64 = .ok (.aload_n 0, 1) := by decide +kernel
theorem dX6_exchange_65 : decode cX6_exchange 65 = .ok (.getfield 7, 3) := by decide +kernel
theorem dX6_exchange_68 : decode cX6_exchange 68 = .ok (.bipush 20, 2) := by decide +kernel
theorem dX6_exchange_70 : decode cX6_exchange 70 = .ok (.iload_n 1, 1) := by decide +kernel
theorem dX6_exchange_71 : decode cX6_exchange 71 = .ok (.iadd, 1) := by decide +kernel
theorem dX6_exchange_72 : decode cX6_exchange 72 = .ok (.iload_n 3, 1) := by decide +kernel
theorem dX6_exchange_73 : decode cX6_exchange 73 = .ok (.iastore, 1) := by decide +kernel
theorem dX6_exchange_74 : decode cX6_exchange 74 = .ok (.aload_n 0, 1) := by decide +kernel
theorem dX6_exchange_75 : decode cX6_exchange 75 = .ok (.getfield 7, 3) := by decide +kernel
theorem dX6_exchange_78 : decode cX6_exchange 78 = .ok (.bipush 20, 2) := by decide +kernel
theorem dX6_exchange_80 : decode cX6_exchange 80 = .ok (.iload_n 1, 1) := by decide +kernel
theorem dX6_exchange_81 : decode cX6_exchange 81 = .ok (.iadd, 1) := by decide +kernel
theorem dX6_exchange_82 : decode cX6_exchange 82 = .ok (.iconst 1, 1) := by decide +kernel
theorem dX6_exchange_83 : decode cX6_exchange 83 = .ok (.iadd, 1) := by decide +kernel
theorem dX6_exchange_84 : decode cX6_exchange 84 = .ok (.iload_n 2, 1) := by decide +kernel
theorem dX6_exchange_85 : decode cX6_exchange 85 = .ok (.iastore, 1) := by decide +kernel
theorem dX6_exchange_86 : decode cX6_exchange 86 = .ok (.iload_n 3, 1) := by decide +kernel
theorem dX6_exchange_87 : decode cX6_exchange 87 = .ok (.ireturn, 1) := by decide +kernel
set_option maxRecDepth 20000 in
theorem ggX6_remove_X6_isDependence : GoodIn wsX6_remove wsX6_isDependence := goodIn_r _ [7, 2, 8, 9, 6, 10, 18, 19, 20, 21, 22, 23, 24, 25, 26, 27, 28, 29, 30, 31, 32, 33, 34, 35, 36, 37] (by decide +kernel) (by decide +kernel)
set_option maxRecDepth 20000 in
theorem gX6_remove_X6_isDependence : GoodIn wsX6_remove (wsV RX6 134 RX6 yX6_isDependence wsX6_isDependence) := goodIn_app (goodIn_of _ (by decide +kernel)) ggX6_remove_X6_isDependence
set_option maxRecDepth 20000 in
theorem ggX6_remove_X6_fails : GoodIn wsX6_remove wsX6_fails := goodIn_r _ [14, 1, 18, 19, 20, 21, 22, 23, 24, 25, 26, 27, 28, 29, 30, 31, 32, 33, 34, 35, 36, 37] (by decide +kernel) (by decide +kernel)
set_option maxRecDepth 20000 in
theorem gX6_remove_X6_fails : GoodIn wsX6_remove (wsV RX6 83 RX6 yX6_fails wsX6_fails) := goodIn_app (goodIn_of _ (by decide +kernel)) ggX6_remove_X6_fails
set_option maxRecDepth 20000 in
theorem ggX6_remove_X6_at : GoodIn wsX6_remove wsX6_at := goodIn_r _ [17] (by decide +kernel) (by decide +kernel)
set_option maxRecDepth 20000 in
theorem gX6_remove_X6_at : GoodIn wsX6_remove (va_wsS RX6 60 yX6_at wsX6_at) := goodIn_app (goodIn_of _ (by decide +kernel)) ggX6_remove_X6_at
theorem dX6_remove_0 : decode cX6_remove 0 = .ok (.aload_n 0, 1) := by decide +kernel
theorem dX6_remove_1 : decode cX6_remove 1 = .ok (.iconst 0, 1) := by decide +kernel
theorem dX6_remove_2 : decode cX6_remove 2 = .ok (.putfield 53, 3) := by decide +kernel
theorem dX6_remove_5 : decode cX6_remove 5 = .ok (.aload_n 0, 1) := by decide +kernel
theorem dX6_remove_6 : decode cX6_remove 6 = .ok (.iload_n 1, 1) := by decide +kernel
theorem dX6_remove_7 : decode cX6_remove 7 = .ok (.invokevirtual 134, 3) := by decide +kernel
theorem dX6_remove_10 : decode cX6_remove 10 = .ok (.ifCond .ne 9, 3) := by decide +kernel
theorem dX6_remove_13 : decode cX6_remove 13 = .ok (.aload_n 0, 1) := by decide +kernel
theorem dX6_remove_14 : decode cX6_remove 14 = .ok (.iconst 1, 1) := by decide +kernel
theorem dX6_remove_15 : decode cX6_remove 15 = .ok (.invokevirtual 83, 3) := by decide +kernel
theorem dX6_remove_18 : decode cX6_remove 18 = .ok (.ireturn, 1) := by decide +kernel
theorem dX6_remove_19 : decode cX6_remove 19 = .ok (.aload_n 0, 1) := by decide +kernel
theorem dX6_remove_20 : decode cX6_remove 20 = .ok (.getfield 7, 3) := by decide +kernel
theorem dX6_remove_23 : decode cX6_remove 23 = .ok (.iconst 1, 1) := by decide +kernel
theorem dX6_remove_24 : decode cX6_remove 24 = .ok (.dup2, 1) := by decide +kernel
theorem dX6_remove_25 : decode cX6_remove 25 = .ok (.iaload, 1) := by decide +kernel
theorem dX6_remove_26 : decode cX6_remove 26 = .ok (.iconst 1, 1) := by decide +kernel
theorem dX6_remove_27 : decode cX6_remove 27 = .ok (.isub, 1) := by decide +kernel
theorem dX6_remove_28 : decode cX6_remove 28 = .ok (.iastore, 1) := by decide +kernel
theorem dX6_remove_29 : decode cX6_remove 29 = .ok (.iload_n 1, 1) := by decide +kernel
theorem dX6_remove_30 : decode cX6_remove 30 = .ok (.iconst 0, 1) := by decide +kernel
theorem dX6_remove_31 : decode cX6_remove 31 = .ok (.invokestatic 60, 3) := by decide +kernel
theorem dX6_remove_34 : decode cX6_remove 34 = .ok (.istore_n 2, 1) := by decide +kernel
theorem dX6_remove_35 : decode cX6_remove 35 = .ok (.iload_n 2, 1) := by decide +kernel
theorem dX6_remove_36 : decode cX6_remove 36 = .ok (.aload_n 0, 1) := by decide +kernel
theorem dX6_remove_37 : decode cX6_remove 37 = .ok (.getfield 7, 3) := by decide +kernel
theorem dX6_remove_40 : decode cX6_remove 40 = .ok (.iconst 1, 1) := by decide +kernel
theorem dX6_remove_41 : decode cX6_remove 41 = .ok (.iaload, 1) := by decide +kernel
theorem dX6_remove_42 : decode cX6_remove 42 = .ok (.iconst 0, 1) := by decide +kernel
theorem dX6_remove_43 : decode cX6_remove 43 = .ok (.invokestatic 60, 3) := by decide +kernel
theorem dX6_remove_46 : decode cX6_remove 46 = .ok (.if_icmp .ge 23, 3) := by decide +kernel
theorem dX6_remove_49 : decode cX6_remove 49 = .ok (.aload_n 0, 1) := by decide +kernel
theorem dX6_remove_50 : decode cX6_remove 50 = .ok (.getfield 7, 3) := by decide +kernel
theorem dX6_remove_53 : decode cX6_remove 53 = .ok (.iload_n 2, 1) := by decide +kernel
theorem dX6_remove_54 : decode cX6_remove 54 = .ok (.aload_n 0, 1) := by decide +kernel
theorem dX6_remove_55 : decode cX6_remove 55 = .ok (.getfield 7, 3) := by decide +kernel
theorem dX6_remove_58 : decode cX6_remove 58 = .ok (.iload_n 2, 1) := by decide +kernel
theorem dX6_remove_59 : decode cX6_remove 59 = .ok (.iconst 5, 1) := by decide +kernel
theorem dX6_remove_60 : decode cX6_remove 60 = .ok (.iadd, 1) := by decide +kernel
theorem dX6_remove_61 : decode cX6_remove 61 = .ok (.iaload, 1) := by decide +kernel
theorem dX6_remove_62 : decode cX6_remove 62 = .ok (.iastore, 1) := by decide +kernel
theorem dX6_remove_63 : decode cX6_remove 63 = .ok (.iinc 2 1, 3) := by decide +kernel
theorem dX6_remove_66 : decode cX6_remove 66 = .ok (.goto (-31), 3) := by decide +kernel
theorem dX6_remove_69 : decode cX6_remove 69 = .ok (.aload_n 0, 1) := by decide +kernel
theorem dX6_remove_70 : decode cX6_remove 70 = .ok (.getfield 7, 3) := by decide +kernel
theorem dX6_remove_73 : decode cX6_remove 73 = .ok (.iconst 1, 1) := by decide +kernel
theorem dX6_remove_74 : decode cX6_remove 74 = .ok (.iaload, 1) := by decide +kernel
theorem dX6_remove_75 : decode cX6_remove 75 = .ok (.ireturn, 1) := by decide +kernel
set_option maxRecDepth 20000 in
theorem ggX6_statement_X6_isStatement : GoodIn wsX6_statement wsX6_isStatement := goodIn_r _ [6, 7, 8, 9, 5, 10, 27, 28, 29, 30, 31, 32, 33, 34, 35, 36, 37, 38, 39, 40, 41, 42, 43, 44, 45, 46] (by decide +kernel) (by decide +kernel)
set_option maxRecDepth 20000 in
theorem gX6_statement_X6_isStatement : GoodIn wsX6_statement (wsV RX6 125 RX6 yX6_isStatement wsX6_isStatement) := goodIn_app (goodIn_of _ (by decide +kernel)) ggX6_statement_X6_isStatement
set_option maxRecDepth 20000 in
theorem ggX6_statement_X6_fails : GoodIn wsX6_statement wsX6_fails := goodIn_r _ [14, 1, 27, 28, 29, 30, 31, 32, 33, 34, 35, 36, 37, 38, 39, 40, 41, 42, 43, 44, 45, 46] (by decide +kernel) (by decide +kernel)
set_option maxRecDepth 20000 in
theorem gX6_statement_X6_fails : GoodIn wsX6_statement (wsV RX6 83 RX6 yX6_fails wsX6_fails) := goodIn_app (goodIn_of _ (by decide +kernel)) ggX6_statement_X6_fails
set_option maxRecDepth 20000 in
theorem ggX6_statement_X6_cost : GoodIn wsX6_statement wsX6_cost := goodIn_r _ [18, 7, 27, 28, 29, 30, 31, 32, 33, 34, 35, 36, 37, 38, 39, 40, 41, 42, 43, 44, 45, 46] (by decide +kernel) (by decide +kernel)
set_option maxRecDepth 20000 in
theorem gX6_statement_X6_cost : GoodIn wsX6_statement (wsV RX6 68 RX6 yX6_cost wsX6_cost) := goodIn_app (goodIn_of _ (by decide +kernel)) ggX6_statement_X6_cost
set_option maxRecDepth 20000 in
theorem ggX6_statement_X6_placeOf : GoodIn wsX6_statement wsX6_placeOf := goodIn_r _ [22, 7, 27, 28, 29, 30, 31, 32, 33, 34, 35, 36, 37, 38, 39, 40, 41, 42, 43, 44, 45, 46] (by decide +kernel) (by decide +kernel)
set_option maxRecDepth 20000 in
theorem gX6_statement_X6_placeOf : GoodIn wsX6_statement (wsV RX6 99 RX6 yX6_placeOf wsX6_placeOf) := goodIn_app (goodIn_of _ (by decide +kernel)) ggX6_statement_X6_placeOf
set_option maxRecDepth 20000 in
theorem ggX6_statement_X6_offset : GoodIn wsX6_statement wsX6_offset := goodIn_r _ [26, 7, 15, 16, 17, 5, 18, 27, 28, 29, 30, 31, 32, 33, 34, 35, 36, 37, 38, 39, 40, 41, 42, 43, 44, 45, 46] (by decide +kernel) (by decide +kernel)
set_option maxRecDepth 20000 in
theorem gX6_statement_X6_offset : GoodIn wsX6_statement (wsV RX6 137 RX6 yX6_offset wsX6_offset) := goodIn_app (goodIn_of _ (by decide +kernel)) ggX6_statement_X6_offset
theorem dX6_statement_0 : decode cX6_statement 0 = .ok (.aload_n 0, 1) := by decide +kernel
theorem dX6_statement_1 : decode cX6_statement 1 = .ok (.iconst 0, 1) := by decide +kernel
theorem dX6_statement_2 : decode cX6_statement 2 = .ok (.putfield 53, 3) := by decide +kernel
theorem dX6_statement_5 : decode cX6_statement 5 = .ok (.aload_n 0, 1) := by decide +kernel
theorem dX6_statement_6 : decode cX6_statement 6 = .ok (.iload_n 1, 1) := by decide +kernel
theorem dX6_statement_7 : decode cX6_statement 7 = .ok (.invokevirtual 125, 3) := by decide +kernel
theorem dX6_statement_10 : decode cX6_statement 10 = .ok (.ifCond .ne 9, 3) := by decide +kernel
theorem dX6_statement_13 : decode cX6_statement 13 = .ok (.aload_n 0, 1) := by decide +kernel
theorem dX6_statement_14 : decode cX6_statement 14 = .ok (.iconst 1, 1) := by decide +kernel
theorem dX6_statement_15 : decode cX6_statement 15 = .ok (.invokevirtual 83, 3) := by decide +kernel
theorem dX6_statement_18 : decode cX6_statement 18 = .ok (.ireturn, 1) := by decide +kernel
theorem dX6_statement_19 : decode cX6_statement 19 = .ok (.iload_n 2, 1) := by decide +kernel
theorem dX6_statement_20 : decode cX6_statement 20 = .ok (.tableswitch 46 0 2 #[28, 34, 40], 28) := by decide +kernel
theorem dX6_statement_48 : decode cX6_statement 48 = .ok (.aload_n 0, 1) := by decide +kernel
theorem dX6_statement_49 : decode cX6_statement 49 = .ok (.iload_n 1, 1) := by decide +kernel
theorem dX6_statement_50 : decode cX6_statement 50 = .ok (.invokevirtual 68, 3) := by decide +kernel
theorem dX6_statement_53 : decode cX6_statement 53 = .ok (.ireturn, 1) := by decide +kernel
theorem dX6_statement_54 : decode cX6_statement 54 = .ok (.aload_n 0, 1) := by decide +kernel
theorem dX6_statement_55 : decode cX6_statement 55 = .ok (.iload_n 1, 1) := by decide +kernel
theorem dX6_statement_56 : decode cX6_statement 56 = .ok (.invokevirtual 99, 3) := by decide +kernel
theorem dX6_statement_59 : decode cX6_statement 59 = .ok (.ireturn, 1) := by decide +kernel
theorem dX6_statement_60 : decode cX6_statement 60 = .ok (.aload_n 0, 1) := by decide +kernel
theorem dX6_statement_61 : decode cX6_statement 61 = .ok (.iload_n 1, 1) := by decide +kernel
theorem dX6_statement_62 : decode cX6_statement 62 = .ok (.invokevirtual 137, 3) := by decide +kernel
theorem dX6_statement_65 : decode cX6_statement 65 = .ok (.ireturn, 1) := by decide +kernel
theorem dX6_statement_66 : decode cX6_statement 66 = .ok (.aload_n 0, 1) := by decide +kernel
theorem dX6_statement_67 : decode cX6_statement 67 = .ok (.iconst 2, 1) := by decide +kernel
theorem dX6_statement_68 : decode cX6_statement 68 = .ok (.invokevirtual 83, 3) := by decide +kernel
theorem dX6_statement_71 : decode cX6_statement 71 = .ok (.ireturn, 1) := by decide +kernel
set_option maxRecDepth 20000 in
theorem ggX6_dependence_X6_isDependence : GoodIn wsX6_dependence wsX6_isDependence := goodIn_r _ [7, 2, 8, 9, 6, 10, 38, 39, 40, 41, 42, 43, 44, 45, 46, 47, 48, 49, 50, 51, 52, 53, 54, 55, 56, 57] (by decide +kernel) (by decide +kernel)
set_option maxRecDepth 20000 in
theorem gX6_dependence_X6_isDependence : GoodIn wsX6_dependence (wsV RX6 134 RX6 yX6_isDependence wsX6_isDependence) := goodIn_app (goodIn_of _ (by decide +kernel)) ggX6_dependence_X6_isDependence
set_option maxRecDepth 20000 in
theorem ggX6_dependence_X6_fails : GoodIn wsX6_dependence wsX6_fails := goodIn_r _ [14, 1, 38, 39, 40, 41, 42, 43, 44, 45, 46, 47, 48, 49, 50, 51, 52, 53, 54, 55, 56, 57] (by decide +kernel) (by decide +kernel)
set_option maxRecDepth 20000 in
theorem gX6_dependence_X6_fails : GoodIn wsX6_dependence (wsV RX6 83 RX6 yX6_fails wsX6_fails) := goodIn_app (goodIn_of _ (by decide +kernel)) ggX6_dependence_X6_fails
set_option maxRecDepth 20000 in
theorem ggX6_dependence_X6_in : GoodIn wsX6_dependence wsX6_in := goodIn_r _ [10] (by decide +kernel) (by decide +kernel)
set_option maxRecDepth 20000 in
theorem gX6_dependence_X6_in : GoodIn wsX6_dependence (va_wsS RX6 56 yX6_in wsX6_in) := goodIn_app (goodIn_of _ (by decide +kernel)) ggX6_dependence_X6_in
set_option maxRecDepth 20000 in
theorem ggX6_dependence_X6_at : GoodIn wsX6_dependence wsX6_at := goodIn_r _ [17] (by decide +kernel) (by decide +kernel)
set_option maxRecDepth 20000 in
theorem gX6_dependence_X6_at : GoodIn wsX6_dependence (va_wsS RX6 60 yX6_at wsX6_at) := goodIn_app (goodIn_of _ (by decide +kernel)) ggX6_dependence_X6_at
set_option maxRecDepth 20000 in
theorem ggX6_dependence_X6_lag : GoodIn wsX6_dependence wsX6_lag := goodIn_r _ [21, 2, 22, 23, 24, 6, 25, 26, 27, 28, 29, 15, 16, 17, 30, 31, 32, 33, 34, 35, 36, 37, 38, 39, 40, 41, 42, 43, 44, 45, 46, 47, 48, 49, 50, 51, 52, 53, 54, 55, 56, 57] (by decide +kernel) (by decide +kernel)
set_option maxRecDepth 20000 in
theorem gX6_dependence_X6_lag : GoodIn wsX6_dependence (wsV RX6 140 RX6 yX6_lag wsX6_lag) := goodIn_app (goodIn_of _ (by decide +kernel)) ggX6_dependence_X6_lag
theorem dX6_dependence_0 : decode cX6_dependence 0 = .ok (.aload_n 0, 1) := by decide +kernel
theorem dX6_dependence_1 : decode cX6_dependence 1 = .ok (.iconst 0, 1) := by decide +kernel
theorem dX6_dependence_2 : decode cX6_dependence 2 = .ok (.putfield 53, 3) := by decide +kernel
theorem dX6_dependence_5 : decode cX6_dependence 5 = .ok (.aload_n 0, 1) := by decide +kernel
theorem dX6_dependence_6 : decode cX6_dependence 6 = .ok (.iload_n 1, 1) := by decide +kernel
theorem dX6_dependence_7 : decode cX6_dependence 7 = .ok (.invokevirtual 134, 3) := by decide +kernel
theorem dX6_dependence_10 : decode cX6_dependence 10 = .ok (.ifCond .ne 9, 3) := by decide +kernel
theorem dX6_dependence_13 : decode cX6_dependence 13 = .ok (.aload_n 0, 1) := by decide +kernel
theorem dX6_dependence_14 : decode cX6_dependence 14 = .ok (.iconst 1, 1) := by decide +kernel
theorem dX6_dependence_15 : decode cX6_dependence 15 = .ok (.invokevirtual 83, 3) := by decide +kernel
theorem dX6_dependence_18 : decode cX6_dependence 18 = .ok (.ireturn, 1) := by decide +kernel
theorem dX6_dependence_19 : decode cX6_dependence 19 = .ok (.iload_n 2, 1) := by decide +kernel
theorem dX6_dependence_20 : decode cX6_dependence 20 = .ok (.iconst 0, 1) := by decide +kernel
theorem dX6_dependence_21 : decode cX6_dependence 21 = .ok (.iconst 5, 1) := by decide +kernel
theorem dX6_dependence_22 : decode cX6_dependence 22 = .ok (.invokestatic 56, 3) := by decide +kernel
theorem dX6_dependence_25 : decode cX6_dependence 25 = .ok (.ifCond .ne 9, 3) := by decide +kernel
theorem dX6_dependence_28 : decode cX6_dependence 28 = .ok (.aload_n 0, 1) := by decide +kernel
theorem dX6_dependence_29 : decode cX6_dependence 29 = .ok (.iconst 2, 1) := by decide +kernel
theorem dX6_dependence_30 : decode cX6_dependence 30 = .ok (.invokevirtual 83, 3) := by decide +kernel
theorem dX6_dependence_33 : decode cX6_dependence 33 = .ok (.ireturn, 1) := by decide +kernel
theorem dX6_dependence_34 : decode cX6_dependence 34 = .ok (.iload_n 2, 1) := by decide +kernel
theorem dX6_dependence_35 : decode cX6_dependence 35 = .ok (.iconst 4, 1) := by decide +kernel
theorem dX6_dependence_36 : decode cX6_dependence 36 = .ok (.if_icmp .ge 16, 3) := by decide +kernel
theorem dX6_dependence_39 : decode cX6_dependence 39 = .ok (.aload_n 0, 1) := by decide +kernel
theorem dX6_dependence_40 : decode cX6_dependence 40 = .ok (.getfield 7, 3) := by decide +kernel
theorem dX6_dependence_43 : decode cX6_dependence 43 = .ok (.iload_n 1, 1) := by decide +kernel
theorem dX6_dependence_44 : decode cX6_dependence 44 = .ok (.iload_n 2, 1) := by decide +kernel
theorem dX6_dependence_45 : decode cX6_dependence 45 = .ok (.invokestatic 60, 3) := by decide +kernel
theorem dX6_dependence_48 : decode cX6_dependence 48 = .ok (.iaload, 1) := by decide +kernel
theorem dX6_dependence_49 : decode cX6_dependence 49 = .ok (.goto 26, 3) := by decide +kernel
theorem dX6_dependence_52 : decode cX6_dependence 52 = .ok (.iload_n 2, 1) := by decide +kernel
theorem dX6_dependence_53 : decode cX6_dependence 53 = .ok (.iconst 4, 1) := by decide +kernel
theorem dX6_dependence_54 : decode cX6_dependence 54 = .ok (.if_icmp .ne 11, 3) := by decide +kernel
theorem dX6_dependence_57 : decode cX6_dependence 57 = .ok (.aload_n 0, 1) := by decide +kernel
theorem dX6_dependence_58 : decode cX6_dependence 58 = .ok (.iload_n 1, 1) := by decide +kernel
theorem dX6_dependence_59 : decode cX6_dependence 59 = .ok (.invokevirtual 140, 3) := by decide +kernel
theorem dX6_dependence_62 : decode cX6_dependence 62 = .ok (.goto 13, 3) := by decide +kernel
theorem dX6_dependence_65 : decode cX6_dependence 65 = .ok (.aload_n 0, 1) := by decide +kernel
theorem dX6_dependence_66 : decode cX6_dependence 66 = .ok (.getfield 7, 3) := by decide +kernel
theorem dX6_dependence_69 : decode cX6_dependence 69 = .ok (.iload_n 1, 1) := by decide +kernel
theorem dX6_dependence_70 : decode cX6_dependence 70 = .ok (.iconst 4, 1) := by decide +kernel
theorem dX6_dependence_71 : decode cX6_dependence 71 = .ok (.invokestatic 60, 3) := by decide +kernel
theorem dX6_dependence_74 : decode cX6_dependence 74 = .ok (.iaload, 1) := by decide +kernel
theorem dX6_dependence_75 : decode cX6_dependence 75 = .ok (.ireturn, 1) := by decide +kernel
theorem dX6_reaches_0 : decode cX6_reaches 0 = .ok (.aload_n 0, 1) := by decide +kernel
theorem dX6_reaches_1 : decode cX6_reaches 1 = .ok (.getfield 23, 3) := by decide +kernel
theorem dX6_reaches_4 : decode cX6_reaches 4 = .ok (.iload_n 1, 1) := by decide +kernel
theorem dX6_reaches_5 : decode cX6_reaches 5 = .ok (.iload_n 2, 1) := by decide +kernel
theorem dX6_reaches_6 : decode cX6_reaches 6 = .ok (.aload_n 0, 1) := by decide +kernel
theorem dX6_reaches_7 : decode cX6_reaches 7 = .ok (.getfield 23, 3) := by decide +kernel
theorem dX6_reaches_10 : decode cX6_reaches 10 = .ok (.iload_n 1, 1) := by decide +kernel
theorem dX6_reaches_11 : decode cX6_reaches 11 = .ok (.iaload, 1) := by decide +kernel
theorem dX6_reaches_12 : decode cX6_reaches 12 = .ok (.if_icmp .le 7, 3) := by decide +kernel
theorem dX6_reaches_15 : decode cX6_reaches 15 = .ok (.iload_n 2, 1) := by decide +kernel
theorem dX6_reaches_16 : decode cX6_reaches 16 = .ok (.goto 9, 3) := by decide +kernel
theorem dX6_reaches_19 : decode cX6_reaches 19 = .ok (.aload_n 0, 1) := by decide +kernel
theorem dX6_reaches_20 : decode cX6_reaches 20 = .ok (.getfield 23, 3) := by decide +kernel
theorem dX6_reaches_23 : decode cX6_reaches 23 = .ok (.iload_n 1, 1) := by decide +kernel
theorem dX6_reaches_24 : decode cX6_reaches 24 = .ok (.iaload, 1) := by decide +kernel
theorem dX6_reaches_25 : decode cX6_reaches 25 = .ok (.iastore, 1) := by decide +kernel
theorem dX6_reaches_26 : decode cX6_reaches 26 = .ok (.return_, 1) := by decide +kernel
set_option maxRecDepth 20000 in
theorem ggX6_goesOn_X6_cost : GoodIn wsX6_goesOn wsX6_cost := goodIn_r _ [7, 2, 43, 44, 45, 46, 47, 48, 49, 50, 51, 52, 53, 54, 55, 56, 57, 58, 59, 60, 61, 62] (by decide +kernel) (by decide +kernel)
set_option maxRecDepth 20000 in
theorem gX6_goesOn_X6_cost : GoodIn wsX6_goesOn (wsV RX6 68 RX6 yX6_cost wsX6_cost) := goodIn_app (goodIn_of _ (by decide +kernel)) ggX6_goesOn_X6_cost
set_option maxRecDepth 20000 in
theorem ggX6_goesOn_X6_reaches : GoodIn wsX6_goesOn wsX6_reaches := goodIn_r _ [11, 1, 43, 44, 45, 46, 47, 48, 49, 50, 51, 52, 53, 54, 55, 56, 57, 58, 59, 60, 61, 62] (by decide +kernel) (by decide +kernel)
set_option maxRecDepth 20000 in
theorem gX6_goesOn_X6_reaches : GoodIn wsX6_goesOn (wsV RX6 143 RX6 yX6_reaches wsX6_reaches) := goodIn_app (goodIn_of _ (by decide +kernel)) ggX6_goesOn_X6_reaches
set_option maxRecDepth 20000 in
theorem ggX6_goesOn_X6_isSignal : GoodIn wsX6_goesOn wsX6_isSignal := goodIn_r _ [15, 2, 16, 17, 6, 18, 19, 20, 21, 22, 43, 44, 45, 46, 47, 48, 49, 50, 51, 52, 53, 54, 55, 56, 57, 58, 59, 60, 61, 62] (by decide +kernel) (by decide +kernel)
set_option maxRecDepth 20000 in
theorem gX6_goesOn_X6_isSignal : GoodIn wsX6_goesOn (wsV RX6 147 RX6 yX6_isSignal wsX6_isSignal) := goodIn_app (goodIn_of _ (by decide +kernel)) ggX6_goesOn_X6_isSignal
set_option maxRecDepth 20000 in
theorem ggX6_goesOn_X6_source : GoodIn wsX6_goesOn wsX6_source := goodIn_r _ [26, 2, 16, 17, 6, 18, 43, 44, 45, 46, 47, 48, 49, 50, 51, 52, 53, 54, 55, 56, 57, 58, 59, 60, 61, 62] (by decide +kernel) (by decide +kernel)
set_option maxRecDepth 20000 in
theorem gX6_goesOn_X6_source : GoodIn wsX6_goesOn (wsV RX6 71 RX6 yX6_source wsX6_source) := goodIn_app (goodIn_of _ (by decide +kernel)) ggX6_goesOn_X6_source
set_option maxRecDepth 20000 in
theorem ggX6_goesOn_X6_far : GoodIn wsX6_goesOn wsX6_far := goodIn_r _ [22, 2, 16, 17, 6, 18, 43, 44, 45, 46, 47, 48, 49, 50, 51, 52, 53, 54, 55, 56, 57, 58, 59, 60, 61, 62] (by decide +kernel) (by decide +kernel)
set_option maxRecDepth 20000 in
theorem gX6_goesOn_X6_far : GoodIn wsX6_goesOn (wsV RX6 64 RX6 yX6_far wsX6_far) := goodIn_app (goodIn_of _ (by decide +kernel)) ggX6_goesOn_X6_far
set_option maxRecDepth 20000 in
theorem ggX6_goesOn_X6_target : GoodIn wsX6_goesOn wsX6_target := goodIn_r _ [30, 2, 16, 17, 6, 18, 43, 44, 45, 46, 47, 48, 49, 50, 51, 52, 53, 54, 55, 56, 57, 58, 59, 60, 61, 62] (by decide +kernel) (by decide +kernel)
set_option maxRecDepth 20000 in
theorem gX6_goesOn_X6_target : GoodIn wsX6_goesOn (wsV RX6 74 RX6 yX6_target wsX6_target) := goodIn_app (goodIn_of _ (by decide +kernel)) ggX6_goesOn_X6_target
set_option maxRecDepth 20000 in
theorem ggX6_goesOn_X6_placeOf : GoodIn wsX6_goesOn wsX6_placeOf := goodIn_r _ [34, 2, 43, 44, 45, 46, 47, 48, 49, 50, 51, 52, 53, 54, 55, 56, 57, 58, 59, 60, 61, 62] (by decide +kernel) (by decide +kernel)
set_option maxRecDepth 20000 in
theorem gX6_goesOn_X6_placeOf : GoodIn wsX6_goesOn (wsV RX6 99 RX6 yX6_placeOf wsX6_placeOf) := goodIn_app (goodIn_of _ (by decide +kernel)) ggX6_goesOn_X6_placeOf
set_option maxRecDepth 20000 in
theorem ggX6_goesOn_X6_lag : GoodIn wsX6_goesOn wsX6_lag := goodIn_r _ [38, 2, 39, 40, 41, 6, 42, 23, 24, 25, 26, 16, 17, 18, 3, 4, 5, 7, 27, 28, 29, 30, 43, 44, 45, 46, 47, 48, 49, 50, 51, 52, 53, 54, 55, 56, 57, 58, 59, 60, 61, 62] (by decide +kernel) (by decide +kernel)
set_option maxRecDepth 20000 in
theorem gX6_goesOn_X6_lag : GoodIn wsX6_goesOn (wsV RX6 140 RX6 yX6_lag wsX6_lag) := goodIn_app (goodIn_of _ (by decide +kernel)) ggX6_goesOn_X6_lag
theorem dX6_goesOn_0 : decode cX6_goesOn 0 = .ok (.aload_n 0, 1) := by decide +kernel
theorem dX6_goesOn_1 : decode cX6_goesOn 1 = .ok (.getfield 23, 3) := by decide +kernel
theorem dX6_goesOn_4 : decode cX6_goesOn 4 = .ok (.bipush 8, 2) := by decide +kernel
theorem dX6_goesOn_6 : decode cX6_goesOn 6 = .ok (.iload_n 1, 1) := by decide +kernel
theorem dX6_goesOn_7 : decode cX6_goesOn 7 = .ok (.imul, 1) := by decide +kernel
theorem dX6_goesOn_8 : decode cX6_goesOn 8 = .ok (.iload_n 2, 1) := by decide +kernel
theorem dX6_goesOn_9 : decode cX6_goesOn 9 = .ok (.iadd, 1) := by decide +kernel
theorem dX6_goesOn_10 : decode cX6_goesOn 10 = .ok (.iaload, 1) := by decide +kernel
theorem dX6_goesOn_11 : decode cX6_goesOn 11 = .ok (.istore 6, 2) := by decide +kernel
theorem dX6_goesOn_13 : decode cX6_goesOn 13 = .ok (.aload_n 0, 1) := by decide +kernel
theorem dX6_goesOn_14 : decode cX6_goesOn 14 = .ok (.getfield 7, 3) := by decide +kernel
theorem dX6_goesOn_17 : decode cX6_goesOn 17 = .ok (.bipush 20, 2) := by decide +kernel
theorem dX6_goesOn_19 : decode cX6_goesOn 19 = .ok (.iload_n 2, 1) := by decide +kernel
theorem dX6_goesOn_20 : decode cX6_goesOn 20 = .ok (.iadd, 1) := by decide +kernel
theorem dX6_goesOn_21 : decode cX6_goesOn 21 = .ok (.iaload, 1) := by decide +kernel
theorem dX6_goesOn_22 : decode cX6_goesOn 22 = .ok (.istore 7, 2) := by decide +kernel
theorem dX6_goesOn_24 : decode cX6_goesOn 24 = .ok (.iload_n 2, 1) := by decide +kernel
theorem dX6_goesOn_25 : decode cX6_goesOn 25 = .ok (.iconst 1, 1) := by decide +kernel
theorem dX6_goesOn_26 : decode cX6_goesOn 26 = .ok (.iadd, 1) := by decide +kernel
theorem dX6_goesOn_27 : decode cX6_goesOn 27 = .ok (.aload_n 0, 1) := by decide +kernel
theorem dX6_goesOn_28 : decode cX6_goesOn 28 = .ok (.getfield 7, 3) := by decide +kernel
theorem dX6_goesOn_31 : decode cX6_goesOn 31 = .ok (.iconst 0, 1) := by decide +kernel
theorem dX6_goesOn_32 : decode cX6_goesOn 32 = .ok (.iaload, 1) := by decide +kernel
theorem dX6_goesOn_33 : decode cX6_goesOn 33 = .ok (.if_icmp .ge 27, 3) := by decide +kernel
theorem dX6_goesOn_36 : decode cX6_goesOn 36 = .ok (.aload_n 0, 1) := by decide +kernel
theorem dX6_goesOn_37 : decode cX6_goesOn 37 = .ok (.bipush 8, 2) := by decide +kernel
theorem dX6_goesOn_39 : decode cX6_goesOn 39 = .ok (.iload_n 1, 1) := by decide +kernel
theorem dX6_goesOn_40 : decode cX6_goesOn 40 = .ok (.imul, 1) := by decide +kernel
theorem dX6_goesOn_41 : decode cX6_goesOn 41 = .ok (.iload_n 2, 1) := by decide +kernel
theorem dX6_goesOn_42 : decode cX6_goesOn 42 = .ok (.iadd, 1) := by decide +kernel
theorem dX6_goesOn_43 : decode cX6_goesOn 43 = .ok (.iconst 1, 1) := by decide +kernel
theorem dX6_goesOn_44 : decode cX6_goesOn 44 = .ok (.iadd, 1) := by decide +kernel
theorem dX6_goesOn_45 : decode cX6_goesOn 45 = .ok (.iload 6, 2) := by decide +kernel
theorem dX6_goesOn_47 : decode cX6_goesOn 47 = .ok (.aload_n 0, 1) := by decide +kernel
theorem dX6_goesOn_48 : decode cX6_goesOn 48 = .ok (.iload 7, 2) := by decide +kernel
theorem dX6_goesOn_50 : decode cX6_goesOn 50 = .ok (.invokevirtual 68, 3) := by decide +kernel
theorem dX6_goesOn_53 : decode cX6_goesOn 53 = .ok (.iadd, 1) := by decide +kernel
theorem dX6_goesOn_54 : decode cX6_goesOn 54 = .ok (.invokevirtual 143, 3) := by decide +kernel
theorem dX6_goesOn_57 : decode cX6_goesOn 57 = .ok (.goto 46, 3) := by decide +kernel
theorem dX6_goesOn_60 : decode cX6_goesOn 60 = .ok (.iload 5, 2) := by decide +kernel
theorem dX6_goesOn_62 : decode cX6_goesOn 62 = .ok (.iconst 1, 1) := by decide +kernel
theorem dX6_goesOn_63 : decode cX6_goesOn 63 = .ok (.if_icmp .ne 40, 3) := by decide +kernel
theorem dX6_goesOn_66 : decode cX6_goesOn 66 = .ok (.iload_n 1, 1) := by decide +kernel
theorem dX6_goesOn_67 : decode cX6_goesOn 67 = .ok (.aload_n 0, 1) := by decide +kernel
theorem dX6_goesOn_68 : decode cX6_goesOn 68 = .ok (.getfield 7, 3) := by decide +kernel
theorem dX6_goesOn_71 : decode cX6_goesOn 71 = .ok (.iconst 4, 1) := by decide +kernel
theorem dX6_goesOn_72 : decode cX6_goesOn 72 = .ok (.iaload, 1) := by decide +kernel
theorem dX6_goesOn_73 : decode cX6_goesOn 73 = .ok (.iadd, 1) := by decide +kernel
theorem dX6_goesOn_74 : decode cX6_goesOn 74 = .ok (.iload 4, 2) := by decide +kernel
theorem dX6_goesOn_76 : decode cX6_goesOn 76 = .ok (.if_icmp .gt 27, 3) := by decide +kernel
theorem dX6_goesOn_79 : decode cX6_goesOn 79 = .ok (.aload_n 0, 1) := by decide +kernel
theorem dX6_goesOn_80 : decode cX6_goesOn 80 = .ok (.bipush 8, 2) := by decide +kernel
theorem dX6_goesOn_82 : decode cX6_goesOn 82 = .ok (.iload_n 1, 1) := by decide +kernel
theorem dX6_goesOn_83 : decode cX6_goesOn 83 = .ok (.aload_n 0, 1) := by decide +kernel
theorem dX6_goesOn_84 : decode cX6_goesOn 84 = .ok (.getfield 7, 3) := by decide +kernel
theorem dX6_goesOn_87 : decode cX6_goesOn 87 = .ok (.iconst 4, 1) := by decide +kernel
theorem dX6_goesOn_88 : decode cX6_goesOn 88 = .ok (.iaload, 1) := by decide +kernel
theorem dX6_goesOn_89 : decode cX6_goesOn 89 = .ok (.iadd, 1) := by decide +kernel
theorem dX6_goesOn_90 : decode cX6_goesOn 90 = .ok (.imul, 1) := by decide +kernel
theorem dX6_goesOn_91 : decode cX6_goesOn 91 = .ok (.iload 6, 2) := by decide +kernel
theorem dX6_goesOn_93 : decode cX6_goesOn 93 = .ok (.aload_n 0, 1) := by decide +kernel
theorem dX6_goesOn_94 : decode cX6_goesOn 94 = .ok (.iload 7, 2) := by decide +kernel
theorem dX6_goesOn_96 : decode cX6_goesOn 96 = .ok (.invokevirtual 68, 3) := by decide +kernel
theorem dX6_goesOn_99 : decode cX6_goesOn 99 = .ok (.iadd, 1) := by decide +kernel
theorem dX6_goesOn_100 : decode cX6_goesOn 100 = .ok (.invokevirtual 143, 3) := by decide +kernel
theorem dX6_goesOn_103 : decode cX6_goesOn 103 = .ok (.iconst 0, 1) := by decide +kernel
theorem dX6_goesOn_104 : decode cX6_goesOn 104 = .ok (.istore 8, 2) := by decide +kernel
theorem dX6_goesOn_106 : decode cX6_goesOn 106 = .ok (.iload 8, 2) := by decide +kernel
theorem dX6_goesOn_108 : decode cX6_goesOn 108 = .ok (.aload_n 0, 1) := by decide +kernel
theorem dX6_goesOn_109 : decode cX6_goesOn 109 = .ok (.getfield 7, 3) := by decide +kernel
theorem dX6_goesOn_112 : decode cX6_goesOn 112 = .ok (.iconst 1, 1) := by decide +kernel
theorem dX6_goesOn_113 : decode cX6_goesOn 113 = .ok (.iaload, 1) := by decide +kernel
theorem dX6_goesOn_114 : decode cX6_goesOn 114 = .ok (.if_icmp .ge 83, 3) := by decide +kernel
theorem dX6_goesOn_117 : decode cX6_goesOn 117 = .ok (.iload 8, 2) := by decide +kernel
theorem dX6_goesOn_119 : decode cX6_goesOn 119 = .ok (.iload_n 3, 1) := by decide +kernel
theorem dX6_goesOn_120 : decode cX6_goesOn 120 = .ok (.if_icmp .eq 71, 3) := by decide +kernel
theorem dX6_goesOn_123 : decode cX6_goesOn 123 = .ok (.aload_n 0, 1) := by decide +kernel
theorem dX6_goesOn_124 : decode cX6_goesOn 124 = .ok (.iload 8, 2) := by decide +kernel
theorem dX6_goesOn_126 : decode cX6_goesOn 126 = .ok (.invokevirtual 147, 3) := by decide +kernel
theorem dX6_goesOn_129 : decode cX6_goesOn 129 = .ok (.ifCond .eq 62, 3) := by decide +kernel
theorem dX6_goesOn_132 : decode cX6_goesOn 132 = .ok (.aload_n 0, 1) := by decide +kernel
theorem dX6_goesOn_133 : decode cX6_goesOn 133 = .ok (.iload 8, 2) := by decide +kernel
theorem dX6_goesOn_135 : decode cX6_goesOn 135 = .ok (.invokevirtual 71, 3) := by decide +kernel
theorem dX6_goesOn_138 : decode cX6_goesOn 138 = .ok (.iload 7, 2) := by decide +kernel
theorem dX6_goesOn_140 : decode cX6_goesOn 140 = .ok (.if_icmp .ne 51, 3) := by decide +kernel
theorem dX6_goesOn_143 : decode cX6_goesOn 143 = .ok (.iload_n 1, 1) := by decide +kernel
theorem dX6_goesOn_144 : decode cX6_goesOn 144 = .ok (.aload_n 0, 1) := by decide +kernel
theorem dX6_goesOn_145 : decode cX6_goesOn 145 = .ok (.iload 8, 2) := by decide +kernel
theorem dX6_goesOn_147 : decode cX6_goesOn 147 = .ok (.invokevirtual 64, 3) := by decide +kernel
theorem dX6_goesOn_150 : decode cX6_goesOn 150 = .ok (.iadd, 1) := by decide +kernel
theorem dX6_goesOn_151 : decode cX6_goesOn 151 = .ok (.iload 4, 2) := by decide +kernel
theorem dX6_goesOn_153 : decode cX6_goesOn 153 = .ok (.if_icmp .gt 38, 3) := by decide +kernel
theorem dX6_goesOn_156 : decode cX6_goesOn 156 = .ok (.aload_n 0, 1) := by decide +kernel
theorem dX6_goesOn_157 : decode cX6_goesOn 157 = .ok (.bipush 8, 2) := by decide +kernel
theorem dX6_goesOn_159 : decode cX6_goesOn 159 = .ok (.iload_n 1, 1) := by decide +kernel
theorem dX6_goesOn_160 : decode cX6_goesOn 160 = .ok (.aload_n 0, 1) := by decide +kernel
theorem dX6_goesOn_161 : decode cX6_goesOn 161 = .ok (.iload 8, 2) := by decide +kernel
theorem dX6_goesOn_163 : decode cX6_goesOn 163 = .ok (.invokevirtual 64, 3) := by decide +kernel
theorem dX6_goesOn_166 : decode cX6_goesOn 166 = .ok (.iadd, 1) := by decide +kernel
theorem dX6_goesOn_167 : decode cX6_goesOn 167 = .ok (.imul, 1) := by decide +kernel
theorem dX6_goesOn_168 : decode cX6_goesOn 168 = .ok (.aload_n 0, 1) := by decide +kernel
theorem dX6_goesOn_169 : decode cX6_goesOn 169 = .ok (.aload_n 0, 1) := by decide +kernel
theorem dX6_goesOn_170 : decode cX6_goesOn 170 = .ok (.iload 8, 2) := by decide +kernel
theorem dX6_goesOn_172 : decode cX6_goesOn 172 = .ok (.invokevirtual 74, 3) := by decide +kernel
theorem dX6_goesOn_175 : decode cX6_goesOn 175 = .ok (.invokevirtual 99, 3) := by decide +kernel
theorem dX6_goesOn_178 : decode cX6_goesOn 178 = .ok (.iadd, 1) := by decide +kernel
theorem dX6_goesOn_179 : decode cX6_goesOn 179 = .ok (.iload 6, 2) := by decide +kernel
theorem dX6_goesOn_181 : decode cX6_goesOn 181 = .ok (.aload_n 0, 1) := by decide +kernel
theorem dX6_goesOn_182 : decode cX6_goesOn 182 = .ok (.iload 8, 2) := by decide +kernel
theorem dX6_goesOn_184 : decode cX6_goesOn 184 = .ok (.invokevirtual 140, 3) := by decide +kernel
theorem dX6_goesOn_187 : decode cX6_goesOn 187 = .ok (.iadd, 1) := by decide +kernel
theorem dX6_goesOn_188 : decode cX6_goesOn 188 = .ok (.invokevirtual 143, 3) := by decide +kernel
theorem dX6_goesOn_191 : decode cX6_goesOn 191 = .ok (.iinc 8 1, 3) := by decide +kernel
theorem dX6_goesOn_194 : decode cX6_goesOn 194 = .ok (.goto (-88), 3) := by decide +kernel
theorem dX6_goesOn_197 : decode cX6_goesOn 197 = .ok (.return_, 1) := by decide +kernel
set_option maxRecDepth 20000 in
theorem ggX6_leadOf_X6_source : GoodIn wsX6_leadOf wsX6_source := goodIn_r _ [7, 2, 8, 9, 6, 10, 47, 48, 49, 50, 51, 52, 53, 54, 55, 56, 57, 58, 59, 60, 61, 62, 63, 64, 65, 66] (by decide +kernel) (by decide +kernel)
set_option maxRecDepth 20000 in
theorem gX6_leadOf_X6_source : GoodIn wsX6_leadOf (wsV RX6 71 RX6 yX6_source wsX6_source) := goodIn_app (goodIn_of _ (by decide +kernel)) ggX6_leadOf_X6_source
set_option maxRecDepth 20000 in
theorem ggX6_leadOf_X6_placeOf : GoodIn wsX6_leadOf wsX6_placeOf := goodIn_r _ [14, 2, 47, 48, 49, 50, 51, 52, 53, 54, 55, 56, 57, 58, 59, 60, 61, 62, 63, 64, 65, 66] (by decide +kernel) (by decide +kernel)
set_option maxRecDepth 20000 in
theorem gX6_leadOf_X6_placeOf : GoodIn wsX6_leadOf (wsV RX6 99 RX6 yX6_placeOf wsX6_placeOf) := goodIn_app (goodIn_of _ (by decide +kernel)) ggX6_leadOf_X6_placeOf
set_option maxRecDepth 20000 in
theorem ggX6_leadOf_X6_far : GoodIn wsX6_leadOf wsX6_far := goodIn_r _ [18, 2, 8, 9, 6, 10, 47, 48, 49, 50, 51, 52, 53, 54, 55, 56, 57, 58, 59, 60, 61, 62, 63, 64, 65, 66] (by decide +kernel) (by decide +kernel)
set_option maxRecDepth 20000 in
theorem gX6_leadOf_X6_far : GoodIn wsX6_leadOf (wsV RX6 64 RX6 yX6_far wsX6_far) := goodIn_app (goodIn_of _ (by decide +kernel)) ggX6_leadOf_X6_far
set_option maxRecDepth 20000 in
theorem ggX6_leadOf_X6_goesOn : GoodIn wsX6_leadOf wsX6_goesOn := goodIn_r _ [22, 1, 2, 23, 24, 25, 6, 26, 27, 28, 29, 30, 31, 32, 33, 34, 8, 9, 10, 15, 16, 17, 18, 3, 4, 5, 7, 35, 36, 37, 38, 11, 12, 13, 14, 39, 40, 41, 42, 43, 44, 45, 46, 47, 48, 49, 50, 51, 52, 53, 54, 55, 56, 57, 58, 59, 60, 61, 62, 63, 64, 65, 66] (by decide +kernel) (by decide +kernel)
set_option maxRecDepth 20000 in
theorem gX6_leadOf_X6_goesOn : GoodIn wsX6_leadOf (wsV RX6 150 RX6 yX6_goesOn wsX6_goesOn) := goodIn_app (goodIn_of _ (by decide +kernel)) ggX6_leadOf_X6_goesOn
set_option maxRecDepth 20000 in
theorem ggX6_leadOf_X6_target : GoodIn wsX6_leadOf wsX6_target := goodIn_r _ [38, 2, 8, 9, 6, 10, 47, 48, 49, 50, 51, 52, 53, 54, 55, 56, 57, 58, 59, 60, 61, 62, 63, 64, 65, 66] (by decide +kernel) (by decide +kernel)
set_option maxRecDepth 20000 in
theorem gX6_leadOf_X6_target : GoodIn wsX6_leadOf (wsV RX6 74 RX6 yX6_target wsX6_target) := goodIn_app (goodIn_of _ (by decide +kernel)) ggX6_leadOf_X6_target
theorem dX6_leadOf_0 : decode cX6_leadOf 0 = .ok (.iconst 0, 1) := by decide +kernel
theorem dX6_leadOf_1 : decode cX6_leadOf 1 = .ok (.istore_n 3, 1) := by decide +kernel
theorem dX6_leadOf_2 : decode cX6_leadOf 2 = .ok (.iload_n 3, 1) := by decide +kernel
theorem dX6_leadOf_3 : decode cX6_leadOf 3 = .ok (.bipush 48, 2) := by decide +kernel
theorem dX6_leadOf_5 : decode cX6_leadOf 5 = .ok (.if_icmp .ge 16, 3) := by decide +kernel
theorem dX6_leadOf_8 : decode cX6_leadOf 8 = .ok (.aload_n 0, 1) := by decide +kernel
theorem dX6_leadOf_9 : decode cX6_leadOf 9 = .ok (.getfield 23, 3) := by decide +kernel
theorem dX6_leadOf_12 : decode cX6_leadOf 12 = .ok (.iload_n 3, 1) := by decide +kernel
theorem dX6_leadOf_13 : decode cX6_leadOf 13 = .ok (.iconst (-1), 1) := by decide +kernel
theorem dX6_leadOf_14 : decode cX6_leadOf 14 = .ok (.iastore, 1) := by decide +kernel
theorem dX6_leadOf_15 : decode cX6_leadOf 15 = .ok (.iinc 3 1, 3) := by decide +kernel
theorem dX6_leadOf_18 : decode cX6_leadOf 18 = .ok (.goto (-16), 3) := by decide +kernel
theorem dX6_leadOf_21 : decode cX6_leadOf 21 = .ok (.aload_n 0, 1) := by decide +kernel
theorem dX6_leadOf_22 : decode cX6_leadOf 22 = .ok (.getfield 23, 3) := by decide +kernel
theorem dX6_leadOf_25 : decode cX6_leadOf 25 = .ok (.aload_n 0, 1) := by decide +kernel
theorem dX6_leadOf_26 : decode cX6_leadOf 26 = .ok (.aload_n 0, 1) := by decide +kernel
theorem dX6_leadOf_27 : decode cX6_leadOf 27 = .ok (.iload_n 1, 1) := by decide +kernel
theorem dX6_leadOf_28 : decode cX6_leadOf 28 = .ok (.invokevirtual 71, 3) := by decide +kernel
theorem dX6_leadOf_31 : decode cX6_leadOf 31 = .ok (.invokevirtual 99, 3) := by decide +kernel
theorem dX6_leadOf_34 : decode cX6_leadOf 34 = .ok (.iconst 0, 1) := by decide +kernel
theorem dX6_leadOf_35 : decode cX6_leadOf 35 = .ok (.iastore, 1) := by decide +kernel
theorem dX6_leadOf_36 : decode cX6_leadOf 36 = .ok (.iconst 0, 1) := by decide +kernel
theorem dX6_leadOf_37 : decode cX6_leadOf 37 = .ok (.istore_n 3, 1) := by decide +kernel
theorem dX6_leadOf_38 : decode cX6_leadOf 38 = .ok (.iload_n 3, 1) := by decide +kernel
theorem dX6_leadOf_39 : decode cX6_leadOf 39 = .ok (.aload_n 0, 1) := by decide +kernel
theorem dX6_leadOf_40 : decode cX6_leadOf 40 = .ok (.iload_n 1, 1) := by decide +kernel
theorem dX6_leadOf_41 : decode cX6_leadOf 41 = .ok (.invokevirtual 64, 3) := by decide +kernel
theorem dX6_leadOf_44 : decode cX6_leadOf 44 = .ok (.if_icmp .gt 58, 3) := by decide +kernel
theorem dX6_leadOf_47 : decode cX6_leadOf 47 = .ok (.iconst 0, 1) := by decide +kernel
theorem dX6_leadOf_48 : decode cX6_leadOf 48 = .ok (.istore 4, 2) := by decide +kernel
theorem dX6_leadOf_50 : decode cX6_leadOf 50 = .ok (.iload 4, 2) := by decide +kernel
theorem dX6_leadOf_52 : decode cX6_leadOf 52 = .ok (.aload_n 0, 1) := by decide +kernel
theorem dX6_leadOf_53 : decode cX6_leadOf 53 = .ok (.getfield 7, 3) := by decide +kernel
theorem dX6_leadOf_56 : decode cX6_leadOf 56 = .ok (.iconst 0, 1) := by decide +kernel
theorem dX6_leadOf_57 : decode cX6_leadOf 57 = .ok (.iaload, 1) := by decide +kernel
theorem dX6_leadOf_58 : decode cX6_leadOf 58 = .ok (.if_icmp .ge 38, 3) := by decide +kernel
theorem dX6_leadOf_61 : decode cX6_leadOf 61 = .ok (.aload_n 0, 1) := by decide +kernel
theorem dX6_leadOf_62 : decode cX6_leadOf 62 = .ok (.getfield 23, 3) := by decide +kernel
theorem dX6_leadOf_65 : decode cX6_leadOf 65 = .ok (.bipush 8, 2) := by decide +kernel
theorem dX6_leadOf_67 : decode cX6_leadOf 67 = .ok (.iload_n 3, 1) := by decide +kernel
theorem dX6_leadOf_68 : decode cX6_leadOf 68 = .ok (.imul, 1) := by decide +kernel
theorem dX6_leadOf_69 : decode cX6_leadOf 69 = .ok (.iload 4, 2) := by decide +kernel
theorem dX6_leadOf_71 : decode cX6_leadOf 71 = .ok (.iadd, 1) := by decide +kernel
theorem dX6_leadOf_72 : decode cX6_leadOf 72 = .ok (.iaload, 1) := by decide +kernel
theorem dX6_leadOf_73 : decode cX6_leadOf 73 = .ok (.ifCond .lt 17, 3) := by decide +kernel
theorem dX6_leadOf_76 : decode cX6_leadOf 76 = .ok (.aload_n 0, 1) := by decide +kernel
theorem dX6_leadOf_77 : decode cX6_leadOf 77 = .ok (.iload_n 3, 1) := by decide +kernel
theorem dX6_leadOf_78 : decode cX6_leadOf 78 = .ok (.iload 4, 2) := by decide +kernel
theorem dX6_leadOf_80 : decode cX6_leadOf 80 = .ok (.iload_n 1, 1) := by decide +kernel
theorem dX6_leadOf_81 : decode cX6_leadOf 81 = .ok (.aload_n 0, 1) := by decide +kernel
theorem dX6_leadOf_82 : decode cX6_leadOf 82 = .ok (.iload_n 1, 1) := by decide +kernel
theorem dX6_leadOf_83 : decode cX6_leadOf 83 = .ok (.invokevirtual 64, 3) := by decide +kernel
theorem dX6_leadOf_86 : decode cX6_leadOf 86 = .ok (.iload_n 2, 1) := by decide +kernel
theorem dX6_leadOf_87 : decode cX6_leadOf 87 = .ok (.invokevirtual 150, 3) := by decide +kernel
theorem dX6_leadOf_90 : decode cX6_leadOf 90 = .ok (.iinc 4 1, 3) := by decide +kernel
theorem dX6_leadOf_93 : decode cX6_leadOf 93 = .ok (.goto (-43), 3) := by decide +kernel
theorem dX6_leadOf_96 : decode cX6_leadOf 96 = .ok (.iinc 3 1, 3) := by decide +kernel
theorem dX6_leadOf_99 : decode cX6_leadOf 99 = .ok (.goto (-61), 3) := by decide +kernel
theorem dX6_leadOf_102 : decode cX6_leadOf 102 = .ok (.aload_n 0, 1) := by decide +kernel
theorem dX6_leadOf_103 : decode cX6_leadOf 103 = .ok (.getfield 23, 3) := by decide +kernel
theorem dX6_leadOf_106 : decode cX6_leadOf 106 = .ok (.bipush 8, 2) := by decide +kernel
theorem dX6_leadOf_108 : decode cX6_leadOf 108 = .ok (.aload_n 0, 1) := by decide +kernel
theorem dX6_leadOf_109 : decode cX6_leadOf 109 = .ok (.iload_n 1, 1) := by decide +kernel
theorem dX6_leadOf_110 : decode cX6_leadOf 110 = .ok (.invokevirtual 64, 3) := by decide +kernel
theorem dX6_leadOf_113 : decode cX6_leadOf 113 = .ok (.imul, 1) := by decide +kernel
theorem dX6_leadOf_114 : decode cX6_leadOf 114 = .ok (.aload_n 0, 1) := by decide +kernel
theorem dX6_leadOf_115 : decode cX6_leadOf 115 = .ok (.aload_n 0, 1) := by decide +kernel
theorem dX6_leadOf_116 : decode cX6_leadOf 116 = .ok (.iload_n 1, 1) := by decide +kernel
theorem dX6_leadOf_117 : decode cX6_leadOf 117 = .ok (.invokevirtual 74, 3) := by decide +kernel
theorem dX6_leadOf_120 : decode cX6_leadOf 120 = .ok (.invokevirtual 99, 3) := by decide +kernel
theorem dX6_leadOf_123 : decode cX6_leadOf 123 = .ok (.iadd, 1) := by decide +kernel
theorem dX6_leadOf_124 : decode cX6_leadOf 124 = .ok (.iaload, 1) := by decide +kernel
theorem dX6_leadOf_125 : decode cX6_leadOf 125 = .ok (.ireturn, 1) := by decide +kernel
set_option maxRecDepth 20000 in
theorem ggX6_lead_X6_isDependence : GoodIn wsX6_lead wsX6_isDependence := goodIn_r _ [6, 7, 8, 9, 5, 10, 63, 64, 65, 66, 67, 68, 69, 70, 71, 72, 73, 74, 75, 76, 77, 78, 79, 80, 81, 82] (by decide +kernel) (by decide +kernel)
set_option maxRecDepth 20000 in
theorem gX6_lead_X6_isDependence : GoodIn wsX6_lead (wsV RX6 134 RX6 yX6_isDependence wsX6_isDependence) := goodIn_app (goodIn_of _ (by decide +kernel)) ggX6_lead_X6_isDependence
set_option maxRecDepth 20000 in
theorem ggX6_lead_X6_fails : GoodIn wsX6_lead wsX6_fails := goodIn_r _ [14, 1, 63, 64, 65, 66, 67, 68, 69, 70, 71, 72, 73, 74, 75, 76, 77, 78, 79, 80, 81, 82] (by decide +kernel) (by decide +kernel)
set_option maxRecDepth 20000 in
theorem gX6_lead_X6_fails : GoodIn wsX6_lead (wsV RX6 83 RX6 yX6_fails wsX6_fails) := goodIn_app (goodIn_of _ (by decide +kernel)) ggX6_lead_X6_fails
set_option maxRecDepth 20000 in
theorem ggX6_lead_X6_in : GoodIn wsX6_lead wsX6_in := goodIn_r _ [10] (by decide +kernel) (by decide +kernel)
set_option maxRecDepth 20000 in
theorem gX6_lead_X6_in : GoodIn wsX6_lead (va_wsS RX6 56 yX6_in wsX6_in) := goodIn_app (goodIn_of _ (by decide +kernel)) ggX6_lead_X6_in
set_option maxRecDepth 20000 in
theorem ggX6_lead_X6_far : GoodIn wsX6_lead wsX6_far := goodIn_r _ [18, 7, 19, 20, 5, 21, 63, 64, 65, 66, 67, 68, 69, 70, 71, 72, 73, 74, 75, 76, 77, 78, 79, 80, 81, 82] (by decide +kernel) (by decide +kernel)
set_option maxRecDepth 20000 in
theorem gX6_lead_X6_far : GoodIn wsX6_lead (wsV RX6 64 RX6 yX6_far wsX6_far) := goodIn_app (goodIn_of _ (by decide +kernel)) ggX6_lead_X6_far
set_option maxRecDepth 20000 in
theorem ggX6_lead_X6_leadOf : GoodIn wsX6_lead wsX6_leadOf := goodIn_r _ [25, 26, 7, 27, 28, 29, 5, 30, 19, 20, 21, 31, 32, 33, 34, 15, 16, 17, 18, 35, 36, 37, 38, 39, 40, 41, 42, 43, 44, 45, 46, 47, 48, 49, 50, 51, 52, 53, 54, 55, 56, 57, 58, 59, 60, 61, 62, 63, 64, 65, 66, 67, 68, 69, 70, 71, 72, 73, 74, 75, 76, 77, 78, 79, 80, 81, 82] (by decide +kernel) (by decide +kernel)
set_option maxRecDepth 20000 in
theorem gX6_lead_X6_leadOf : GoodIn wsX6_lead (wsV RX6 154 RX6 yX6_leadOf wsX6_leadOf) := goodIn_app (goodIn_of _ (by decide +kernel)) ggX6_lead_X6_leadOf
theorem dX6_lead_0 : decode cX6_lead 0 = .ok (.aload_n 0, 1) := by decide +kernel
theorem dX6_lead_1 : decode cX6_lead 1 = .ok (.iconst 0, 1) := by decide +kernel
theorem dX6_lead_2 : decode cX6_lead 2 = .ok (.putfield 53, 3) := by decide +kernel
theorem dX6_lead_5 : decode cX6_lead 5 = .ok (.aload_n 0, 1) := by decide +kernel
theorem dX6_lead_6 : decode cX6_lead 6 = .ok (.iload_n 1, 1) := by decide +kernel
theorem dX6_lead_7 : decode cX6_lead 7 = .ok (.invokevirtual 134, 3) := by decide +kernel
theorem dX6_lead_10 : decode cX6_lead 10 = .ok (.ifCond .ne 9, 3) := by decide +kernel
theorem dX6_lead_13 : decode cX6_lead 13 = .ok (.aload_n 0, 1) := by decide +kernel
theorem dX6_lead_14 : decode cX6_lead 14 = .ok (.iconst 1, 1) := by decide +kernel
theorem dX6_lead_15 : decode cX6_lead 15 = .ok (.invokevirtual 83, 3) := by decide +kernel
theorem dX6_lead_18 : decode cX6_lead 18 = .ok (.ireturn, 1) := by decide +kernel
theorem dX6_lead_19 : decode cX6_lead 19 = .ok (.iload_n 2, 1) := by decide +kernel
theorem dX6_lead_20 : decode cX6_lead 20 = .ok (.iconst 0, 1) := by decide +kernel
theorem dX6_lead_21 : decode cX6_lead 21 = .ok (.iconst 1, 1) := by decide +kernel
theorem dX6_lead_22 : decode cX6_lead 22 = .ok (.invokestatic 56, 3) := by decide +kernel
theorem dX6_lead_25 : decode cX6_lead 25 = .ok (.ifCond .ne 9, 3) := by decide +kernel
theorem dX6_lead_28 : decode cX6_lead 28 = .ok (.aload_n 0, 1) := by decide +kernel
theorem dX6_lead_29 : decode cX6_lead 29 = .ok (.iconst 2, 1) := by decide +kernel
theorem dX6_lead_30 : decode cX6_lead 30 = .ok (.invokevirtual 83, 3) := by decide +kernel
theorem dX6_lead_33 : decode cX6_lead 33 = .ok (.ireturn, 1) := by decide +kernel
theorem dX6_lead_34 : decode cX6_lead 34 = .ok (.aload_n 0, 1) := by decide +kernel
theorem dX6_lead_35 : decode cX6_lead 35 = .ok (.iload_n 1, 1) := by decide +kernel
theorem dX6_lead_36 : decode cX6_lead 36 = .ok (.invokevirtual 64, 3) := by decide +kernel
theorem dX6_lead_39 : decode cX6_lead 39 = .ok (.ifCond .ne 11, 3) := by decide +kernel
theorem dX6_lead_42 : decode cX6_lead 42 = .ok (.aload_n 0, 1) := by decide +kernel
theorem dX6_lead_43 : decode cX6_lead 43 = .ok (.iconst 3, 1) := by decide +kernel
theorem dX6_lead_44 : decode cX6_lead 44 = .ok (.invokevirtual 83, 3) := by decide +kernel
theorem dX6_lead_47 : decode cX6_lead 47 = .ok (.goto 9, 3) := by decide +kernel
theorem dX6_lead_50 : decode cX6_lead 50 = .ok (.aload_n 0, 1) := by decide +kernel
theorem dX6_lead_51 : decode cX6_lead 51 = .ok (.iload_n 1, 1) := by decide +kernel
theorem dX6_lead_52 : decode cX6_lead 52 = .ok (.iload_n 2, 1) := by decide +kernel
theorem dX6_lead_53 : decode cX6_lead 53 = .ok (.invokevirtual 154, 3) := by decide +kernel
theorem dX6_lead_56 : decode cX6_lead 56 = .ok (.ireturn, 1) := by decide +kernel
set_option maxRecDepth 20000 in
theorem ggX6_eliminate_X6_in : GoodIn wsX6_eliminate wsX6_in := goodIn_r _ [6] (by decide +kernel) (by decide +kernel)
set_option maxRecDepth 20000 in
theorem gX6_eliminate_X6_in : GoodIn wsX6_eliminate (va_wsS RX6 56 yX6_in wsX6_in) := goodIn_app (goodIn_of _ (by decide +kernel)) ggX6_eliminate_X6_in
set_option maxRecDepth 20000 in
theorem ggX6_eliminate_X6_fails : GoodIn wsX6_eliminate wsX6_fails := goodIn_r _ [10, 1, 59, 60, 61, 62, 63, 64, 65, 66, 67, 68, 69, 70, 71, 72, 73, 74, 75, 76, 77, 78] (by decide +kernel) (by decide +kernel)
set_option maxRecDepth 20000 in
theorem gX6_eliminate_X6_fails : GoodIn wsX6_eliminate (wsV RX6 83 RX6 yX6_fails wsX6_fails) := goodIn_app (goodIn_of _ (by decide +kernel)) ggX6_eliminate_X6_fails
set_option maxRecDepth 20000 in
theorem ggX6_eliminate_X6_isSignal : GoodIn wsX6_eliminate wsX6_isSignal := goodIn_r _ [14, 2, 15, 16, 5, 17, 18, 19, 20, 21, 59, 60, 61, 62, 63, 64, 65, 66, 67, 68, 69, 70, 71, 72, 73, 74, 75, 76, 77, 78] (by decide +kernel) (by decide +kernel)
set_option maxRecDepth 20000 in
theorem gX6_eliminate_X6_isSignal : GoodIn wsX6_eliminate (wsV RX6 147 RX6 yX6_isSignal wsX6_isSignal) := goodIn_app (goodIn_of _ (by decide +kernel)) ggX6_eliminate_X6_isSignal
set_option maxRecDepth 20000 in
theorem ggX6_eliminate_X6_far : GoodIn wsX6_eliminate wsX6_far := goodIn_r _ [21, 2, 15, 16, 5, 17, 59, 60, 61, 62, 63, 64, 65, 66, 67, 68, 69, 70, 71, 72, 73, 74, 75, 76, 77, 78] (by decide +kernel) (by decide +kernel)
set_option maxRecDepth 20000 in
theorem gX6_eliminate_X6_far : GoodIn wsX6_eliminate (wsV RX6 64 RX6 yX6_far wsX6_far) := goodIn_app (goodIn_of _ (by decide +kernel)) ggX6_eliminate_X6_far
set_option maxRecDepth 20000 in
theorem ggX6_eliminate_X6_leadOf : GoodIn wsX6_eliminate wsX6_leadOf := goodIn_r _ [25, 26, 2, 27, 28, 29, 5, 30, 15, 16, 17, 31, 32, 33, 34, 18, 19, 20, 21, 35, 36, 37, 38, 39, 40, 41, 42, 43, 44, 45, 46, 11, 12, 13, 14, 47, 48, 49, 50, 51, 52, 53, 54, 55, 56, 57, 58, 59, 60, 61, 62, 63, 64, 65, 66, 67, 68, 69, 70, 71, 72, 73, 74, 75, 76, 77, 78] (by decide +kernel) (by decide +kernel)
set_option maxRecDepth 20000 in
theorem gX6_eliminate_X6_leadOf : GoodIn wsX6_eliminate (wsV RX6 154 RX6 yX6_leadOf wsX6_leadOf) := goodIn_app (goodIn_of _ (by decide +kernel)) ggX6_eliminate_X6_leadOf
set_option maxRecDepth 20000 in
theorem ggX6_eliminate_X6_lag : GoodIn wsX6_eliminate wsX6_lag := goodIn_r _ [54, 2, 55, 56, 57, 5, 58, 27, 28, 29, 30, 15, 16, 17, 39, 40, 41, 42, 47, 48, 49, 50, 59, 60, 61, 62, 63, 64, 65, 66, 67, 68, 69, 70, 71, 72, 73, 74, 75, 76, 77, 78] (by decide +kernel) (by decide +kernel)
set_option maxRecDepth 20000 in
theorem gX6_eliminate_X6_lag : GoodIn wsX6_eliminate (wsV RX6 140 RX6 yX6_lag wsX6_lag) := goodIn_app (goodIn_of _ (by decide +kernel)) ggX6_eliminate_X6_lag
set_option maxRecDepth 20000 in
theorem ggX6_eliminate_X6_at : GoodIn wsX6_eliminate wsX6_at := goodIn_r _ [17] (by decide +kernel) (by decide +kernel)
set_option maxRecDepth 20000 in
theorem gX6_eliminate_X6_at : GoodIn wsX6_eliminate (va_wsS RX6 60 yX6_at wsX6_at) := goodIn_app (goodIn_of _ (by decide +kernel)) ggX6_eliminate_X6_at
theorem dX6_eliminate_0 : decode cX6_eliminate 0 = .ok (.aload_n 0, 1) := by decide +kernel
theorem dX6_eliminate_1 : decode cX6_eliminate 1 = .ok (.iconst 0, 1) := by decide +kernel
theorem dX6_eliminate_2 : decode cX6_eliminate 2 = .ok (.putfield 53, 3) := by decide +kernel
theorem dX6_eliminate_5 : decode cX6_eliminate 5 = .ok (.iload_n 1, 1) := by decide +kernel
theorem dX6_eliminate_6 : decode cX6_eliminate 6 = .ok (.iconst 0, 1) := by decide +kernel
theorem dX6_eliminate_7 : decode cX6_eliminate 7 = .ok (.iconst 1, 1) := by decide +kernel
theorem dX6_eliminate_8 : decode cX6_eliminate 8 = .ok (.invokestatic 56, 3) := by decide +kernel
theorem dX6_eliminate_11 : decode cX6_eliminate 11 = .ok (.ifCond .ne 9, 3) := by decide +kernel
theorem dX6_eliminate_14 : decode cX6_eliminate 14 = .ok (.aload_n 0, 1) := by decide +kernel
theorem dX6_eliminate_15 : decode cX6_eliminate 15 = .ok (.iconst 1, 1) := by decide +kernel
theorem dX6_eliminate_16 : decode cX6_eliminate 16 = .ok (.invokevirtual 83, 3) := by decide +kernel
theorem dX6_eliminate_19 : decode cX6_eliminate 19 = .ok (.ireturn, 1) := by decide +kernel
theorem dX6_eliminate_20 : decode cX6_eliminate 20 = .ok (.iconst 0, 1) := by decide +kernel
theorem dX6_eliminate_21 : decode cX6_eliminate 21 = .ok (.istore_n 2, 1) := by decide +kernel
theorem dX6_eliminate_22 : decode cX6_eliminate 22 = .ok (.iconst 5, 1) := by decide +kernel
theorem dX6_eliminate_23 : decode cX6_eliminate 23 = .ok (.istore_n 3, 1) := by decide +kernel
theorem dX6_eliminate_24 : decode cX6_eliminate 24 = .ok (.iload_n 3, 1) := by decide +kernel
theorem dX6_eliminate_25 : decode cX6_eliminate 25 = .ok (.ifCond .le 80, 3) := by decide +kernel
theorem dX6_eliminate_28 : decode cX6_eliminate 28 = .ok (.aload_n 0, 1) := by decide +kernel
theorem dX6_eliminate_29 : decode cX6_eliminate 29 = .ok (.getfield 7, 3) := by decide +kernel
theorem dX6_eliminate_32 : decode cX6_eliminate 32 = .ok (.iconst 1, 1) := by decide +kernel
theorem dX6_eliminate_33 : decode cX6_eliminate 33 = .ok (.iaload, 1) := by decide +kernel
theorem dX6_eliminate_34 : decode cX6_eliminate 34 = .ok (.iconst 1, 1) := by decide +kernel
