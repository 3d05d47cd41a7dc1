theorem dX2_init_0 : decode cX2_init 0 = .ok (.aload_n 0, 1) := by decide +kernel
theorem dX2_init_1 : decode cX2_init 1 = .ok (.invokespecial 3, 3) := by decide +kernel
theorem dX2_init_4 : decode cX2_init 4 = .ok (.aload_n 0, 1) := by decide +kernel
theorem dX2_init_5 : decode cX2_init 5 = .ok (.bipush 48, 2) := by decide +kernel
theorem dX2_init_7 : decode cX2_init 7 = .ok (.newarray .int, 2) := by decide +kernel
theorem dX2_init_9 : decode cX2_init 9 = .ok (.putfield 9, 3) := by decide +kernel
theorem dX2_init_12 : decode cX2_init 12 = .ok (.return_, 1) := by decide +kernel
set_option maxRecDepth 20000 in
theorem ggX2_greatestSum_X0_hasDependence : GoodIn wsX2_greatestSum wsX0_hasDependence := goodIn_r _ [6, 7, 73, 74, 75, 76, 77, 78, 79, 80, 81, 82, 83, 84] (by decide +kernel) (by decide +kernel)
set_option maxRecDepth 20000 in
theorem gX2_greatestSum_X0_hasDependence : GoodIn wsX2_greatestSum (wsV RX2 15 RX0 yX0_hasDependence wsX0_hasDependence) := goodIn_app (goodIn_of _ (by decide +kernel)) ggX2_greatestSum_X0_hasDependence
set_option maxRecDepth 20000 in
theorem ggX2_greatestSum_X0_positionOf : GoodIn wsX2_greatestSum wsX0_positionOf := goodIn_r _ [11, 12, 73, 74, 75, 76, 77, 78, 79, 80, 81, 82, 83, 84] (by decide +kernel) (by decide +kernel)
set_option maxRecDepth 20000 in
theorem gX2_greatestSum_X0_positionOf : GoodIn wsX2_greatestSum (wsV RX2 27 RX0 yX0_positionOf wsX0_positionOf) := goodIn_app (goodIn_of _ (by decide +kernel)) ggX2_greatestSum_X0_positionOf
set_option maxRecDepth 20000 in
theorem ggX2_greatestSum_X2_raise : GoodIn wsX2_greatestSum wsX2_raise := goodIn_r _ [17, 1, 18, 19, 20, 21, 22, 23, 16, 24, 85] (by decide +kernel) (by decide +kernel)
set_option maxRecDepth 20000 in
theorem gX2_greatestSum_X2_raise : GoodIn wsX2_greatestSum (wsV RX2 31 RX2 yX2_raise wsX2_raise) := goodIn_app (goodIn_of _ (by decide +kernel)) ggX2_greatestSum_X2_raise
set_option maxRecDepth 20000 in
theorem ggX2_greatestSum_X2_sumAt : GoodIn wsX2_greatestSum wsX2_sumAt := goodIn_r _ [28, 1, 22, 23, 16, 24, 85] (by decide +kernel) (by decide +kernel)
set_option maxRecDepth 20000 in
theorem gX2_greatestSum_X2_sumAt : GoodIn wsX2_greatestSum (wsV RX2 39 RX2 yX2_sumAt wsX2_sumAt) := goodIn_app (goodIn_of _ (by decide +kernel)) ggX2_greatestSum_X2_sumAt
set_option maxRecDepth 20000 in
theorem ggX2_greatestSum_X2_followBody : GoodIn wsX2_greatestSum wsX2_followBody := goodIn_r _ [32, 33, 34, 35, 5, 36, 37, 38, 39, 40, 41, 42, 43, 44, 45, 46, 47, 13, 14, 15, 16, 17, 1, 18, 19, 20, 21, 22, 23, 24, 73, 74, 75, 76, 77, 78, 79, 80, 81, 82, 83, 84, 85] (by decide +kernel) (by decide +kernel)
set_option maxRecDepth 20000 in
theorem gX2_greatestSum_X2_followBody : GoodIn wsX2_greatestSum (wsV RX2 43 RX2 yX2_followBody wsX2_followBody) := goodIn_app (goodIn_of _ (by decide +kernel)) ggX2_greatestSum_X2_followBody
set_option maxRecDepth 20000 in
theorem ggX2_greatestSum_X2_followSignals : GoodIn wsX2_greatestSum wsX2_followSignals := goodIn_r _ [51, 38, 39, 40, 5, 41, 42, 52, 53, 54, 55, 56, 57, 58, 3, 4, 6, 7, 8, 9, 10, 11, 12, 59, 60, 61, 62, 63, 64, 65, 66, 67, 19, 20, 21, 68, 44, 45, 46, 47, 13, 14, 15, 16, 17, 1, 18, 22, 23, 24, 73, 74, 75, 76, 77, 78, 79, 80, 81, 82, 83, 84, 85] (by decide +kernel) (by decide +kernel)
set_option maxRecDepth 20000 in
theorem gX2_greatestSum_X2_followSignals : GoodIn wsX2_greatestSum (wsV RX2 47 RX2 yX2_followSignals wsX2_followSignals) := goodIn_app (goodIn_of _ (by decide +kernel)) ggX2_greatestSum_X2_followSignals
set_option maxRecDepth 20000 in
theorem ggX2_greatestSum_X2_followProcessor : GoodIn wsX2_greatestSum wsX2_followProcessor := goodIn_r _ [72, 25, 26, 27, 16, 28, 1, 22, 23, 24, 38, 39, 40, 5, 41, 42, 43, 44, 45, 46, 47, 13, 14, 15, 17, 18, 19, 20, 21, 73, 74, 75, 76, 77, 78, 79, 80, 81, 82, 83, 84, 85] (by decide +kernel) (by decide +kernel)
set_option maxRecDepth 20000 in
theorem gX2_greatestSum_X2_followProcessor : GoodIn wsX2_greatestSum (wsV RX2 51 RX2 yX2_followProcessor wsX2_followProcessor) := goodIn_app (goodIn_of _ (by decide +kernel)) ggX2_greatestSum_X2_followProcessor
theorem dX2_greatestSum_0 : decode cX2_greatestSum 0 = .ok (.aload_n 1, 1) := by decide +kernel
theorem dX2_greatestSum_1 : decode cX2_greatestSum 1 = .ok (.iload_n 2, 1) := by decide +kernel
theorem dX2_greatestSum_2 : decode cX2_greatestSum 2 = .ok (.invokevirtual 15, 3) := by decide +kernel
theorem dX2_greatestSum_5 : decode cX2_greatestSum 5 = .ok (.ifCond .ne 5, 3) := by decide +kernel
theorem dX2_greatestSum_8 : decode cX2_greatestSum 8 = .ok (.iconst (-1), 1) := by decide +kernel
theorem dX2_greatestSum_9 : decode cX2_greatestSum 9 = .ok (.ireturn, 1) := by decide +kernel
theorem dX2_greatestSum_10 : decode cX2_greatestSum 10 = .ok (.aload_n 1, 1) := by decide +kernel
theorem dX2_greatestSum_11 : decode cX2_greatestSum 11 = .ok (.getfield 21, 3) := by decide +kernel
theorem dX2_greatestSum_14 : decode cX2_greatestSum 14 = .ok (.iload_n 2, 1) := by decide +kernel
theorem dX2_greatestSum_15 : decode cX2_greatestSum 15 = .ok (.iaload, 1) := by decide +kernel
theorem dX2_greatestSum_16 : decode cX2_greatestSum 16 = .ok (.istore 4, 2) := by decide +kernel
theorem dX2_greatestSum_18 : decode cX2_greatestSum 18 = .ok (.iconst 0, 1) := by decide +kernel
theorem dX2_greatestSum_19 : decode cX2_greatestSum 19 = .ok (.istore 5, 2) := by decide +kernel
theorem dX2_greatestSum_21 : decode cX2_greatestSum 21 = .ok (.iload 5, 2) := by decide +kernel
theorem dX2_greatestSum_23 : decode cX2_greatestSum 23 = .ok (.aload_n 0, 1) := by decide +kernel
theorem dX2_greatestSum_24 : decode cX2_greatestSum 24 = .ok (.getfield 9, 3) := by decide +kernel
theorem dX2_greatestSum_27 : decode cX2_greatestSum 27 = .ok (.arraylength, 1) := by decide +kernel
theorem dX2_greatestSum_28 : decode cX2_greatestSum 28 = .ok (.if_icmp .ge 17, 3) := by decide +kernel
theorem dX2_greatestSum_31 : decode cX2_greatestSum 31 = .ok (.aload_n 0, 1) := by decide +kernel
theorem dX2_greatestSum_32 : decode cX2_greatestSum 32 = .ok (.getfield 9, 3) := by decide +kernel
theorem dX2_greatestSum_35 : decode cX2_greatestSum 35 = .ok (.iload 5, 2) := by decide +kernel
theorem dX2_greatestSum_37 : decode cX2_greatestSum 37 = .ok (.iconst (-1), 1) := by decide +kernel
theorem dX2_greatestSum_38 : decode cX2_greatestSum 38 = .ok (.iastore, 1) := by decide +kernel
theorem dX2_greatestSum_39 : decode cX2_greatestSum 39 = .ok (.iinc 5 1, 3) := by decide +kernel
theorem dX2_greatestSum_42 : decode cX2_greatestSum 42 = .ok (.goto (-21), 3) := by decide +kernel
theorem dX2_greatestSum_45 : decode cX2_greatestSum 45 = .ok (.aload_n 0, 1) := by decide +kernel
theorem dX2_greatestSum_46 : decode cX2_greatestSum 46 = .ok (.iconst 0, 1) := by decide +kernel
theorem dX2_greatestSum_47 : decode cX2_greatestSum 47 = .ok (.aload_n 1, 1) := by decide +kernel
theorem dX2_greatestSum_48 : decode cX2_greatestSum 48 = .ok (.aload_n 1, 1) := by decide +kernel
theorem dX2_greatestSum_49 : decode cX2_greatestSum 49 = .ok (.getfield 24, 3) := by decide +kernel
theorem dX2_greatestSum_52 : decode cX2_greatestSum 52 = .ok (.iload_n 2, 1) := by decide +kernel
theorem dX2_greatestSum_53 : decode cX2_greatestSum 53 = .ok (.iaload, 1) := by decide +kernel
theorem dX2_greatestSum_54 : decode cX2_greatestSum 54 = .ok (.invokevirtual 27, 3) := by decide +kernel
theorem dX2_greatestSum_57 : decode cX2_greatestSum 57 = .ok (.iconst 0, 1) := by decide +kernel
theorem dX2_greatestSum_58 : decode cX2_greatestSum 58 = .ok (.invokevirtual 31, 3) := by decide +kernel
theorem dX2_greatestSum_61 : decode cX2_greatestSum 61 = .ok (.iconst 0, 1) := by decide +kernel
theorem dX2_greatestSum_62 : decode cX2_greatestSum 62 = .ok (.istore 5, 2) := by decide +kernel
theorem dX2_greatestSum_64 : decode cX2_greatestSum 64 = .ok (.iload 5, 2) := by decide +kernel
theorem dX2_greatestSum_66 : decode cX2_greatestSum 66 = .ok (.iload 4, 2) := by decide +kernel
theorem dX2_greatestSum_68 : decode cX2_greatestSum 68 = .ok (.if_icmp .gt 77, 3) := by decide +kernel
theorem dX2_greatestSum_71 : decode cX2_greatestSum 71 = .ok (.iconst 0, 1) := by decide +kernel
theorem dX2_greatestSum_72 : decode cX2_greatestSum 72 = .ok (.istore 6, 2) := by decide +kernel
theorem dX2_greatestSum_74 : decode cX2_greatestSum 74 = .ok (.iload 6, 2) := by decide +kernel
theorem dX2_greatestSum_76 : decode cX2_greatestSum 76 = .ok (.aload_n 1, 1) := by decide +kernel
theorem dX2_greatestSum_77 : decode cX2_greatestSum 77 = .ok (.getfield 35, 3) := by decide +kernel
theorem dX2_greatestSum_80 : decode cX2_greatestSum 80 = .ok (.if_icmp .ge 47, 3) := by decide +kernel
theorem dX2_greatestSum_83 : decode cX2_greatestSum 83 = .ok (.aload_n 0, 1) := by decide +kernel
theorem dX2_greatestSum_84 : decode cX2_greatestSum 84 = .ok (.iload 5, 2) := by decide +kernel
theorem dX2_greatestSum_86 : decode cX2_greatestSum 86 = .ok (.iload 6, 2) := by decide +kernel
theorem dX2_greatestSum_88 : decode cX2_greatestSum 88 = .ok (.invokevirtual 39, 3) := by decide +kernel
theorem dX2_greatestSum_91 : decode cX2_greatestSum 91 = .ok (.istore 7, 2) := by decide +kernel
theorem dX2_greatestSum_93 : decode cX2_greatestSum 93 = .ok (.iload 7, 2) := by decide +kernel
theorem dX2_greatestSum_95 : decode cX2_greatestSum 95 = .ok (.ifCond .lt 26, 3) := by decide +kernel
theorem dX2_greatestSum_98 : decode cX2_greatestSum 98 = .ok (.aload_n 0, 1) := by decide +kernel
theorem dX2_greatestSum_99 : decode cX2_greatestSum 99 = .ok (.aload_n 1, 1) := by decide +kernel
theorem dX2_greatestSum_100 : decode cX2_greatestSum 100 = .ok (.iload 5, 2) := by decide +kernel
theorem dX2_greatestSum_102 : decode cX2_greatestSum 102 = .ok (.iload 6, 2) := by decide +kernel
theorem dX2_greatestSum_104 : decode cX2_greatestSum 104 = .ok (.iload 7, 2) := by decide +kernel
theorem dX2_greatestSum_106 : decode cX2_greatestSum 106 = .ok (.invokevirtual 43, 3) := by decide +kernel
theorem dX2_greatestSum_109 : decode cX2_greatestSum 109 = .ok (.aload_n 0, 1) := by decide +kernel
theorem dX2_greatestSum_110 : decode cX2_greatestSum 110 = .ok (.aload_n 1, 1) := by decide +kernel
theorem dX2_greatestSum_111 : decode cX2_greatestSum 111 = .ok (.iload_n 2, 1) := by decide +kernel
theorem dX2_greatestSum_112 : decode cX2_greatestSum 112 = .ok (.iload 5, 2) := by decide +kernel
theorem dX2_greatestSum_114 : decode cX2_greatestSum 114 = .ok (.iload 6, 2) := by decide +kernel
theorem dX2_greatestSum_116 : decode cX2_greatestSum 116 = .ok (.iload 7, 2) := by decide +kernel
theorem dX2_greatestSum_118 : decode cX2_greatestSum 118 = .ok (.invokevirtual 47, 3) := by decide +kernel
theorem dX2_greatestSum_121 : decode cX2_greatestSum 121 = .ok (.iinc 6 1, 3) := by decide +kernel
theorem dX2_greatestSum_124 : decode cX2_greatestSum 124 = .ok (.goto (-50), 3) := by decide +kernel
theorem dX2_greatestSum_127 : decode cX2_greatestSum 127 = .ok (.iload_n 3, 1) := by decide +kernel
theorem dX2_greatestSum_128 : decode cX2_greatestSum 128 = .ok (.iconst 1, 1) := by decide +kernel
theorem dX2_greatestSum_129 : decode cX2_greatestSum 129 = .ok (.if_icmp .ne 10, 3) := by decide +kernel
theorem dX2_greatestSum_132 : decode cX2_greatestSum 132 = .ok (.aload_n 0, 1) := by decide +kernel
theorem dX2_greatestSum_133 : decode cX2_greatestSum 133 = .ok (.aload_n 1, 1) := by decide +kernel
theorem dX2_greatestSum_134 : decode cX2_greatestSum 134 = .ok (.iload 5, 2) := by decide +kernel
theorem dX2_greatestSum_136 : decode cX2_greatestSum 136 = .ok (.invokevirtual 51, 3) := by decide +kernel
theorem dX2_greatestSum_139 : decode cX2_greatestSum 139 = .ok (.iinc 5 1, 3) := by decide +kernel
theorem dX2_greatestSum_142 : decode cX2_greatestSum 142 = .ok (.goto (-78), 3) := by decide +kernel
theorem dX2_greatestSum_145 : decode cX2_greatestSum 145 = .ok (.aload_n 0, 1) := by decide +kernel
theorem dX2_greatestSum_146 : decode cX2_greatestSum 146 = .ok (.iload 4, 2) := by decide +kernel
theorem dX2_greatestSum_148 : decode cX2_greatestSum 148 = .ok (.aload_n 1, 1) := by decide +kernel
theorem dX2_greatestSum_149 : decode cX2_greatestSum 149 = .ok (.aload_n 1, 1) := by decide +kernel
theorem dX2_greatestSum_150 : decode cX2_greatestSum 150 = .ok (.getfield 55, 3) := by decide +kernel
theorem dX2_greatestSum_153 : decode cX2_greatestSum 153 = .ok (.iload_n 2, 1) := by decide +kernel
theorem dX2_greatestSum_154 : decode cX2_greatestSum 154 = .ok (.iaload, 1) := by decide +kernel
theorem dX2_greatestSum_155 : decode cX2_greatestSum 155 = .ok (.invokevirtual 27, 3) := by decide +kernel
theorem dX2_greatestSum_158 : decode cX2_greatestSum 158 = .ok (.invokevirtual 39, 3) := by decide +kernel
theorem dX2_greatestSum_161 : decode cX2_greatestSum 161 = .ok (.ireturn, 1) := by decide +kernel
set_option maxRecDepth 20000 in
theorem ggX2_followBody_X0_hasPosition : GoodIn wsX2_followBody wsX0_hasPosition := goodIn_r _ [5, 6, 30, 31, 32, 33, 34, 35, 36, 37, 38, 39, 40, 41] (by decide +kernel) (by decide +kernel)
set_option maxRecDepth 20000 in
theorem gX2_followBody_X0_hasPosition : GoodIn wsX2_followBody (wsV RX2 58 RX0 yX0_hasPosition wsX0_hasPosition) := goodIn_app (goodIn_of _ (by decide +kernel)) ggX2_followBody_X0_hasPosition
set_option maxRecDepth 20000 in
theorem ggX2_followBody_X0_statementAt : GoodIn wsX2_followBody wsX0_statementAt := goodIn_r _ [10, 11, 30, 31, 32, 33, 34, 35, 36, 37, 38, 39, 40, 41] (by decide +kernel) (by decide +kernel)
set_option maxRecDepth 20000 in
theorem gX2_followBody_X0_statementAt : GoodIn wsX2_followBody (wsV RX2 61 RX0 yX0_statementAt wsX0_statementAt) := goodIn_app (goodIn_of _ (by decide +kernel)) ggX2_followBody_X0_statementAt
set_option maxRecDepth 20000 in
theorem ggX2_followBody_X0_costOf : GoodIn wsX2_followBody wsX0_costOf := goodIn_r _ [15, 16, 30, 31, 32, 33, 34, 35, 36, 37, 38, 39, 40, 41] (by decide +kernel) (by decide +kernel)
set_option maxRecDepth 20000 in
theorem gX2_followBody_X0_costOf : GoodIn wsX2_followBody (wsV RX2 64 RX0 yX0_costOf wsX0_costOf) := goodIn_app (goodIn_of _ (by decide +kernel)) ggX2_followBody_X0_costOf
set_option maxRecDepth 20000 in
theorem ggX2_followBody_X2_raise : GoodIn wsX2_followBody wsX2_raise := goodIn_r _ [21, 22, 23, 24, 25, 26, 27, 28, 20, 29, 42] (by decide +kernel) (by decide +kernel)
set_option maxRecDepth 20000 in
theorem gX2_followBody_X2_raise : GoodIn wsX2_followBody (wsV RX2 31 RX2 yX2_raise wsX2_raise) := goodIn_app (goodIn_of _ (by decide +kernel)) ggX2_followBody_X2_raise
theorem dX2_followBody_0 : decode cX2_followBody 0 = .ok (.aload_n 1, 1) := by decide +kernel
theorem dX2_followBody_1 : decode cX2_followBody 1 = .ok (.iload_n 3, 1) := by decide +kernel
theorem dX2_followBody_2 : decode cX2_followBody 2 = .ok (.iconst 1, 1) := by decide +kernel
theorem dX2_followBody_3 : decode cX2_followBody 3 = .ok (.iadd, 1) := by decide +kernel
theorem dX2_followBody_4 : decode cX2_followBody 4 = .ok (.invokevirtual 58, 3) := by decide +kernel
theorem dX2_followBody_7 : decode cX2_followBody 7 = .ok (.ifCond .eq 23, 3) := by decide +kernel
theorem dX2_followBody_10 : decode cX2_followBody 10 = .ok (.aload_n 0, 1) := by decide +kernel
theorem dX2_followBody_11 : decode cX2_followBody 11 = .ok (.iload_n 2, 1) := by decide +kernel
theorem dX2_followBody_12 : decode cX2_followBody 12 = .ok (.iload_n 3, 1) := by decide +kernel
theorem dX2_followBody_13 : decode cX2_followBody 13 = .ok (.iconst 1, 1) := by decide +kernel
theorem dX2_followBody_14 : decode cX2_followBody 14 = .ok (.iadd, 1) := by decide +kernel
theorem dX2_followBody_15 : decode cX2_followBody 15 = .ok (.iload 4, 2) := by decide +kernel
theorem dX2_followBody_17 : decode cX2_followBody 17 = .ok (.aload_n 1, 1) := by decide +kernel
theorem dX2_followBody_18 : decode cX2_followBody 18 = .ok (.aload_n 1, 1) := by decide +kernel
theorem dX2_followBody_19 : decode cX2_followBody 19 = .ok (.iload_n 3, 1) := by decide +kernel
theorem dX2_followBody_20 : decode cX2_followBody 20 = .ok (.invokevirtual 61, 3) := by decide +kernel
theorem dX2_followBody_23 : decode cX2_followBody 23 = .ok (.invokevirtual 64, 3) := by decide +kernel
theorem dX2_followBody_26 : decode cX2_followBody 26 = .ok (.iadd, 1) := by decide +kernel
theorem dX2_followBody_27 : decode cX2_followBody 27 = .ok (.invokevirtual 31, 3) := by decide +kernel
theorem dX2_followBody_30 : decode cX2_followBody 30 = .ok (.return_, 1) := by decide +kernel
set_option maxRecDepth 20000 in
theorem ggX2_followSignals_X0_statementAt : GoodIn wsX2_followSignals wsX0_statementAt := goodIn_r _ [5, 6, 50, 51, 52, 53, 54, 55, 56, 57, 58, 59, 60, 61] (by decide +kernel) (by decide +kernel)
set_option maxRecDepth 20000 in
theorem gX2_followSignals_X0_statementAt : GoodIn wsX2_followSignals (wsV RX2 61 RX0 yX0_statementAt wsX0_statementAt) := goodIn_app (goodIn_of _ (by decide +kernel)) ggX2_followSignals_X0_statementAt
set_option maxRecDepth 20000 in
theorem ggX2_followSignals_X0_isSignalled : GoodIn wsX2_followSignals wsX0_isSignalled := goodIn_r _ [10, 11, 12, 13, 14, 15, 4, 16, 17, 50, 51, 52, 53, 54, 55, 56, 57, 58, 59, 60, 61] (by decide +kernel) (by decide +kernel)
set_option maxRecDepth 20000 in
theorem gX2_followSignals_X0_isSignalled : GoodIn wsX2_followSignals (wsV RX2 70 RX0 yX0_isSignalled wsX0_isSignalled) := goodIn_app (goodIn_of _ (by decide +kernel)) ggX2_followSignals_X0_isSignalled
set_option maxRecDepth 20000 in
theorem ggX2_followSignals_X0_positionOf : GoodIn wsX2_followSignals wsX0_positionOf := goodIn_r _ [21, 22, 50, 51, 52, 53, 54, 55, 56, 57, 58, 59, 60, 61] (by decide +kernel) (by decide +kernel)
set_option maxRecDepth 20000 in
theorem gX2_followSignals_X0_positionOf : GoodIn wsX2_followSignals (wsV RX2 27 RX0 yX0_positionOf wsX0_positionOf) := goodIn_app (goodIn_of _ (by decide +kernel)) ggX2_followSignals_X0_positionOf
set_option maxRecDepth 20000 in
theorem ggX2_followSignals_X0_lagOf : GoodIn wsX2_followSignals wsX0_lagOf := goodIn_r _ [26, 27, 28, 29, 30, 31, 32, 33, 34, 13, 14, 15, 4, 16, 17, 35, 36, 37, 38, 39, 50, 51, 52, 53, 54, 55, 56, 57, 58, 59, 60, 61] (by decide +kernel) (by decide +kernel)
set_option maxRecDepth 20000 in
theorem gX2_followSignals_X0_lagOf : GoodIn wsX2_followSignals (wsV RX2 73 RX0 yX0_lagOf wsX0_lagOf) := goodIn_app (goodIn_of _ (by decide +kernel)) ggX2_followSignals_X0_lagOf
set_option maxRecDepth 20000 in
theorem ggX2_followSignals_X2_raise : GoodIn wsX2_followSignals wsX2_raise := goodIn_r _ [44, 45, 46, 32, 33, 34, 47, 48, 43, 49, 62] (by decide +kernel) (by decide +kernel)
set_option maxRecDepth 20000 in
theorem gX2_followSignals_X2_raise : GoodIn wsX2_followSignals (wsV RX2 31 RX2 yX2_raise wsX2_raise) := goodIn_app (goodIn_of _ (by decide +kernel)) ggX2_followSignals_X2_raise
theorem dX2_followSignals_0 : decode cX2_followSignals 0 = .ok (.aload_n 1, 1) := by decide +kernel
theorem dX2_followSignals_1 : decode cX2_followSignals 1 = .ok (.iload 4, 2) := by decide +kernel
theorem dX2_followSignals_3 : decode cX2_followSignals 3 = .ok (.invokevirtual 61, 3) := by decide +kernel
theorem dX2_followSignals_6 : decode cX2_followSignals 6 = .ok (.istore 6, 2) := by decide +kernel
theorem dX2_followSignals_8 : decode cX2_followSignals 8 = .ok (.iconst 0, 1) := by decide +kernel
theorem dX2_followSignals_9 : decode cX2_followSignals 9 = .ok (.istore 7, 2) := by decide +kernel
theorem dX2_followSignals_11 : decode cX2_followSignals 11 = .ok (.iload 7, 2) := by decide +kernel
theorem dX2_followSignals_13 : decode cX2_followSignals 13 = .ok (.aload_n 1, 1) := by decide +kernel
theorem dX2_followSignals_14 : decode cX2_followSignals 14 = .ok (.getfield 67, 3) := by decide +kernel
theorem dX2_followSignals_17 : decode cX2_followSignals 17 = .ok (.if_icmp .ge 69, 3) := by decide +kernel
theorem dX2_followSignals_20 : decode cX2_followSignals 20 = .ok (.iload 7, 2) := by decide +kernel
theorem dX2_followSignals_22 : decode cX2_followSignals 22 = .ok (.iload_n 2, 1) := by decide +kernel
theorem dX2_followSignals_23 : decode cX2_followSignals 23 = .ok (.if_icmp .eq 57, 3) := by decide +kernel
theorem dX2_followSignals_26 : decode cX2_followSignals 26 = .ok (.aload_n 1, 1) := by decide +kernel
theorem dX2_followSignals_27 : decode cX2_followSignals 27 = .ok (.getfield 24, 3) := by decide +kernel
theorem dX2_followSignals_30 : decode cX2_followSignals 30 = .ok (.iload 7, 2) := by decide +kernel
theorem dX2_followSignals_32 : decode cX2_followSignals 32 = .ok (.iaload, 1) := by decide +kernel
theorem dX2_followSignals_33 : decode cX2_followSignals 33 = .ok (.iload 6, 2) := by decide +kernel
theorem dX2_followSignals_35 : decode cX2_followSignals 35 = .ok (.if_icmp .ne 45, 3) := by decide +kernel
theorem dX2_followSignals_38 : decode cX2_followSignals 38 = .ok (.aload_n 1, 1) := by decide +kernel
theorem dX2_followSignals_39 : decode cX2_followSignals 39 = .ok (.iload 7, 2) := by decide +kernel
theorem dX2_followSignals_41 : decode cX2_followSignals 41 = .ok (.invokevirtual 70, 3) := by decide +kernel
theorem dX2_followSignals_44 : decode cX2_followSignals 44 = .ok (.ifCond .eq 36, 3) := by decide +kernel
theorem dX2_followSignals_47 : decode cX2_followSignals 47 = .ok (.aload_n 0, 1) := by decide +kernel
theorem dX2_followSignals_48 : decode cX2_followSignals 48 = .ok (.iload_n 3, 1) := by decide +kernel
theorem dX2_followSignals_49 : decode cX2_followSignals 49 = .ok (.aload_n 1, 1) := by decide +kernel
theorem dX2_followSignals_50 : decode cX2_followSignals 50 = .ok (.getfield 21, 3) := by decide +kernel
theorem dX2_followSignals_53 : decode cX2_followSignals 53 = .ok (.iload 7, 2) := by decide +kernel
theorem dX2_followSignals_55 : decode cX2_followSignals 55 = .ok (.iaload, 1) := by decide +kernel
theorem dX2_followSignals_56 : decode cX2_followSignals 56 = .ok (.iadd, 1) := by decide +kernel
theorem dX2_followSignals_57 : decode cX2_followSignals 57 = .ok (.aload_n 1, 1) := by decide +kernel
theorem dX2_followSignals_58 : decode cX2_followSignals 58 = .ok (.aload_n 1, 1) := by decide +kernel
theorem dX2_followSignals_59 : decode cX2_followSignals 59 = .ok (.getfield 55, 3) := by decide +kernel
theorem dX2_followSignals_62 : decode cX2_followSignals 62 = .ok (.iload 7, 2) := by decide +kernel
theorem dX2_followSignals_64 : decode cX2_followSignals 64 = .ok (.iaload, 1) := by decide +kernel
theorem dX2_followSignals_65 : decode cX2_followSignals 65 = .ok (.invokevirtual 27, 3) := by decide +kernel
theorem dX2_followSignals_68 : decode cX2_followSignals 68 = .ok (.iload 5, 2) := by decide +kernel
theorem dX2_followSignals_70 : decode cX2_followSignals 70 = .ok (.aload_n 1, 1) := by decide +kernel
theorem dX2_followSignals_71 : decode cX2_followSignals 71 = .ok (.iload 7, 2) := by decide +kernel
theorem dX2_followSignals_73 : decode cX2_followSignals 73 = .ok (.invokevirtual 73, 3) := by decide +kernel
theorem dX2_followSignals_76 : decode cX2_followSignals 76 = .ok (.iadd, 1) := by decide +kernel
theorem dX2_followSignals_77 : decode cX2_followSignals 77 = .ok (.invokevirtual 31, 3) := by decide +kernel
theorem dX2_followSignals_80 : decode cX2_followSignals 80 = .ok (.iinc 7 1, 3) := by decide +kernel
theorem dX2_followSignals_83 : decode cX2_followSignals 83 = .ok (.goto (-72), 3) := by decide +kernel
theorem dX2_followSignals_86 : decode cX2_followSignals 86 = .ok (.return_, 1) := by decide +kernel
set_option maxRecDepth 20000 in
theorem ggX2_followProcessor_X2_sumAt : GoodIn wsX2_followProcessor wsX2_sumAt := goodIn_r _ [5, 6, 7, 8, 4, 9, 41] (by decide +kernel) (by decide +kernel)
set_option maxRecDepth 20000 in
theorem gX2_followProcessor_X2_sumAt : GoodIn wsX2_followProcessor (wsV RX2 39 RX2 yX2_sumAt wsX2_sumAt) := goodIn_app (goodIn_of _ (by decide +kernel)) ggX2_followProcessor_X2_sumAt
set_option maxRecDepth 20000 in
theorem ggX2_followProcessor_X0_statementAt : GoodIn wsX2_followProcessor wsX0_statementAt := goodIn_r _ [14, 15, 29, 30, 31, 32, 33, 34, 35, 36, 37, 38, 39, 40] (by decide +kernel) (by decide +kernel)
set_option maxRecDepth 20000 in
theorem gX2_followProcessor_X0_statementAt : GoodIn wsX2_followProcessor (wsV RX2 61 RX0 yX0_statementAt wsX0_statementAt) := goodIn_app (goodIn_of _ (by decide +kernel)) ggX2_followProcessor_X0_statementAt
set_option maxRecDepth 20000 in
theorem ggX2_followProcessor_X0_costOf : GoodIn wsX2_followProcessor wsX0_costOf := goodIn_r _ [19, 20, 29, 30, 31, 32, 33, 34, 35, 36, 37, 38, 39, 40] (by decide +kernel) (by decide +kernel)
set_option maxRecDepth 20000 in
theorem gX2_followProcessor_X0_costOf : GoodIn wsX2_followProcessor (wsV RX2 64 RX0 yX0_costOf wsX0_costOf) := goodIn_app (goodIn_of _ (by decide +kernel)) ggX2_followProcessor_X0_costOf
set_option maxRecDepth 20000 in
theorem ggX2_followProcessor_X2_raise : GoodIn wsX2_followProcessor wsX2_raise := goodIn_r _ [24, 6, 25, 26, 27, 28, 7, 8, 4, 9, 41] (by decide +kernel) (by decide +kernel)
set_option maxRecDepth 20000 in
theorem gX2_followProcessor_X2_raise : GoodIn wsX2_followProcessor (wsV RX2 31 RX2 yX2_raise wsX2_raise) := goodIn_app (goodIn_of _ (by decide +kernel)) ggX2_followProcessor_X2_raise
theorem dX2_followProcessor_0 : decode cX2_followProcessor 0 = .ok (.aload_n 1, 1) := by decide +kernel
theorem dX2_followProcessor_1 : decode cX2_followProcessor 1 = .ok (.getfield 35, 3) := by decide +kernel
theorem dX2_followProcessor_4 : decode cX2_followProcessor 4 = .ok (.iconst 1, 1) := by decide +kernel
theorem dX2_followProcessor_5 : decode cX2_followProcessor 5 = .ok (.isub, 1) := by decide +kernel
theorem dX2_followProcessor_6 : decode cX2_followProcessor 6 = .ok (.istore_n 3, 1) := by decide +kernel
theorem dX2_followProcessor_7 : decode cX2_followProcessor 7 = .ok (.aload_n 0, 1) := by decide +kernel
theorem dX2_followProcessor_8 : decode cX2_followProcessor 8 = .ok (.iload_n 2, 1) := by decide +kernel
theorem dX2_followProcessor_9 : decode cX2_followProcessor 9 = .ok (.iload_n 3, 1) := by decide +kernel
theorem dX2_followProcessor_10 : decode cX2_followProcessor 10 = .ok (.invokevirtual 39, 3) := by decide +kernel
theorem dX2_followProcessor_13 : decode cX2_followProcessor 13 = .ok (.istore 4, 2) := by decide +kernel
theorem dX2_followProcessor_15 : decode cX2_followProcessor 15 = .ok (.iload 4, 2) := by decide +kernel
theorem dX2_followProcessor_17 : decode cX2_followProcessor 17 = .ok (.ifCond .lt 28, 3) := by decide +kernel
theorem dX2_followProcessor_20 : decode cX2_followProcessor 20 = .ok (.aload_n 0, 1) := by decide +kernel
theorem dX2_followProcessor_21 : decode cX2_followProcessor 21 = .ok (.iload_n 2, 1) := by decide +kernel
theorem dX2_followProcessor_22 : decode cX2_followProcessor 22 = .ok (.aload_n 1, 1) := by decide +kernel
theorem dX2_followProcessor_23 : decode cX2_followProcessor 23 = .ok (.getfield 76, 3) := by decide +kernel
theorem dX2_followProcessor_26 : decode cX2_followProcessor 26 = .ok (.iconst 2, 1) := by decide +kernel
theorem dX2_followProcessor_27 : decode cX2_followProcessor 27 = .ok (.iaload, 1) := by decide +kernel
theorem dX2_followProcessor_28 : decode cX2_followProcessor 28 = .ok (.iadd, 1) := by decide +kernel
theorem dX2_followProcessor_29 : decode cX2_followProcessor 29 = .ok (.iconst 0, 1) := by decide +kernel
theorem dX2_followProcessor_30 : decode cX2_followProcessor 30 = .ok (.iload 4, 2) := by decide +kernel
theorem dX2_followProcessor_32 : decode cX2_followProcessor 32 = .ok (.aload_n 1, 1) := by decide +kernel
theorem dX2_followProcessor_33 : decode cX2_followProcessor 33 = .ok (.aload_n 1, 1) := by decide +kernel
theorem dX2_followProcessor_34 : decode cX2_followProcessor 34 = .ok (.iload_n 3, 1) := by decide +kernel
theorem dX2_followProcessor_35 : decode cX2_followProcessor 35 = .ok (.invokevirtual 61, 3) := by decide +kernel
theorem dX2_followProcessor_38 : decode cX2_followProcessor 38 = .ok (.invokevirtual 64, 3) := by decide +kernel
theorem dX2_followProcessor_41 : decode cX2_followProcessor 41 = .ok (.iadd, 1) := by decide +kernel
theorem dX2_followProcessor_42 : decode cX2_followProcessor 42 = .ok (.invokevirtual 31, 3) := by decide +kernel
theorem dX2_followProcessor_45 : decode cX2_followProcessor 45 = .ok (.return_, 1) := by decide +kernel
theorem dX2_isNode_0 : decode cX2_isNode 0 = .ok (.iload_n 0, 1) := by decide +kernel
theorem dX2_isNode_1 : decode cX2_isNode 1 = .ok (.ifCond .lt 22, 3) := by decide +kernel
theorem dX2_isNode_4 : decode cX2_isNode 4 = .ok (.iload_n 0, 1) := by decide +kernel
theorem dX2_isNode_5 : decode cX2_isNode 5 = .ok (.iconst 5, 1) := by decide +kernel
theorem dX2_isNode_6 : decode cX2_isNode 6 = .ok (.if_icmp .gt 17, 3) := by decide +kernel
theorem dX2_isNode_9 : decode cX2_isNode 9 = .ok (.iload_n 1, 1) := by decide +kernel
theorem dX2_isNode_10 : decode cX2_isNode 10 = .ok (.ifCond .lt 13, 3) := by decide +kernel
theorem dX2_isNode_13 : decode cX2_isNode 13 = .ok (.iload_n 1, 1) := by decide +kernel
theorem dX2_isNode_14 : decode cX2_isNode 14 = .ok (.bipush 8, 2) := by decide +kernel
theorem dX2_isNode_16 : decode cX2_isNode 16 = .ok (.if_icmp .ge 7, 3) := by decide +kernel
theorem dX2_isNode_19 : decode cX2_isNode 19 = .ok (.iconst 1, 1) := by decide +kernel
theorem dX2_isNode_20 : decode cX2_isNode 20 = .ok (.goto 4, 3) := by decide +kernel
theorem dX2_isNode_23 : decode cX2_isNode 23 = .ok (.iconst 0, 1) := by decide +kernel
theorem dX2_isNode_24 : decode cX2_isNode 24 = .ok (.ireturn, 1) := by decide +kernel
set_option maxRecDepth 20000 in
theorem ggX2_sumAt_X2_isNode : GoodIn wsX2_sumAt wsX2_isNode := goodIn_r _ [5] (by decide +kernel) (by decide +kernel)
set_option maxRecDepth 20000 in
theorem gX2_sumAt_X2_isNode : GoodIn wsX2_sumAt (va_wsS RX2 79 yX2_isNode wsX2_isNode) := goodIn_app (goodIn_of _ (by decide +kernel)) ggX2_sumAt_X2_isNode
theorem dX2_sumAt_0 : decode cX2_sumAt 0 = .ok (.iload_n 1, 1) := by decide +kernel
theorem dX2_sumAt_1 : decode cX2_sumAt 1 = .ok (.iload_n 2, 1) := by decide +kernel
theorem dX2_sumAt_2 : decode cX2_sumAt 2 = .ok (.invokestatic 79, 3) := by decide +kernel
theorem dX2_sumAt_5 : decode cX2_sumAt 5 = .ok (.ifCond .eq 17, 3) := by decide +kernel
theorem dX2_sumAt_8 : decode cX2_sumAt 8 = .ok (.aload_n 0, 1) := by decide +kernel
theorem dX2_sumAt_9 : decode cX2_sumAt 9 = .ok (.getfield 9, 3) := by decide +kernel
theorem dX2_sumAt_12 : decode cX2_sumAt 12 = .ok (.iload_n 1, 1) := by decide +kernel
theorem dX2_sumAt_13 : decode cX2_sumAt 13 = .ok (.bipush 8, 2) := by decide +kernel
theorem dX2_sumAt_15 : decode cX2_sumAt 15 = .ok (.imul, 1) := by decide +kernel
theorem dX2_sumAt_16 : decode cX2_sumAt 16 = .ok (.iload_n 2, 1) := by decide +kernel
theorem dX2_sumAt_17 : decode cX2_sumAt 17 = .ok (.iadd, 1) := by decide +kernel
theorem dX2_sumAt_18 : decode cX2_sumAt 18 = .ok (.iaload, 1) := by decide +kernel
theorem dX2_sumAt_19 : decode cX2_sumAt 19 = .ok (.goto 4, 3) := by decide +kernel
theorem dX2_sumAt_22 : decode cX2_sumAt 22 = .ok (.iconst (-1), 1) := by decide +kernel
theorem dX2_sumAt_23 : decode cX2_sumAt 23 = .ok (.ireturn, 1) := by decide +kernel
set_option maxRecDepth 20000 in
theorem ggX2_raise_X2_isNode : GoodIn wsX2_raise wsX2_isNode := goodIn_r _ [9] (by decide +kernel) (by decide +kernel)
set_option maxRecDepth 20000 in
theorem gX2_raise_X2_isNode : GoodIn wsX2_raise (va_wsS RX2 79 yX2_isNode wsX2_isNode) := goodIn_app (goodIn_of _ (by decide +kernel)) ggX2_raise_X2_isNode
theorem dX2_raise_0 : decode cX2_raise 0 = .ok (.iload_n 1, 1) := by decide +kernel
theorem dX2_raise_1 : decode cX2_raise 1 = .ok (.iload_n 2, 1) := by decide +kernel
theorem dX2_raise_2 : decode cX2_raise 2 = .ok (.invokestatic 79, 3) := by decide +kernel
theorem dX2_raise_5 : decode cX2_raise 5 = .ok (.ifCond .eq 29, 3) := by decide +kernel
theorem dX2_raise_8 : decode cX2_raise 8 = .ok (.iload_n 1, 1) := by decide +kernel
theorem dX2_raise_9 : decode cX2_raise 9 = .ok (.bipush 8, 2) := by decide +kernel
theorem dX2_raise_11 : decode cX2_raise 11 = .ok (.imul, 1) := by decide +kernel
theorem dX2_raise_12 : decode cX2_raise 12 = .ok (.iload_n 2, 1) := by decide +kernel
theorem dX2_raise_13 : decode cX2_raise 13 = .ok (.iadd, 1) := by decide +kernel
theorem dX2_raise_14 : decode cX2_raise 14 = .ok (.istore 4, 2) := by decide +kernel
theorem dX2_raise_16 : decode cX2_raise 16 = .ok (.aload_n 0, 1) := by decide +kernel
theorem dX2_raise_17 : decode cX2_raise 17 = .ok (.getfield 9, 3) := by decide +kernel
theorem dX2_raise_20 : decode cX2_raise 20 = .ok (.iload 4, 2) := by decide +kernel
theorem dX2_raise_22 : decode cX2_raise 22 = .ok (.aload_n 0, 1) := by decide +kernel
theorem dX2_raise_23 : decode cX2_raise 23 = .ok (.getfield 9, 3) := by decide +kernel
theorem dX2_raise_26 : decode cX2_raise 26 = .ok (.iload 4, 2) := by decide +kernel
theorem dX2_raise_28 : decode cX2_raise 28 = .ok (.iaload, 1) := by decide +kernel
theorem dX2_raise_29 : decode cX2_raise 29 = .ok (.iload_n 3, 1) := by decide +kernel
theorem dX2_raise_30 : decode cX2_raise 30 = .ok (.invokestatic 83, 3) := by decide +kernel
theorem dX2_raise_33 : decode cX2_raise 33 = .ok (.iastore, 1) := by decide +kernel
theorem dX2_raise_34 : decode cX2_raise 34 = .ok (.return_, 1) := by decide +kernel
theorem dX3_init_0 : decode cX3_init 0 = .ok (.aload_n 0, 1) := by decide +kernel
theorem dX3_init_1 : decode cX3_init 1 = .ok (.invokespecial 3, 3) := by decide +kernel
theorem dX3_init_4 : decode cX3_init 4 = .ok (.aload_n 0, 1) := by decide +kernel
theorem dX3_init_5 : decode cX3_init 5 = .ok (.sipush 320, 3) := by decide +kernel
theorem dX3_init_8 : decode cX3_init 8 = .ok (.newarray .int, 2) := by decide +kernel
theorem dX3_init_10 : decode cX3_init 10 = .ok (.putfield 9, 3) := by decide +kernel
theorem dX3_init_13 : decode cX3_init 13 = .ok (.aload_n 0, 1) := by decide +kernel
theorem dX3_init_14 : decode cX3_init 14 = .ok (.bipush 40, 2) := by decide +kernel
theorem dX3_init_16 : decode cX3_init 16 = .ok (.newarray .int, 2) := by decide +kernel
theorem dX3_init_18 : decode cX3_init 18 = .ok (.putfield 15, 3) := by decide +kernel
theorem dX3_init_21 : decode cX3_init 21 = .ok (.aload_n 0, 1) := by decide +kernel
theorem dX3_init_22 : decode cX3_init 22 = .ok (.bipush 6, 2) := by decide +kernel
theorem dX3_init_24 : decode cX3_init 24 = .ok (.newarray .int, 2) := by decide +kernel
theorem dX3_init_26 : decode cX3_init 26 = .ok (.putfield 18, 3) := by decide +kernel
theorem dX3_init_29 : decode cX3_init 29 = .ok (.aload_n 0, 1) := by decide +kernel
theorem dX3_init_30 : decode cX3_init 30 = .ok (.bipush 6, 2) := by decide +kernel
theorem dX3_init_32 : decode cX3_init 32 = .ok (.newarray .int, 2) := by decide +kernel
theorem dX3_init_34 : decode cX3_init 34 = .ok (.putfield 21, 3) := by decide +kernel
theorem dX3_init_37 : decode cX3_init 37 = .ok (.aload_n 0, 1) := by decide +kernel
theorem dX3_init_38 : decode cX3_init 38 = .ok (.bipush 6, 2) := by decide +kernel
theorem dX3_init_40 : decode cX3_init 40 = .ok (.newarray .int, 2) := by decide +kernel
theorem dX3_init_42 : decode cX3_init 42 = .ok (.putfield 24, 3) := by decide +kernel
theorem dX3_init_45 : decode cX3_init 45 = .ok (.aload_n 0, 1) := by decide +kernel
theorem dX3_init_46 : decode cX3_init 46 = .ok (.bipush 6, 2) := by decide +kernel
theorem dX3_init_48 : decode cX3_init 48 = .ok (.newarray .int, 2) := by decide +kernel
theorem dX3_init_50 : decode cX3_init 50 = .ok (.putfield 27, 3) := by decide +kernel
theorem dX3_init_53 : decode cX3_init 53 = .ok (.return_, 1) := by decide +kernel
set_option maxRecDepth 20000 in
theorem ggX3_simulate_X3_choose : GoodIn wsX3_simulate wsX3_choose := goodIn_r _ [11, 12, 13, 14, 10, 15, 5, 79, 80, 81, 82, 83, 84, 85, 86, 87, 88, 89, 90, 72, 73, 74, 75, 76, 77, 78] (by decide +kernel) (by decide +kernel)
set_option maxRecDepth 20000 in
theorem gX3_simulate_X3_choose : GoodIn wsX3_simulate (wsV RX3 39 RX3 yX3_choose wsX3_choose) := goodIn_app (goodIn_of _ (by decide +kernel)) ggX3_simulate_X3_choose
set_option maxRecDepth 20000 in
theorem ggX3_simulate_X3_runIteration : GoodIn wsX3_simulate wsX3_runIteration := goodIn_r _ [19, 5, 20, 21, 22, 23, 2, 3, 4, 1, 24, 25, 26, 27, 28, 29, 30, 31, 32, 10, 33, 34, 35, 36, 37, 38, 39, 40, 41, 42, 43, 44, 45, 46, 47, 48, 49, 50, 51, 52, 53, 54, 55, 56, 57, 58, 59, 60, 61, 62, 63, 64, 65, 66, 67, 68, 69, 70, 71, 79, 80, 81, 82, 83, 84, 85, 86, 87, 88, 89, 90, 72, 73, 74, 75, 76, 77, 78] (by decide +kernel) (by decide +kernel)
set_option maxRecDepth 20000 in
theorem gX3_simulate_X3_runIteration : GoodIn wsX3_simulate (wsV RX3 43 RX3 yX3_runIteration wsX3_runIteration) := goodIn_app (goodIn_of _ (by decide +kernel)) ggX3_simulate_X3_runIteration
theorem dX3_simulate_0 : decode cX3_simulate 0 = .ok (.aload_n 0, 1) := by decide +kernel
theorem dX3_simulate_1 : decode cX3_simulate 1 = .ok (.iconst 0, 1) := by decide +kernel
theorem dX3_simulate_2 : decode cX3_simulate 2 = .ok (.putfield 30, 3) := by decide +kernel
theorem dX3_simulate_5 : decode cX3_simulate 5 = .ok (.iconst 0, 1) := by decide +kernel
theorem dX3_simulate_6 : decode cX3_simulate 6 = .ok (.istore_n 3, 1) := by decide +kernel
theorem dX3_simulate_7 : decode cX3_simulate 7 = .ok (.iload_n 3, 1) := by decide +kernel
theorem dX3_simulate_8 : decode cX3_simulate 8 = .ok (.bipush 6, 2) := by decide +kernel
theorem dX3_simulate_10 : decode cX3_simulate 10 = .ok (.if_icmp .ge 37, 3) := by decide +kernel
theorem dX3_simulate_13 : decode cX3_simulate 13 = .ok (.aload_n 0, 1) := by decide +kernel
theorem dX3_simulate_14 : decode cX3_simulate 14 = .ok (.getfield 18, 3) := by decide +kernel
theorem dX3_simulate_17 : decode cX3_simulate 17 = .ok (.iload_n 3, 1) := by decide +kernel
theorem dX3_simulate_18 : decode cX3_simulate 18 = .ok (.iconst 0, 1) := by decide +kernel
theorem dX3_simulate_19 : decode cX3_simulate 19 = .ok (.iastore, 1) := by decide +kernel
theorem dX3_simulate_20 : decode cX3_simulate 20 = .ok (.aload_n 0, 1) := by decide +kernel
theorem dX3_simulate_21 : decode cX3_simulate 21 = .ok (.getfield 21, 3) := by decide +kernel
theorem dX3_simulate_24 : decode cX3_simulate 24 = .ok (.iload_n 3, 1) := by decide +kernel
theorem dX3_simulate_25 : decode cX3_simulate 25 = .ok (.iconst 0, 1) := by decide +kernel
theorem dX3_simulate_26 : decode cX3_simulate 26 = .ok (.iastore, 1) := by decide +kernel
theorem dX3_simulate_27 : decode cX3_simulate 27 = .ok (.aload_n 0, 1) := by decide +kernel
theorem dX3_simulate_28 : decode cX3_simulate 28 = .ok (.getfield 24, 3) := by decide +kernel
theorem dX3_simulate_31 : decode cX3_simulate 31 = .ok (.iload_n 3, 1) := by decide +kernel
theorem dX3_simulate_32 : decode cX3_simulate 32 = .ok (.iconst 0, 1) := by decide +kernel
theorem dX3_simulate_33 : decode cX3_simulate 33 = .ok (.iastore, 1) := by decide +kernel
theorem dX3_simulate_34 : decode cX3_simulate 34 = .ok (.aload_n 0, 1) := by decide +kernel
theorem dX3_simulate_35 : decode cX3_simulate 35 = .ok (.getfield 27, 3) := by decide +kernel
theorem dX3_simulate_38 : decode cX3_simulate 38 = .ok (.iload_n 3, 1) := by decide +kernel
theorem dX3_simulate_39 : decode cX3_simulate 39 = .ok (.iconst 0, 1) := by decide +kernel
theorem dX3_simulate_40 : decode cX3_simulate 40 = .ok (.iastore, 1) := by decide +kernel
theorem dX3_simulate_41 : decode cX3_simulate 41 = .ok (.iinc 3 1, 3) := by decide +kernel
theorem dX3_simulate_44 : decode cX3_simulate 44 = .ok (.goto (-37), 3) := by decide +kernel
theorem dX3_simulate_47 : decode cX3_simulate 47 = .ok (.iconst 0, 1) := by decide +kernel
theorem dX3_simulate_48 : decode cX3_simulate 48 = .ok (.istore_n 3, 1) := by decide +kernel
theorem dX3_simulate_49 : decode cX3_simulate 49 = .ok (.iload_n 3, 1) := by decide +kernel
theorem dX3_simulate_50 : decode cX3_simulate 50 = .ok (.aload_n 1, 1) := by decide +kernel
theorem dX3_simulate_51 : decode cX3_simulate 51 = .ok (.getfield 34, 3) := by decide +kernel
theorem dX3_simulate_54 : decode cX3_simulate 54 = .ok (.iconst 0, 1) := by decide +kernel
theorem dX3_simulate_55 : decode cX3_simulate 55 = .ok (.iaload, 1) := by decide +kernel
theorem dX3_simulate_56 : decode cX3_simulate 56 = .ok (.if_icmp .ge 40, 3) := by decide +kernel
theorem dX3_simulate_59 : decode cX3_simulate 59 = .ok (.iload_n 3, 1) := by decide +kernel
theorem dX3_simulate_60 : decode cX3_simulate 60 = .ok (.bipush 40, 2) := by decide +kernel
theorem dX3_simulate_62 : decode cX3_simulate 62 = .ok (.if_icmp .ge 34, 3) := by decide +kernel
theorem dX3_simulate_65 : decode cX3_simulate 65 = .ok (.aload_n 0, 1) := by decide +kernel
theorem dX3_simulate_66 : decode cX3_simulate 66 = .ok (.aload_n 1, 1) := by decide +kernel
theorem dX3_simulate_67 : decode cX3_simulate 67 = .ok (.iload_n 3, 1) := by decide +kernel
theorem dX3_simulate_68 : decode cX3_simulate 68 = .ok (.iload_n 2, 1) := by decide +kernel
theorem dX3_simulate_69 : decode cX3_simulate 69 = .ok (.invokevirtual 39, 3) := by decide +kernel
theorem dX3_simulate_72 : decode cX3_simulate 72 = .ok (.istore 4, 2) := by decide +kernel
theorem dX3_simulate_74 : decode cX3_simulate 74 = .ok (.aload_n 0, 1) := by decide +kernel
theorem dX3_simulate_75 : decode cX3_simulate 75 = .ok (.getfield 15, 3) := by decide +kernel
theorem dX3_simulate_78 : decode cX3_simulate 78 = .ok (.iload_n 3, 1) := by decide +kernel
theorem dX3_simulate_79 : decode cX3_simulate 79 = .ok (.iload 4, 2) := by decide +kernel
theorem dX3_simulate_81 : decode cX3_simulate 81 = .ok (.iastore, 1) := by decide +kernel
theorem dX3_simulate_82 : decode cX3_simulate 82 = .ok (.aload_n 0, 1) := by decide +kernel
theorem dX3_simulate_83 : decode cX3_simulate 83 = .ok (.aload_n 1, 1) := by decide +kernel
theorem dX3_simulate_84 : decode cX3_simulate 84 = .ok (.iload_n 3, 1) := by decide +kernel
theorem dX3_simulate_85 : decode cX3_simulate 85 = .ok (.iload 4, 2) := by decide +kernel
theorem dX3_simulate_87 : decode cX3_simulate 87 = .ok (.invokevirtual 43, 3) := by decide +kernel
theorem dX3_simulate_90 : decode cX3_simulate 90 = .ok (.iinc 3 1, 3) := by decide +kernel
theorem dX3_simulate_93 : decode cX3_simulate 93 = .ok (.goto (-44), 3) := by decide +kernel
theorem dX3_simulate_96 : decode cX3_simulate 96 = .ok (.return_, 1) := by decide +kernel
set_option maxRecDepth 20000 in
theorem ggX3_choose_X3_firstFree : GoodIn wsX3_choose wsX3_firstFree := goodIn_r _ [5, 6, 19, 20, 21, 22, 23, 24, 25] (by decide +kernel) (by decide +kernel)
set_option maxRecDepth 20000 in
theorem gX3_choose_X3_firstFree : GoodIn wsX3_choose (wsV RX3 47 RX3 yX3_firstFree wsX3_firstFree) := goodIn_app (goodIn_of _ (by decide +kernel)) ggX3_choose_X3_firstFree
theorem dX3_choose_0 : decode cX3_choose 0 = .ok (.aload_n 1, 1) := by decide +kernel
theorem dX3_choose_1 : decode cX3_choose 1 = .ok (.getfield 34, 3) := by decide +kernel
theorem dX3_choose_4 : decode cX3_choose 4 = .ok (.iconst 0, 1) := by decide +kernel
theorem dX3_choose_5 : decode cX3_choose 5 = .ok (.iaload, 1) := by decide +kernel
theorem dX3_choose_6 : decode cX3_choose 6 = .ok (.istore 4, 2) := by decide +kernel
theorem dX3_choose_8 : decode cX3_choose 8 = .ok (.iload_n 3, 1) := by decide +kernel
theorem dX3_choose_9 : decode cX3_choose 9 = .ok (.iconst 1, 1) := by decide +kernel
theorem dX3_choose_10 : decode cX3_choose 10 = .ok (.if_icmp .lt 9, 3) := by decide +kernel
theorem dX3_choose_13 : decode cX3_choose 13 = .ok (.iload 4, 2) := by decide +kernel
theorem dX3_choose_15 : decode cX3_choose 15 = .ok (.iconst 1, 1) := by decide +kernel
theorem dX3_choose_16 : decode cX3_choose 16 = .ok (.if_icmp .ge 5, 3) := by decide +kernel
theorem dX3_choose_19 : decode cX3_choose 19 = .ok (.iconst 0, 1) := by decide +kernel
theorem dX3_choose_20 : decode cX3_choose 20 = .ok (.ireturn, 1) := by decide +kernel
theorem dX3_choose_21 : decode cX3_choose 21 = .ok (.aload_n 1, 1) := by decide +kernel
theorem dX3_choose_22 : decode cX3_choose 22 = .ok (.getfield 34, 3) := by decide +kernel
theorem dX3_choose_25 : decode cX3_choose 25 = .ok (.iconst 3, 1) := by decide +kernel
theorem dX3_choose_26 : decode cX3_choose 26 = .ok (.iaload, 1) := by decide +kernel
theorem dX3_choose_27 : decode cX3_choose 27 = .ok (.lookupswitch 38 #[(1, 25), (2, 32)], 25) := by decide +kernel
theorem dX3_choose_52 : decode cX3_choose 52 = .ok (.iload_n 2, 1) := by decide +kernel
theorem dX3_choose_53 : decode cX3_choose 53 = .ok (.iload_n 3, 1) := by decide +kernel
theorem dX3_choose_54 : decode cX3_choose 54 = .ok (.imul, 1) := by decide +kernel
theorem dX3_choose_55 : decode cX3_choose 55 = .ok (.iload 4, 2) := by decide +kernel
theorem dX3_choose_57 : decode cX3_choose 57 = .ok (.idiv, 1) := by decide +kernel
theorem dX3_choose_58 : decode cX3_choose 58 = .ok (.ireturn, 1) := by decide +kernel
theorem dX3_choose_59 : decode cX3_choose 59 = .ok (.aload_n 0, 1) := by decide +kernel
theorem dX3_choose_60 : decode cX3_choose 60 = .ok (.iload_n 3, 1) := by decide +kernel
theorem dX3_choose_61 : decode cX3_choose 61 = .ok (.invokevirtual 47, 3) := by decide +kernel
theorem dX3_choose_64 : decode cX3_choose 64 = .ok (.ireturn, 1) := by decide +kernel
theorem dX3_choose_65 : decode cX3_choose 65 = .ok (.iload_n 2, 1) := by decide +kernel
theorem dX3_choose_66 : decode cX3_choose 66 = .ok (.iload_n 3, 1) := by decide +kernel
theorem dX3_choose_67 : decode cX3_choose 67 = .ok (.irem, 1) := by decide +kernel
theorem dX3_choose_68 : decode cX3_choose 68 = .ok (.ireturn, 1) := by decide +kernel
theorem dX3_firstFree_0 : decode cX3_firstFree 0 = .ok (.iconst 0, 1) := by decide +kernel
theorem dX3_firstFree_1 : decode cX3_firstFree 1 = .ok (.istore_n 2, 1) := by decide +kernel
theorem dX3_firstFree_2 : decode cX3_firstFree 2 = .ok (.iconst 1, 1) := by decide +kernel
theorem dX3_firstFree_3 : decode cX3_firstFree 3 = .ok (.istore_n 3, 1) := by decide +kernel
theorem dX3_firstFree_4 : decode cX3_firstFree 4 = .ok (.iload_n 3, 1) := by decide +kernel
theorem dX3_firstFree_5 : decode cX3_firstFree 5 = .ok (.iload_n 1, 1) := by decide +kernel
theorem dX3_firstFree_6 : decode cX3_firstFree 6 = .ok (.if_icmp .ge 32, 3) := by decide +kernel
theorem dX3_firstFree_9 : decode cX3_firstFree 9 = .ok (.iload_n 3, 1) := by decide +kernel
theorem dX3_firstFree_10 : decode cX3_firstFree 10 = .ok (.bipush 6, 2) := by decide +kernel
theorem dX3_firstFree_12 : decode cX3_firstFree 12 = .ok (.if_icmp .ge 26, 3) := by decide +kernel
theorem dX3_firstFree_15 : decode cX3_firstFree 15 = .ok (.aload_n 0, 1) := by decide +kernel
theorem dX3_firstFree_16 : decode cX3_firstFree 16 = .ok (.getfield 27, 3) := by decide +kernel
theorem dX3_firstFree_19 : decode cX3_firstFree 19 = .ok (.iload_n 3, 1) := by decide +kernel
theorem dX3_firstFree_20 : decode cX3_firstFree 20 = .ok (.iaload, 1) := by decide +kernel
theorem dX3_firstFree_21 : decode cX3_firstFree 21 = .ok (.aload_n 0, 1) := by decide +kernel
theorem dX3_firstFree_22 : decode cX3_firstFree 22 = .ok (.getfield 27, 3) := by decide +kernel
theorem dX3_firstFree_25 : decode cX3_firstFree 25 = .ok (.iload_n 2, 1) := by decide +kernel
theorem dX3_firstFree_26 : decode cX3_firstFree 26 = .ok (.iaload, 1) := by decide +kernel
theorem dX3_firstFree_27 : decode cX3_firstFree 27 = .ok (.if_icmp .ge 5, 3) := by decide +kernel
theorem dX3_firstFree_30 : decode cX3_firstFree 30 = .ok (.iload_n 3, 1) := by decide +kernel
theorem dX3_firstFree_31 : decode cX3_firstFree 31 = .ok (.istore_n 2, 1) := by decide +kernel
theorem dX3_firstFree_32 : decode cX3_firstFree 32 = .ok (.iinc 3 1, 3) := by decide +kernel
theorem dX3_firstFree_35 : decode cX3_firstFree 35 = .ok (.goto (-31), 3) := by decide +kernel
theorem dX3_firstFree_38 : decode cX3_firstFree 38 = .ok (.iload_n 2, 1) := by decide +kernel
theorem dX3_firstFree_39 : decode cX3_firstFree 39 = .ok (.ireturn, 1) := by decide +kernel
set_option maxRecDepth 20000 in
theorem ggX3_runIteration_X0_statementAt : GoodIn wsX3_runIteration wsX0_statementAt := goodIn_r _ [14, 15, 59, 60, 61, 62, 63, 64, 65, 66, 67, 68, 69, 70] (by decide +kernel) (by decide +kernel)
set_option maxRecDepth 20000 in
theorem gX3_runIteration_X0_statementAt : GoodIn wsX3_runIteration (wsV RX3 54 RX0 yX0_statementAt wsX0_statementAt) := goodIn_app (goodIn_of _ (by decide +kernel)) ggX3_runIteration_X0_statementAt
set_option maxRecDepth 20000 in
theorem ggX3_runIteration_X3_latestSignal : GoodIn wsX3_runIteration wsX3_latestSignal := goodIn_r _ [20, 2, 3, 4, 5, 21, 22, 23, 13, 24, 25, 26, 27, 28, 29, 30, 31, 32, 33, 34, 19, 35, 36, 37, 38, 39, 40, 41, 42, 43, 44, 45, 46, 47, 48, 49, 50, 51, 52, 53, 59, 60, 61, 62, 63, 64, 65, 66, 67, 68, 69, 70, 71, 72, 73, 74, 75, 76, 77] (by decide +kernel) (by decide +kernel)
set_option maxRecDepth 20000 in
theorem gX3_runIteration_X3_latestSignal : GoodIn wsX3_runIteration (wsV RX3 57 RX3 yX3_latestSignal wsX3_latestSignal) := goodIn_app (goodIn_of _ (by decide +kernel)) ggX3_runIteration_X3_latestSignal
set_option maxRecDepth 20000 in
theorem ggX3_runIteration_X0_costOf : GoodIn wsX3_runIteration wsX0_costOf := goodIn_r _ [52, 53, 59, 60, 61, 62, 63, 64, 65, 66, 67, 68, 69, 70] (by decide +kernel) (by decide +kernel)
set_option maxRecDepth 20000 in
theorem gX3_runIteration_X0_costOf : GoodIn wsX3_runIteration (wsV RX3 66 RX0 yX0_costOf wsX0_costOf) := goodIn_app (goodIn_of _ (by decide +kernel)) ggX3_runIteration_X0_costOf
set_option maxRecDepth 20000 in
theorem ggX3_runIteration_X3_keepStart : GoodIn wsX3_runIteration wsX3_keepStart := goodIn_r _ [58, 36, 37, 38, 19, 39, 71, 72, 73, 74, 75, 76, 77] (by decide +kernel) (by decide +kernel)
set_option maxRecDepth 20000 in
theorem gX3_runIteration_X3_keepStart : GoodIn wsX3_runIteration (wsV RX3 69 RX3 yX3_keepStart wsX3_keepStart) := goodIn_app (goodIn_of _ (by decide +kernel)) ggX3_runIteration_X3_keepStart
theorem dX3_runIteration_0 : decode cX3_runIteration 0 = .ok (.iload_n 3, 1) := by decide +kernel
theorem dX3_runIteration_1 : decode cX3_runIteration 1 = .ok (.ifCond .lt 9, 3) := by decide +kernel
theorem dX3_runIteration_4 : decode cX3_runIteration 4 = .ok (.iload_n 3, 1) := by decide +kernel
theorem dX3_runIteration_5 : decode cX3_runIteration 5 = .ok (.bipush 6, 2) := by decide +kernel
theorem dX3_runIteration_7 : decode cX3_runIteration 7 = .ok (.if_icmp .lt 4, 3) := by decide +kernel
theorem dX3_runIteration_10 : decode cX3_runIteration 10 = .ok (.return_, 1) := by decide +kernel
theorem dX3_runIteration_11 : decode cX3_runIteration 11 = .ok (.iconst 0, 1) := by decide +kernel
theorem dX3_runIteration_12 : decode cX3_runIteration 12 = .ok (.istore 4, 2) := by decide +kernel
theorem dX3_runIteration_14 : decode cX3_runIteration 14 = .ok (.iload 4, 2) := by decide +kernel
theorem dX3_runIteration_16 : decode cX3_runIteration 16 = .ok (.aload_n 1, 1) := by decide +kernel
theorem dX3_runIteration_17 : decode cX3_runIteration 17 = .ok (.getfield 51, 3) := by decide +kernel
theorem dX3_runIteration_20 : decode cX3_runIteration 20 = .ok (.if_icmp .ge 100, 3) := by decide +kernel
theorem dX3_runIteration_23 : decode cX3_runIteration 23 = .ok (.aload_n 1, 1) := by decide +kernel
theorem dX3_runIteration_24 : decode cX3_runIteration 24 = .ok (.iload 4, 2) := by decide +kernel
theorem dX3_runIteration_26 : decode cX3_runIteration 26 = .ok (.invokevirtual 54, 3) := by decide +kernel
theorem dX3_runIteration_29 : decode cX3_runIteration 29 = .ok (.istore 5, 2) := by decide +kernel
theorem dX3_runIteration_31 : decode cX3_runIteration 31 = .ok (.aload_n 0, 1) := by decide +kernel
theorem dX3_runIteration_32 : decode cX3_runIteration 32 = .ok (.getfield 27, 3) := by decide +kernel
theorem dX3_runIteration_35 : decode cX3_runIteration 35 = .ok (.iload_n 3, 1) := by decide +kernel
theorem dX3_runIteration_36 : decode cX3_runIteration 36 = .ok (.iaload, 1) := by decide +kernel
theorem dX3_runIteration_37 : decode cX3_runIteration 37 = .ok (.aload_n 0, 1) := by decide +kernel
theorem dX3_runIteration_38 : decode cX3_runIteration 38 = .ok (.aload_n 1, 1) := by decide +kernel
theorem dX3_runIteration_39 : decode cX3_runIteration 39 = .ok (.iload 5, 2) := by decide +kernel
theorem dX3_runIteration_41 : decode cX3_runIteration 41 = .ok (.iload_n 2, 1) := by decide +kernel
theorem dX3_runIteration_42 : decode cX3_runIteration 42 = .ok (.invokevirtual 57, 3) := by decide +kernel
theorem dX3_runIteration_45 : decode cX3_runIteration 45 = .ok (.invokestatic 60, 3) := by decide +kernel
theorem dX3_runIteration_48 : decode cX3_runIteration 48 = .ok (.istore 6, 2) := by decide +kernel
theorem dX3_runIteration_50 : decode cX3_runIteration 50 = .ok (.iload 4, 2) := by decide +kernel
theorem dX3_runIteration_52 : decode cX3_runIteration 52 = .ok (.ifCond .ne 20, 3) := by decide +kernel
theorem dX3_runIteration_55 : decode cX3_runIteration 55 = .ok (.aload_n 0, 1) := by decide +kernel
theorem dX3_runIteration_56 : decode cX3_runIteration 56 = .ok (.getfield 18, 3) := by decide +kernel
theorem dX3_runIteration_59 : decode cX3_runIteration 59 = .ok (.iload_n 3, 1) := by decide +kernel
theorem dX3_runIteration_60 : decode cX3_runIteration 60 = .ok (.iaload, 1) := by decide +kernel
theorem dX3_runIteration_61 : decode cX3_runIteration 61 = .ok (.ifCond .ne 11, 3) := by decide +kernel
theorem dX3_runIteration_64 : decode cX3_runIteration 64 = .ok (.aload_n 0, 1) := by decide +kernel
theorem dX3_runIteration_65 : decode cX3_runIteration 65 = .ok (.getfield 21, 3) := by decide +kernel
theorem dX3_runIteration_68 : decode cX3_runIteration 68 = .ok (.iload_n 3, 1) := by decide +kernel
theorem dX3_runIteration_69 : decode cX3_runIteration 69 = .ok (.iload 6, 2) := by decide +kernel
theorem dX3_runIteration_71 : decode cX3_runIteration 71 = .ok (.iastore, 1) := by decide +kernel
theorem dX3_runIteration_72 : decode cX3_runIteration 72 = .ok (.aload_n 0, 1) := by decide +kernel
theorem dX3_runIteration_73 : decode cX3_runIteration 73 = .ok (.getfield 24, 3) := by decide +kernel
theorem dX3_runIteration_76 : decode cX3_runIteration 76 = .ok (.iload_n 3, 1) := by decide +kernel
theorem dX3_runIteration_77 : decode cX3_runIteration 77 = .ok (.dup2, 1) := by decide +kernel
theorem dX3_runIteration_78 : decode cX3_runIteration 78 = .ok (.iaload, 1) := by decide +kernel
theorem dX3_runIteration_79 : decode cX3_runIteration 79 = .ok (.iload 6, 2) := by decide +kernel
theorem dX3_runIteration_81 : decode cX3_runIteration 81 = .ok (.aload_n 0, 1) := by decide +kernel
theorem dX3_runIteration_82 : decode cX3_runIteration 82 = .ok (.getfield 27, 3) := by decide +kernel
theorem dX3_runIteration_85 : decode cX3_runIteration 85 = .ok (.iload_n 3, 1) := by decide +kernel
theorem dX3_runIteration_86 : decode cX3_runIteration 86 = .ok (.iaload, 1) := by decide +kernel
theorem dX3_runIteration_87 : decode cX3_runIteration 87 = .ok (.isub, 1) := by decide +kernel
theorem dX3_runIteration_88 : decode cX3_runIteration 88 = .ok (.iadd, 1) := by decide +kernel
theorem dX3_runIteration_89 : decode cX3_runIteration 89 = .ok (.iastore, 1) := by decide +kernel
theorem dX3_runIteration_90 : decode cX3_runIteration 90 = .ok (.aload_n 0, 1) := by decide +kernel
theorem dX3_runIteration_91 : decode cX3_runIteration 91 = .ok (.getfield 27, 3) := by decide +kernel
theorem dX3_runIteration_94 : decode cX3_runIteration 94 = .ok (.iload_n 3, 1) := by decide +kernel
theorem dX3_runIteration_95 : decode cX3_runIteration 95 = .ok (.iload 6, 2) := by decide +kernel
theorem dX3_runIteration_97 : decode cX3_runIteration 97 = .ok (.aload_n 1, 1) := by decide +kernel
theorem dX3_runIteration_98 : decode cX3_runIteration 98 = .ok (.iload 5, 2) := by decide +kernel
theorem dX3_runIteration_100 : decode cX3_runIteration 100 = .ok (.invokevirtual 66, 3) := by decide +kernel
theorem dX3_runIteration_103 : decode cX3_runIteration 103 = .ok (.iadd, 1) := by decide +kernel
theorem dX3_runIteration_104 : decode cX3_runIteration 104 = .ok (.iastore, 1) := by decide +kernel
theorem dX3_runIteration_105 : decode cX3_runIteration 105 = .ok (.aload_n 0, 1) := by decide +kernel
theorem dX3_runIteration_106 : decode cX3_runIteration 106 = .ok (.iload 5, 2) := by decide +kernel
theorem dX3_runIteration_108 : decode cX3_runIteration 108 = .ok (.iload_n 2, 1) := by decide +kernel
theorem dX3_runIteration_109 : decode cX3_runIteration 109 = .ok (.iload 6, 2) := by decide +kernel
theorem dX3_runIteration_111 : decode cX3_runIteration 111 = .ok (.invokevirtual 69, 3) := by decide +kernel
theorem dX3_runIteration_114 : decode cX3_runIteration 114 = .ok (.iinc 4 1, 3) := by decide +kernel
theorem dX3_runIteration_117 : decode cX3_runIteration 117 = .ok (.goto (-103), 3) := by decide +kernel
theorem dX3_runIteration_120 : decode cX3_runIteration 120 = .ok (.aload_n 0, 1) := by decide +kernel
theorem dX3_runIteration_121 : decode cX3_runIteration 121 = .ok (.getfield 18, 3) := by decide +kernel
theorem dX3_runIteration_124 : decode cX3_runIteration 124 = .ok (.iload_n 3, 1) := by decide +kernel
theorem dX3_runIteration_125 : decode cX3_runIteration 125 = .ok (.dup2, 1) := by decide +kernel
theorem dX3_runIteration_126 : decode cX3_runIteration 126 = .ok (.iaload, 1) := by decide +kernel
theorem dX3_runIteration_127 : decode cX3_runIteration 127 = .ok (.iconst 1, 1) := by decide +kernel
theorem dX3_runIteration_128 : decode cX3_runIteration 128 = .ok (.iadd, 1) := by decide +kernel
theorem dX3_runIteration_129 : decode cX3_runIteration 129 = .ok (.iastore, 1) := by decide +kernel
theorem dX3_runIteration_130 : decode cX3_runIteration 130 = .ok (.aload_n 0, 1) := by decide +kernel
theorem dX3_runIteration_131 : decode cX3_runIteration 131 = .ok (.aload_n 0, 1) := by decide +kernel
theorem dX3_runIteration_132 : decode cX3_runIteration 132 = .ok (.getfield 30, 3) := by decide +kernel
theorem dX3_runIteration_135 : decode cX3_runIteration 135 = .ok (.aload_n 0, 1) := by decide +kernel
theorem dX3_runIteration_136 : decode cX3_runIteration 136 = .ok (.getfield 27, 3) := by decide +kernel
theorem dX3_runIteration_139 : decode cX3_runIteration 139 = .ok (.iload_n 3, 1) := by decide +kernel
theorem dX3_runIteration_140 : decode cX3_runIteration 140 = .ok (.iaload, 1) := by decide +kernel
theorem dX3_runIteration_141 : decode cX3_runIteration 141 = .ok (.invokestatic 60, 3) := by decide +kernel
theorem dX3_runIteration_144 : decode cX3_runIteration 144 = .ok (.putfield 30, 3) := by decide +kernel
theorem dX3_runIteration_147 : decode cX3_runIteration 147 = .ok (.return_, 1) := by decide +kernel
set_option maxRecDepth 20000 in
theorem ggX3_latestSignal_X0_isSignalled : GoodIn wsX3_latestSignal wsX0_isSignalled := goodIn_r _ [9, 10, 11, 12, 13, 14, 8, 15, 16, 40, 41, 42, 43, 44, 45, 46, 47, 48, 49, 50, 51] (by decide +kernel) (by decide +kernel)
set_option maxRecDepth 20000 in
theorem gX3_latestSignal_X0_isSignalled : GoodIn wsX3_latestSignal (wsV RX3 82 RX0 yX0_isSignalled wsX0_isSignalled) := goodIn_app (goodIn_of _ (by decide +kernel)) ggX3_latestSignal_X0_isSignalled
set_option maxRecDepth 20000 in
theorem ggX3_latestSignal_X3_startOf : GoodIn wsX3_latestSignal wsX3_startOf := goodIn_r _ [21, 22, 23, 24, 20, 25, 52, 53, 54, 55, 56, 57, 58] (by decide +kernel) (by decide +kernel)
set_option maxRecDepth 20000 in
theorem gX3_latestSignal_X3_startOf : GoodIn wsX3_latestSignal (wsV RX3 89 RX3 yX3_startOf wsX3_startOf) := goodIn_app (goodIn_of _ (by decide +kernel)) ggX3_latestSignal_X3_startOf
set_option maxRecDepth 20000 in
theorem ggX3_latestSignal_X0_lagOf : GoodIn wsX3_latestSignal wsX0_lagOf := goodIn_r _ [29, 30, 31, 32, 33, 34, 2, 3, 4, 12, 13, 14, 8, 15, 16, 35, 36, 37, 38, 39, 40, 41, 42, 43, 44, 45, 46, 47, 48, 49, 50, 51] (by decide +kernel) (by decide +kernel)
set_option maxRecDepth 20000 in
theorem gX3_latestSignal_X0_lagOf : GoodIn wsX3_latestSignal (wsV RX3 92 RX0 yX0_lagOf wsX0_lagOf) := goodIn_app (goodIn_of _ (by decide +kernel)) ggX3_latestSignal_X0_lagOf
theorem dX3_latestSignal_0 : decode cX3_latestSignal 0 = .ok (.iconst 0, 1) := by decide +kernel
theorem dX3_latestSignal_1 : decode cX3_latestSignal 1 = .ok (.istore 4, 2) := by decide +kernel
theorem dX3_latestSignal_3 : decode cX3_latestSignal 3 = .ok (.iconst 0, 1) := by decide +kernel
theorem dX3_latestSignal_4 : decode cX3_latestSignal 4 = .ok (.istore 5, 2) := by decide +kernel
theorem dX3_latestSignal_6 : decode cX3_latestSignal 6 = .ok (.iload 5, 2) := by decide +kernel
theorem dX3_latestSignal_8 : decode cX3_latestSignal 8 = .ok (.aload_n 1, 1) := by decide +kernel
theorem dX3_latestSignal_9 : decode cX3_latestSignal 9 = .ok (.getfield 73, 3) := by decide +kernel
theorem dX3_latestSignal_12 : decode cX3_latestSignal 12 = .ok (.if_icmp .ge 78, 3) := by decide +kernel
theorem dX3_latestSignal_15 : decode cX3_latestSignal 15 = .ok (.aload_n 1, 1) := by decide +kernel
theorem dX3_latestSignal_16 : decode cX3_latestSignal 16 = .ok (.getfield 76, 3) := by decide +kernel
theorem dX3_latestSignal_19 : decode cX3_latestSignal 19 = .ok (.iload 5, 2) := by decide +kernel
theorem dX3_latestSignal_21 : decode cX3_latestSignal 21 = .ok (.iaload, 1) := by decide +kernel
theorem dX3_latestSignal_22 : decode cX3_latestSignal 22 = .ok (.iload_n 2, 1) := by decide +kernel
theorem dX3_latestSignal_23 : decode cX3_latestSignal 23 = .ok (.if_icmp .ne 61, 3) := by decide +kernel
theorem dX3_latestSignal_26 : decode cX3_latestSignal 26 = .ok (.aload_n 1, 1) := by decide +kernel
theorem dX3_latestSignal_27 : decode cX3_latestSignal 27 = .ok (.getfield 79, 3) := by decide +kernel
theorem dX3_latestSignal_30 : decode cX3_latestSignal 30 = .ok (.iload 5, 2) := by decide +kernel
theorem dX3_latestSignal_32 : decode cX3_latestSignal 32 = .ok (.iaload, 1) := by decide +kernel
theorem dX3_latestSignal_33 : decode cX3_latestSignal 33 = .ok (.iload_n 3, 1) := by decide +kernel
theorem dX3_latestSignal_34 : decode cX3_latestSignal 34 = .ok (.if_icmp .gt 50, 3) := by decide +kernel
theorem dX3_latestSignal_37 : decode cX3_latestSignal 37 = .ok (.aload_n 1, 1) := by decide +kernel
theorem dX3_latestSignal_38 : decode cX3_latestSignal 38 = .ok (.iload 5, 2) := by decide +kernel
theorem dX3_latestSignal_40 : decode cX3_latestSignal 40 = .ok (.invokevirtual 82, 3) := by decide +kernel
theorem dX3_latestSignal_43 : decode cX3_latestSignal 43 = .ok (.ifCond .eq 41, 3) := by decide +kernel
theorem dX3_latestSignal_46 : decode cX3_latestSignal 46 = .ok (.aload_n 0, 1) := by decide +kernel
theorem dX3_latestSignal_47 : decode cX3_latestSignal 47 = .ok (.aload_n 1, 1) := by decide +kernel
theorem dX3_latestSignal_48 : decode cX3_latestSignal 48 = .ok (.getfield 86, 3) := by decide +kernel
theorem dX3_latestSignal_51 : decode cX3_latestSignal 51 = .ok (.iload 5, 2) := by decide +kernel
theorem dX3_latestSignal_53 : decode cX3_latestSignal 53 = .ok (.iaload, 1) := by decide +kernel
theorem dX3_latestSignal_54 : decode cX3_latestSignal 54 = .ok (.iload_n 3, 1) := by decide +kernel
theorem dX3_latestSignal_55 : decode cX3_latestSignal 55 = .ok (.aload_n 1, 1) := by decide +kernel
theorem dX3_latestSignal_56 : decode cX3_latestSignal 56 = .ok (.getfield 79, 3) := by decide +kernel
theorem dX3_latestSignal_59 : decode cX3_latestSignal 59 = .ok (.iload 5, 2) := by decide +kernel
theorem dX3_latestSignal_61 : decode cX3_latestSignal 61 = .ok (.iaload, 1) := by decide +kernel
theorem dX3_latestSignal_62 : decode cX3_latestSignal 62 = .ok (.isub, 1) := by decide +kernel
theorem dX3_latestSignal_63 : decode cX3_latestSignal 63 = .ok (.invokevirtual 89, 3) := by decide +kernel
theorem dX3_latestSignal_66 : decode cX3_latestSignal 66 = .ok (.istore 6, 2) := by decide +kernel
theorem dX3_latestSignal_68 : decode cX3_latestSignal 68 = .ok (.iload 4, 2) := by decide +kernel
theorem dX3_latestSignal_70 : decode cX3_latestSignal 70 = .ok (.iload 6, 2) := by decide +kernel
theorem dX3_latestSignal_72 : decode cX3_latestSignal 72 = .ok (.aload_n 1, 1) := by decide +kernel
theorem dX3_latestSignal_73 : decode cX3_latestSignal 73 = .ok (.iload 5, 2) := by decide +kernel
theorem dX3_latestSignal_75 : decode cX3_latestSignal 75 = .ok (.invokevirtual 92, 3) := by decide +kernel
theorem dX3_latestSignal_78 : decode cX3_latestSignal 78 = .ok (.iadd, 1) := by decide +kernel
theorem dX3_latestSignal_79 : decode cX3_latestSignal 79 = .ok (.invokestatic 60, 3) := by decide +kernel
theorem dX3_latestSignal_82 : decode cX3_latestSignal 82 = .ok (.istore 4, 2) := by decide +kernel
theorem dX3_latestSignal_84 : decode cX3_latestSignal 84 = .ok (.iinc 5 1, 3) := by decide +kernel
theorem dX3_latestSignal_87 : decode cX3_latestSignal 87 = .ok (.goto (-81), 3) := by decide +kernel
theorem dX3_latestSignal_90 : decode cX3_latestSignal 90 = .ok (.iload 4, 2) := by decide +kernel
theorem dX3_latestSignal_92 : decode cX3_latestSignal 92 = .ok (.ireturn, 1) := by decide +kernel
set_option maxRecDepth 20000 in
theorem ggX3_violates_X0_hasDependence : GoodIn wsX3_violates wsX0_hasDependence := goodIn_r _ [5, 6, 34, 35, 36, 37, 38, 39, 40, 41, 42, 43, 44, 45] (by decide +kernel) (by decide +kernel)
set_option maxRecDepth 20000 in
theorem gX3_violates_X0_hasDependence : GoodIn wsX3_violates (wsV RX3 95 RX0 yX0_hasDependence wsX0_hasDependence) := goodIn_app (goodIn_of _ (by decide +kernel)) ggX3_violates_X0_hasDependence
set_option maxRecDepth 20000 in
theorem ggX3_violates_X0_lagOf : GoodIn wsX3_violates wsX0_lagOf := goodIn_r _ [10, 11, 12, 13, 14, 15, 16, 17, 18, 19, 2, 3, 4, 5, 6, 20, 21, 22, 23, 24, 34, 35, 36, 37, 38, 39, 40, 41, 42, 43, 44, 45] (by decide +kernel) (by decide +kernel)
set_option maxRecDepth 20000 in
theorem gX3_violates_X0_lagOf : GoodIn wsX3_violates (wsV RX3 92 RX0 yX0_lagOf wsX0_lagOf) := goodIn_app (goodIn_of _ (by decide +kernel)) ggX3_violates_X0_lagOf
set_option maxRecDepth 20000 in
theorem ggX3_violates_X3_startOf : GoodIn wsX3_violates wsX3_startOf := goodIn_r _ [29, 30, 31, 32, 28, 33, 46, 47, 48, 49, 50, 51, 52] (by decide +kernel) (by decide +kernel)
set_option maxRecDepth 20000 in
theorem gX3_violates_X3_startOf : GoodIn wsX3_violates (wsV RX3 89 RX3 yX3_startOf wsX3_startOf) := goodIn_app (goodIn_of _ (by decide +kernel)) ggX3_violates_X3_startOf
theorem dX3_violates_0 : decode cX3_violates 0 = .ok (.aload_n 1, 1) := by decide +kernel
theorem dX3_violates_1 : decode cX3_violates 1 = .ok (.iload_n 2, 1) := by decide +kernel
theorem dX3_violates_2 : decode cX3_violates 2 = .ok (.invokevirtual 95, 3) := by decide +kernel
theorem dX3_violates_5 : decode cX3_violates 5 = .ok (.ifCond .ne 5, 3) := by decide +kernel
theorem dX3_violates_8 : decode cX3_violates 8 = .ok (.iconst 0, 1) := by decide +kernel
theorem dX3_violates_9 : decode cX3_violates 9 = .ok (.ireturn, 1) := by decide +kernel
theorem dX3_violates_10 : decode cX3_violates 10 = .ok (.aload_n 1, 1) := by decide +kernel
theorem dX3_violates_11 : decode cX3_violates 11 = .ok (.getfield 86, 3) := by decide +kernel
theorem dX3_violates_14 : decode cX3_violates 14 = .ok (.iload_n 2, 1) := by decide +kernel
theorem dX3_violates_15 : decode cX3_violates 15 = .ok (.iaload, 1) := by decide +kernel
theorem dX3_violates_16 : decode cX3_violates 16 = .ok (.istore_n 3, 1) := by decide +kernel
theorem dX3_violates_17 : decode cX3_violates 17 = .ok (.aload_n 1, 1) := by decide +kernel
theorem dX3_violates_18 : decode cX3_violates 18 = .ok (.getfield 76, 3) := by decide +kernel
theorem dX3_violates_21 : decode cX3_violates 21 = .ok (.iload_n 2, 1) := by decide +kernel
theorem dX3_violates_22 : decode cX3_violates 22 = .ok (.iaload, 1) := by decide +kernel
theorem dX3_violates_23 : decode cX3_violates 23 = .ok (.istore 4, 2) := by decide +kernel
theorem dX3_violates_25 : decode cX3_violates 25 = .ok (.aload_n 1, 1) := by decide +kernel
theorem dX3_violates_26 : decode cX3_violates 26 = .ok (.getfield 79, 3) := by decide +kernel
theorem dX3_violates_29 : decode cX3_violates 29 = .ok (.iload_n 2, 1) := by decide +kernel
theorem dX3_violates_30 : decode cX3_violates 30 = .ok (.iaload, 1) := by decide +kernel
theorem dX3_violates_31 : decode cX3_violates 31 = .ok (.istore 5, 2) := by decide +kernel
theorem dX3_violates_33 : decode cX3_violates 33 = .ok (.aload_n 1, 1) := by decide +kernel
theorem dX3_violates_34 : decode cX3_violates 34 = .ok (.iload_n 2, 1) := by decide +kernel
theorem dX3_violates_35 : decode cX3_violates 35 = .ok (.invokevirtual 92, 3) := by decide +kernel
theorem dX3_violates_38 : decode cX3_violates 38 = .ok (.iload 5, 2) := by decide +kernel
theorem dX3_violates_40 : decode cX3_violates 40 = .ok (.ifCond .ne 12, 3) := by decide +kernel
theorem dX3_violates_43 : decode cX3_violates 43 = .ok (.aload_n 1, 1) := by decide +kernel
theorem dX3_violates_44 : decode cX3_violates 44 = .ok (.getfield 34, 3) := by decide +kernel
theorem dX3_violates_47 : decode cX3_violates 47 = .ok (.iconst 1, 1) := by decide +kernel
theorem dX3_violates_48 : decode cX3_violates 48 = .ok (.iaload, 1) := by decide +kernel
theorem dX3_violates_49 : decode cX3_violates 49 = .ok (.goto 4, 3) := by decide +kernel
theorem dX3_violates_52 : decode cX3_violates 52 = .ok (.iconst 0, 1) := by decide +kernel
theorem dX3_violates_53 : decode cX3_violates 53 = .ok (.isub, 1) := by decide +kernel
theorem dX3_violates_54 : decode cX3_violates 54 = .ok (.istore 6, 2) := by decide +kernel
theorem dX3_violates_56 : decode cX3_violates 56 = .ok (.iconst 0, 1) := by decide +kernel
theorem dX3_violates_57 : decode cX3_violates 57 = .ok (.istore 7, 2) := by decide +kernel
theorem dX3_violates_59 : decode cX3_violates 59 = .ok (.iload 7, 2) := by decide +kernel
theorem dX3_violates_61 : decode cX3_violates 61 = .ok (.iload 5, 2) := by decide +kernel
theorem dX3_violates_63 : decode cX3_violates 63 = .ok (.iadd, 1) := by decide +kernel
theorem dX3_violates_64 : decode cX3_violates 64 = .ok (.aload_n 1, 1) := by decide +kernel
theorem dX3_violates_65 : decode cX3_violates 65 = .ok (.getfield 34, 3) := by decide +kernel
theorem dX3_violates_68 : decode cX3_violates 68 = .ok (.iconst 0, 1) := by decide +kernel
theorem dX3_violates_69 : decode cX3_violates 69 = .ok (.iaload, 1) := by decide +kernel
theorem dX3_violates_70 : decode cX3_violates 70 = .ok (.if_icmp .ge 35, 3) := by decide +kernel
theorem dX3_violates_73 : decode cX3_violates 73 = .ok (.aload_n 0, 1) := by decide +kernel
theorem dX3_violates_74 : decode cX3_violates 74 = .ok (.iload 4, 2) := by decide +kernel
theorem dX3_violates_76 : decode cX3_violates 76 = .ok (.iload 7, 2) := by decide +kernel
theorem dX3_violates_78 : decode cX3_violates 78 = .ok (.iload 5, 2) := by decide +kernel
theorem dX3_violates_80 : decode cX3_violates 80 = .ok (.iadd, 1) := by decide +kernel
theorem dX3_violates_81 : decode cX3_violates 81 = .ok (.invokevirtual 89, 3) := by decide +kernel
theorem dX3_violates_84 : decode cX3_violates 84 = .ok (.aload_n 0, 1) := by decide +kernel
theorem dX3_violates_85 : decode cX3_violates 85 = .ok (.iload_n 3, 1) := by decide +kernel
theorem dX3_violates_86 : decode cX3_violates 86 = .ok (.iload 7, 2) := by decide +kernel
theorem dX3_violates_88 : decode cX3_violates 88 = .ok (.invokevirtual 89, 3) := by decide +kernel
theorem dX3_violates_91 : decode cX3_violates 91 = .ok (.iload 6, 2) := by decide +kernel
theorem dX3_violates_93 : decode cX3_violates 93 = .ok (.iadd, 1) := by decide +kernel
theorem dX3_violates_94 : decode cX3_violates 94 = .ok (.if_icmp .ge 5, 3) := by decide +kernel
theorem dX3_violates_97 : decode cX3_violates 97 = .ok (.iconst 1, 1) := by decide +kernel
theorem dX3_violates_98 : decode cX3_violates 98 = .ok (.ireturn, 1) := by decide +kernel
theorem dX3_violates_99 : decode cX3_violates 99 = .ok (.iinc 7 1, 3) := by decide +kernel
theorem dX3_violates_102 : decode cX3_violates 102 = .ok (.goto (-43), 3) := by decide +kernel
theorem dX3_violates_105 : decode cX3_violates 105 = .ok (.iconst 0, 1) := by decide +kernel
theorem dX3_violates_106 : decode cX3_violates 106 = .ok (.ireturn, 1) := by decide +kernel
theorem dX3_isCell_0 : decode cX3_isCell 0 = .ok (.iload_n 0, 1) := by decide +kernel
theorem dX3_isCell_1 : decode cX3_isCell 1 = .ok (.ifCond .lt 23, 3) := by decide +kernel
theorem dX3_isCell_4 : decode cX3_isCell 4 = .ok (.iload_n 0, 1) := by decide +kernel
theorem dX3_isCell_5 : decode cX3_isCell 5 = .ok (.bipush 8, 2) := by decide +kernel
theorem dX3_isCell_7 : decode cX3_isCell 7 = .ok (.if_icmp .ge 17, 3) := by decide +kernel
theorem dX3_isCell_10 : decode cX3_isCell 10 = .ok (.iload_n 1, 1) := by decide +kernel
theorem dX3_isCell_11 : decode cX3_isCell 11 = .ok (.ifCond .lt 13, 3) := by decide +kernel
theorem dX3_isCell_14 : decode cX3_isCell 14 = .ok (.iload_n 1, 1) := by decide +kernel
theorem dX3_isCell_15 : decode cX3_isCell 15 = .ok (.bipush 40, 2) := by decide +kernel
theorem dX3_isCell_17 : decode cX3_isCell 17 = .ok (.if_icmp .ge 7, 3) := by decide +kernel
theorem dX3_isCell_20 : decode cX3_isCell 20 = .ok (.iconst 1, 1) := by decide +kernel
theorem dX3_isCell_21 : decode cX3_isCell 21 = .ok (.goto 4, 3) := by decide +kernel
theorem dX3_isCell_24 : decode cX3_isCell 24 = .ok (.iconst 0, 1) := by decide +kernel
theorem dX3_isCell_25 : decode cX3_isCell 25 = .ok (.ireturn, 1) := by decide +kernel
set_option maxRecDepth 20000 in
theorem ggX3_startOf_X3_isCell : GoodIn wsX3_startOf wsX3_isCell := goodIn_r _ [5] (by decide +kernel) (by decide +kernel)
set_option maxRecDepth 20000 in
theorem gX3_startOf_X3_isCell : GoodIn wsX3_startOf (va_wsS RX3 98 yX3_isCell wsX3_isCell) := goodIn_app (goodIn_of _ (by decide +kernel)) ggX3_startOf_X3_isCell
theorem dX3_startOf_0 : decode cX3_startOf 0 = .ok (.iload_n 1, 1) := by decide +kernel
theorem dX3_startOf_1 : decode cX3_startOf 1 = .ok (.iload_n 2, 1) := by decide +kernel
theorem dX3_startOf_2 : decode cX3_startOf 2 = .ok (.invokestatic 98, 3) := by decide +kernel
theorem dX3_startOf_5 : decode cX3_startOf 5 = .ok (.ifCond .eq 17, 3) := by decide +kernel
theorem dX3_startOf_8 : decode cX3_startOf 8 = .ok (.aload_n 0, 1) := by decide +kernel
theorem dX3_startOf_9 : decode cX3_startOf 9 = .ok (.getfield 9, 3) := by decide +kernel
theorem dX3_startOf_12 : decode cX3_startOf 12 = .ok (.iload_n 2, 1) := by decide +kernel
theorem dX3_startOf_13 : decode cX3_startOf 13 = .ok (.bipush 8, 2) := by decide +kernel
theorem dX3_startOf_15 : decode cX3_startOf 15 = .ok (.imul, 1) := by decide +kernel
theorem dX3_startOf_16 : decode cX3_startOf 16 = .ok (.iload_n 1, 1) := by decide +kernel
theorem dX3_startOf_17 : decode cX3_startOf 17 = .ok (.iadd, 1) := by decide +kernel
theorem dX3_startOf_18 : decode cX3_startOf 18 = .ok (.iaload, 1) := by decide +kernel
theorem dX3_startOf_19 : decode cX3_startOf 19 = .ok (.goto 4, 3) := by decide +kernel
theorem dX3_startOf_22 : decode cX3_startOf 22 = .ok (.iconst 0, 1) := by decide +kernel
theorem dX3_startOf_23 : decode cX3_startOf 23 = .ok (.ireturn, 1) := by decide +kernel
set_option maxRecDepth 20000 in
theorem ggX3_keepStart_X3_isCell : GoodIn wsX3_keepStart wsX3_isCell := goodIn_r _ [5] (by decide +kernel) (by decide +kernel)
set_option maxRecDepth 20000 in
theorem gX3_keepStart_X3_isCell : GoodIn wsX3_keepStart (va_wsS RX3 98 yX3_isCell wsX3_isCell) := goodIn_app (goodIn_of _ (by decide +kernel)) ggX3_keepStart_X3_isCell
theorem dX3_keepStart_0 : decode cX3_keepStart 0 = .ok (.iload_n 1, 1) := by decide +kernel
theorem dX3_keepStart_1 : decode cX3_keepStart 1 = .ok (.iload_n 2, 1) := by decide +kernel
theorem dX3_keepStart_2 : decode cX3_keepStart 2 = .ok (.invokestatic 98, 3) := by decide +kernel
theorem dX3_keepStart_5 : decode cX3_keepStart 5 = .ok (.ifCond .eq 15, 3) := by decide +kernel
theorem dX3_keepStart_8 : decode cX3_keepStart 8 = .ok (.aload_n 0, 1) := by decide +kernel
theorem dX3_keepStart_9 : decode cX3_keepStart 9 = .ok (.getfield 9, 3) := by decide +kernel
theorem dX3_keepStart_12 : decode cX3_keepStart 12 = .ok (.iload_n 2, 1) := by decide +kernel
theorem dX3_keepStart_13 : decode cX3_keepStart 13 = .ok (.bipush 8, 2) := by decide +kernel
theorem dX3_keepStart_15 : decode cX3_keepStart 15 = .ok (.imul, 1) := by decide +kernel
theorem dX3_keepStart_16 : decode cX3_keepStart 16 = .ok (.iload_n 1, 1) := by decide +kernel
theorem dX3_keepStart_17 : decode cX3_keepStart 17 = .ok (.iadd, 1) := by decide +kernel
theorem dX3_keepStart_18 : decode cX3_keepStart 18 = .ok (.iload_n 3, 1) := by decide +kernel
theorem dX3_keepStart_19 : decode cX3_keepStart 19 = .ok (.iastore, 1) := by decide +kernel
theorem dX3_keepStart_20 : decode cX3_keepStart 20 = .ok (.return_, 1) := by decide +kernel
theorem dX3_latestFirstStart_0 : decode cX3_latestFirstStart 0 = .ok (.iconst 0, 1) := by decide +kernel
theorem dX3_latestFirstStart_1 : decode cX3_latestFirstStart 1 = .ok (.istore_n 1, 1) := by decide +kernel
theorem dX3_latestFirstStart_2 : decode cX3_latestFirstStart 2 = .ok (.iconst 0, 1) := by decide +kernel
theorem dX3_latestFirstStart_3 : decode cX3_latestFirstStart 3 = .ok (.istore_n 2, 1) := by decide +kernel
theorem dX3_latestFirstStart_4 : decode cX3_latestFirstStart 4 = .ok (.iload_n 2, 1) := by decide +kernel
theorem dX3_latestFirstStart_5 : decode cX3_latestFirstStart 5 = .ok (.bipush 6, 2) := by decide +kernel
theorem dX3_latestFirstStart_7 : decode cX3_latestFirstStart 7 = .ok (.if_icmp .ge 29, 3) := by decide +kernel
theorem dX3_latestFirstStart_10 : decode cX3_latestFirstStart 10 = .ok (.aload_n 0, 1) := by decide +kernel
theorem dX3_latestFirstStart_11 : decode cX3_latestFirstStart 11 = .ok (.getfield 18, 3) := by decide +kernel
theorem dX3_latestFirstStart_14 : decode cX3_latestFirstStart 14 = .ok (.iload_n 2, 1) := by decide +kernel
theorem dX3_latestFirstStart_15 : decode cX3_latestFirstStart 15 = .ok (.iaload, 1) := by decide +kernel
theorem dX3_latestFirstStart_16 : decode cX3_latestFirstStart 16 = .ok (.ifCond .le 14, 3) := by decide +kernel
theorem dX3_latestFirstStart_19 : decode cX3_latestFirstStart 19 = .ok (.iload_n 1, 1) := by decide +kernel
theorem dX3_latestFirstStart_20 : decode cX3_latestFirstStart 20 = .ok (.aload_n 0, 1) := by decide +kernel
theorem dX3_latestFirstStart_21 : decode cX3_latestFirstStart 21 = .ok (.getfield 21, 3) := by decide +kernel
theorem dX3_latestFirstStart_24 : decode cX3_latestFirstStart 24 = .ok (.iload_n 2, 1) := by decide +kernel
theorem dX3_latestFirstStart_25 : decode cX3_latestFirstStart 25 = .ok (.iaload, 1) := by decide +kernel
theorem dX3_latestFirstStart_26 : decode cX3_latestFirstStart 26 = .ok (.invokestatic 60, 3) := by decide +kernel
theorem dX3_latestFirstStart_29 : decode cX3_latestFirstStart 29 = .ok (.istore_n 1, 1) := by decide +kernel
theorem dX3_latestFirstStart_30 : decode cX3_latestFirstStart 30 = .ok (.iinc 2 1, 3) := by decide +kernel
theorem dX3_latestFirstStart_33 : decode cX3_latestFirstStart 33 = .ok (.goto (-29), 3) := by decide +kernel
theorem dX3_latestFirstStart_36 : decode cX3_latestFirstStart 36 = .ok (.iload_n 1, 1) := by decide +kernel
theorem dX3_latestFirstStart_37 : decode cX3_latestFirstStart 37 = .ok (.ireturn, 1) := by decide +kernel
theorem dX3_earliestEnd_0 : decode cX3_earliestEnd 0 = .ok (.aload_n 0, 1) := by decide +kernel
theorem dX3_earliestEnd_1 : decode cX3_earliestEnd 1 = .ok (.getfield 30, 3) := by decide +kernel
theorem dX3_earliestEnd_4 : decode cX3_earliestEnd 4 = .ok (.istore_n 1, 1) := by decide +kernel
theorem dX3_earliestEnd_5 : decode cX3_earliestEnd 5 = .ok (.iconst 0, 1) := by decide +kernel
theorem dX3_earliestEnd_6 : decode cX3_earliestEnd 6 = .ok (.istore_n 2, 1) := by decide +kernel
theorem dX3_earliestEnd_7 : decode cX3_earliestEnd 7 = .ok (.iload_n 2, 1) := by decide +kernel
theorem dX3_earliestEnd_8 : decode cX3_earliestEnd 8 = .ok (.bipush 6, 2) := by decide +kernel
theorem dX3_earliestEnd_10 : decode cX3_earliestEnd 10 = .ok (.if_icmp .ge 29, 3) := by decide +kernel
theorem dX3_earliestEnd_13 : decode cX3_earliestEnd 13 = .ok (.aload_n 0, 1) := by decide +kernel
theorem dX3_earliestEnd_14 : decode cX3_earliestEnd 14 = .ok (.getfield 18, 3) := by decide +kernel
theorem dX3_earliestEnd_17 : decode cX3_earliestEnd 17 = .ok (.iload_n 2, 1) := by decide +kernel
theorem dX3_earliestEnd_18 : decode cX3_earliestEnd 18 = .ok (.iaload, 1) := by decide +kernel
theorem dX3_earliestEnd_19 : decode cX3_earliestEnd 19 = .ok (.ifCond .le 14, 3) := by decide +kernel
theorem dX3_earliestEnd_22 : decode cX3_earliestEnd 22 = .ok (.iload_n 1, 1) := by decide +kernel
theorem dX3_earliestEnd_23 : decode cX3_earliestEnd 23 = .ok (.aload_n 0, 1) := by decide +kernel
theorem dX3_earliestEnd_24 : decode cX3_earliestEnd 24 = .ok (.getfield 27, 3) := by decide +kernel
theorem dX3_earliestEnd_27 : decode cX3_earliestEnd 27 = .ok (.iload_n 2, 1) := by decide +kernel
theorem dX3_earliestEnd_28 : decode cX3_earliestEnd 28 = .ok (.iaload, 1) := by decide +kernel
theorem dX3_earliestEnd_29 : decode cX3_earliestEnd 29 = .ok (.invokestatic 102, 3) := by decide +kernel
theorem dX3_earliestEnd_32 : decode cX3_earliestEnd 32 = .ok (.istore_n 1, 1) := by decide +kernel
theorem dX3_earliestEnd_33 : decode cX3_earliestEnd 33 = .ok (.iinc 2 1, 3) := by decide +kernel
theorem dX3_earliestEnd_36 : decode cX3_earliestEnd 36 = .ok (.goto (-29), 3) := by decide +kernel
theorem dX3_earliestEnd_39 : decode cX3_earliestEnd 39 = .ok (.iload_n 1, 1) := by decide +kernel
theorem dX3_earliestEnd_40 : decode cX3_earliestEnd 40 = .ok (.ireturn, 1) := by decide +kernel
theorem dX4_init_0 : decode cX4_init 0 = .ok (.aload_n 0, 1) := by decide +kernel
theorem dX4_init_1 : decode cX4_init 1 = .ok (.invokespecial 3, 3) := by decide +kernel
theorem dX4_init_4 : decode cX4_init 4 = .ok (.aload_n 0, 1) := by decide +kernel
theorem dX4_init_5 : decode cX4_init 5 = .ok (.bipush 60, 2) := by decide +kernel
theorem dX4_init_7 : decode cX4_init 7 = .ok (.newarray .char, 2) := by decide +kernel
theorem dX4_init_9 : decode cX4_init 9 = .ok (.putfield 9, 3) := by decide +kernel
theorem dX4_init_12 : decode cX4_init 12 = .ok (.return_, 1) := by decide +kernel
theorem dX4_isWritable_0 : decode cX4_isWritable 0 = .ok (.bipush 24, 2) := by decide +kernel
theorem dX4_isWritable_2 : decode cX4_isWritable 2 = .ok (.istore_n 1, 1) := by decide +kernel
theorem dX4_isWritable_3 : decode cX4_isWritable 3 = .ok (.iload_n 1, 1) := by decide +kernel
theorem dX4_isWritable_4 : decode cX4_isWritable 4 = .ok (.ifCond .lt 35, 3) := by decide +kernel
theorem dX4_isWritable_7 : decode cX4_isWritable 7 = .ok (.iload_n 0, 1) := by decide +kernel
theorem dX4_isWritable_8 : decode cX4_isWritable 8 = .ok (.iload_n 1, 1) := by decide +kernel
theorem dX4_isWritable_9 : decode cX4_isWritable 9 = .ok (.ishr, 1) := by decide +kernel
theorem dX4_isWritable_10 : decode cX4_isWritable 10 = .ok (.sipush 255, 3) := by decide +kernel
theorem dX4_isWritable_13 : decode cX4_isWritable 13 = .ok (.iand, 1) := by decide +kernel
theorem dX4_isWritable_14 : decode cX4_isWritable 14 = .ok (.istore_n 2, 1) := by decide +kernel
theorem dX4_isWritable_15 : decode cX4_isWritable 15 = .ok (.iload_n 2, 1) := by decide +kernel
theorem dX4_isWritable_16 : decode cX4_isWritable 16 = .ok (.ifCond .eq 17, 3) := by decide +kernel
theorem dX4_isWritable_19 : decode cX4_isWritable 19 = .ok (.iload_n 2, 1) := by decide +kernel
theorem dX4_isWritable_20 : decode cX4_isWritable 20 = .ok (.bipush 33, 2) := by decide +kernel
theorem dX4_isWritable_22 : decode cX4_isWritable 22 = .ok (.if_icmp .lt 9, 3) := by decide +kernel
theorem dX4_isWritable_25 : decode cX4_isWritable 25 = .ok (.iload_n 2, 1) := by decide +kernel
theorem dX4_isWritable_26 : decode cX4_isWritable 26 = .ok (.bipush 126, 2) := by decide +kernel
theorem dX4_isWritable_28 : decode cX4_isWritable 28 = .ok (.if_icmp .le 5, 3) := by decide +kernel
theorem dX4_isWritable_31 : decode cX4_isWritable 31 = .ok (.iconst 0, 1) := by decide +kernel
theorem dX4_isWritable_32 : decode cX4_isWritable 32 = .ok (.ireturn, 1) := by decide +kernel
theorem dX4_isWritable_33 : decode cX4_isWritable 33 = .ok (.iinc 1 (-8), 3) := by decide +kernel
theorem dX4_isWritable_36 : decode cX4_isWritable 36 = .ok (.goto (-33), 3) := by decide +kernel
theorem dX4_isWritable_39 : decode cX4_isWritable 39 = .ok (.iconst 1, 1) := by decide +kernel
theorem dX4_isWritable_40 : decode cX4_isWritable 40 = .ok (.ireturn, 1) := by decide +kernel
theorem dX4_hasRoomFor_0 : decode cX4_hasRoomFor 0 = .ok (.iconst 0, 1) := by decide +kernel
theorem dX4_hasRoomFor_1 : decode cX4_hasRoomFor 1 = .ok (.istore_n 2, 1) := by decide +kernel
theorem dX4_hasRoomFor_2 : decode cX4_hasRoomFor 2 = .ok (.bipush 24, 2) := by decide +kernel
theorem dX4_hasRoomFor_4 : decode cX4_hasRoomFor 4 = .ok (.istore_n 3, 1) := by decide +kernel
theorem dX4_hasRoomFor_5 : decode cX4_hasRoomFor 5 = .ok (.iload_n 3, 1) := by decide +kernel
theorem dX4_hasRoomFor_6 : decode cX4_hasRoomFor 6 = .ok (.ifCond .lt 22, 3) := by decide +kernel
theorem dX4_hasRoomFor_9 : decode cX4_hasRoomFor 9 = .ok (.iload_n 1, 1) := by decide +kernel
theorem dX4_hasRoomFor_10 : decode cX4_hasRoomFor 10 = .ok (.iload_n 3, 1) := by decide +kernel
theorem dX4_hasRoomFor_11 : decode cX4_hasRoomFor 11 = .ok (.ishr, 1) := by decide +kernel
theorem dX4_hasRoomFor_12 : decode cX4_hasRoomFor 12 = .ok (.sipush 255, 3) := by decide +kernel
theorem dX4_hasRoomFor_15 : decode cX4_hasRoomFor 15 = .ok (.iand, 1) := by decide +kernel
theorem dX4_hasRoomFor_16 : decode cX4_hasRoomFor 16 = .ok (.ifCond .eq 6, 3) := by decide +kernel
theorem dX4_hasRoomFor_19 : decode cX4_hasRoomFor 19 = .ok (.iinc 2 1, 3) := by decide +kernel
theorem dX4_hasRoomFor_22 : decode cX4_hasRoomFor 22 = .ok (.iinc 3 (-8), 3) := by decide +kernel
theorem dX4_hasRoomFor_25 : decode cX4_hasRoomFor 25 = .ok (.goto (-20), 3) := by decide +kernel
theorem dX4_hasRoomFor_28 : decode cX4_hasRoomFor 28 = .ok (.aload_n 0, 1) := by decide +kernel
theorem dX4_hasRoomFor_29 : decode cX4_hasRoomFor 29 = .ok (.getfield 15, 3) := by decide +kernel
theorem dX4_hasRoomFor_32 : decode cX4_hasRoomFor 32 = .ok (.iload_n 2, 1) := by decide +kernel
theorem dX4_hasRoomFor_33 : decode cX4_hasRoomFor 33 = .ok (.iadd, 1) := by decide +kernel
theorem dX4_hasRoomFor_34 : decode cX4_hasRoomFor 34 = .ok (.bipush 60, 2) := by decide +kernel
theorem dX4_hasRoomFor_36 : decode cX4_hasRoomFor 36 = .ok (.if_icmp .gt 7, 3) := by decide +kernel
theorem dX4_hasRoomFor_39 : decode cX4_hasRoomFor 39 = .ok (.iconst 1, 1) := by decide +kernel
theorem dX4_hasRoomFor_40 : decode cX4_hasRoomFor 40 = .ok (.goto 4, 3) := by decide +kernel
theorem dX4_hasRoomFor_43 : decode cX4_hasRoomFor 43 = .ok (.iconst 0, 1) := by decide +kernel
theorem dX4_hasRoomFor_44 : decode cX4_hasRoomFor 44 = .ok (.ireturn, 1) := by decide +kernel
theorem dX4_add_0 : decode cX4_add 0 = .ok (.bipush 24, 2) := by decide +kernel
theorem dX4_add_2 : decode cX4_add 2 = .ok (.istore_n 2, 1) := by decide +kernel
theorem dX4_add_3 : decode cX4_add 3 = .ok (.iload_n 2, 1) := by decide +kernel
theorem dX4_add_4 : decode cX4_add 4 = .ok (.ifCond .lt 51, 3) := by decide +kernel
theorem dX4_add_7 : decode cX4_add 7 = .ok (.iload_n 1, 1) := by decide +kernel
theorem dX4_add_8 : decode cX4_add 8 = .ok (.iload_n 2, 1) := by decide +kernel
theorem dX4_add_9 : decode cX4_add 9 = .ok (.ishr, 1) := by decide +kernel
theorem dX4_add_10 : decode cX4_add 10 = .ok (.sipush 255, 3) := by decide +kernel
theorem dX4_add_13 : decode cX4_add 13 = .ok (.iand, 1) := by decide +kernel
theorem dX4_add_14 : decode cX4_add 14 = .ok (.istore_n 3, 1) := by decide +kernel
theorem dX4_add_15 : decode cX4_add 15 = .ok (.iload_n 3, 1) := by decide +kernel
theorem dX4_add_16 : decode cX4_add 16 = .ok (.ifCond .eq 33, 3) := by decide +kernel
theorem dX4_add_19 : decode cX4_add 19 = .ok (.aload_n 0, 1) := by decide +kernel
theorem dX4_add_20 : decode cX4_add 20 = .ok (.getfield 15, 3) := by decide +kernel
theorem dX4_add_23 : decode cX4_add 23 = .ok (.bipush 60, 2) := by decide +kernel
theorem dX4_add_25 : decode cX4_add 25 = .ok (.if_icmp .ge 24, 3) := by decide +kernel
theorem dX4_add_28 : decode cX4_add 28 = .ok (.aload_n 0, 1) := by decide +kernel
theorem dX4_add_29 : decode cX4_add 29 = .ok (.getfield 9, 3) := by decide +kernel
theorem dX4_add_32 : decode cX4_add 32 = .ok (.aload_n 0, 1) := by decide +kernel
theorem dX4_add_33 : decode cX4_add 33 = .ok (.getfield 15, 3) := by decide +kernel
theorem dX4_add_36 : decode cX4_add 36 = .ok (.iload_n 3, 1) := by decide +kernel
theorem dX4_add_37 : decode cX4_add 37 = .ok (.i2c, 1) := by decide +kernel
theorem dX4_add_38 : decode cX4_add 38 = .ok (.castore, 1) := by decide +kernel
theorem dX4_add_39 : decode cX4_add 39 = .ok (.aload_n 0, 1) := by decide +kernel
theorem dX4_add_40 : decode cX4_add 40 = .ok (.dup, 1) := by decide +kernel
theorem dX4_add_41 : decode cX4_add 41 = .ok (.getfield 15, 3) := by decide +kernel
theorem dX4_add_44 : decode cX4_add 44 = .ok (.iconst 1, 1) := by decide +kernel
theorem dX4_add_45 : decode cX4_add 45 = .ok (.iadd, 1) := by decide +kernel
theorem dX4_add_46 : decode cX4_add 46 = .ok (.putfield 15, 3) := by decide +kernel
theorem dX4_add_49 : decode cX4_add 49 = .ok (.iinc 2 (-8), 3) := by decide +kernel
theorem dX4_add_52 : decode cX4_add 52 = .ok (.goto (-49), 3) := by decide +kernel
theorem dX4_add_55 : decode cX4_add 55 = .ok (.return_, 1) := by decide +kernel
set_option maxRecDepth 20000 in
theorem ggX4_readInto_X4_readCommand : GoodIn wsX4_readInto wsX4_readCommand := goodIn_r _ [7, 8, 9, 10, 6, 11, 1, 2, 12, 13, 14, 15, 16, 17, 18, 19, 20, 21, 22, 23, 24, 25, 26, 27, 28, 29, 30, 31, 32, 33, 34, 35, 36, 37, 38, 39, 40, 41, 42, 43, 44, 45, 46, 47, 48, 49, 50, 51, 52, 53, 54, 55, 56, 57, 58, 59, 60, 61, 62, 63, 64, 65, 66, 67, 68, 69, 70] (by decide +kernel) (by decide +kernel)
set_option maxRecDepth 20000 in
theorem gX4_readInto_X4_readCommand : GoodIn wsX4_readInto (wsV RX4 22 RX4 yX4_readCommand wsX4_readCommand) := goodIn_app (goodIn_of _ (by decide +kernel)) ggX4_readInto_X4_readCommand
theorem dX4_readInto_0 : decode cX4_readInto 0 = .ok (.aload_n 0, 1) := by decide +kernel
theorem dX4_readInto_1 : decode cX4_readInto 1 = .ok (.iconst 0, 1) := by decide +kernel
theorem dX4_readInto_2 : decode cX4_readInto 2 = .ok (.putfield 19, 3) := by decide +kernel
theorem dX4_readInto_5 : decode cX4_readInto 5 = .ok (.iconst 1, 1) := by decide +kernel
theorem dX4_readInto_6 : decode cX4_readInto 6 = .ok (.istore_n 2, 1) := by decide +kernel
theorem dX4_readInto_7 : decode cX4_readInto 7 = .ok (.iload_n 2, 1) := by decide +kernel
theorem dX4_readInto_8 : decode cX4_readInto 8 = .ok (.bipush 60, 2) := by decide +kernel
theorem dX4_readInto_10 : decode cX4_readInto 10 = .ok (.if_icmp .gt 32, 3) := by decide +kernel
theorem dX4_readInto_13 : decode cX4_readInto 13 = .ok (.aload_n 0, 1) := by decide +kernel
theorem dX4_readInto_14 : decode cX4_readInto 14 = .ok (.aload_n 1, 1) := by decide +kernel
theorem dX4_readInto_15 : decode cX4_readInto 15 = .ok (.invokevirtual 22, 3) := by decide +kernel
theorem dX4_readInto_18 : decode cX4_readInto 18 = .ok (.ifCond .ne 5, 3) := by decide +kernel
theorem dX4_readInto_21 : decode cX4_readInto 21 = .ok (.iconst (-1), 1) := by decide +kernel
theorem dX4_readInto_22 : decode cX4_readInto 22 = .ok (.ireturn, 1) := by decide +kernel
theorem dX4_readInto_23 : decode cX4_readInto 23 = .ok (.aload_n 0, 1) := by decide +kernel
theorem dX4_readInto_24 : decode cX4_readInto 24 = .ok (.getfield 19, 3) := by decide +kernel
theorem dX4_readInto_27 : decode cX4_readInto 27 = .ok (.aload_n 0, 1) := by decide +kernel
theorem dX4_readInto_28 : decode cX4_readInto 28 = .ok (.getfield 15, 3) := by decide +kernel
theorem dX4_readInto_31 : decode cX4_readInto 31 = .ok (.if_icmp .lt 5, 3) := by decide +kernel
theorem dX4_readInto_34 : decode cX4_readInto 34 = .ok (.iload_n 2, 1) := by decide +kernel
theorem dX4_readInto_35 : decode cX4_readInto 35 = .ok (.ireturn, 1) := by decide +kernel
theorem dX4_readInto_36 : decode cX4_readInto 36 = .ok (.iinc 2 1, 3) := by decide +kernel
theorem dX4_readInto_39 : decode cX4_readInto 39 = .ok (.goto (-32), 3) := by decide +kernel
theorem dX4_readInto_42 : decode cX4_readInto 42 = .ok (.iconst (-1), 1) := by decide +kernel
theorem dX4_readInto_43 : decode cX4_readInto 43 = .ok (.ireturn, 1) := by decide +kernel
set_option maxRecDepth 20000 in
theorem ggX4_readCommand_X4_current : GoodIn wsX4_readCommand wsX4_current := goodIn_r _ [5, 6, 7, 8, 52, 53, 54] (by decide +kernel) (by decide +kernel)
set_option maxRecDepth 20000 in
theorem gX4_readCommand_X4_current : GoodIn wsX4_readCommand (wsV RX4 26 RX4 yX4_current wsX4_current) := goodIn_app (goodIn_of _ (by decide +kernel)) ggX4_readCommand_X4_current
set_option maxRecDepth 20000 in
theorem ggX4_readCommand_X4_readStatement : GoodIn wsX4_readCommand wsX4_readStatement := goodIn_r _ [12, 6, 13, 14, 15, 4, 16, 1, 2, 3, 5, 7, 8, 17, 18, 19, 20, 21, 22, 23, 24, 25, 26, 27, 28, 29, 55, 56, 57, 58, 59, 60, 61, 62, 63, 64, 65, 66, 52, 53, 54] (by decide +kernel) (by decide +kernel)
set_option maxRecDepth 20000 in
theorem gX4_readCommand_X4_readStatement : GoodIn wsX4_readCommand (wsV RX4 30 RX4 yX4_readStatement wsX4_readStatement) := goodIn_app (goodIn_of _ (by decide +kernel)) ggX4_readCommand_X4_readStatement
set_option maxRecDepth 20000 in
theorem ggX4_readCommand_X4_readDependence : GoodIn wsX4_readCommand wsX4_readDependence := goodIn_r _ [33, 6, 13, 14, 15, 4, 16, 1, 2, 3, 5, 7, 8, 34, 35, 36, 24, 37, 26, 17, 18, 19, 20, 38, 39, 40, 41, 28, 42, 43, 44, 45, 46, 47, 48, 49, 50, 51, 55, 56, 57, 58, 59, 60, 61, 62, 63, 64, 65, 66, 52, 53, 54] (by decide +kernel) (by decide +kernel)
set_option maxRecDepth 20000 in
theorem gX4_readCommand_X4_readDependence : GoodIn wsX4_readCommand (wsV RX4 33 RX4 yX4_readDependence wsX4_readDependence) := goodIn_app (goodIn_of _ (by decide +kernel)) ggX4_readCommand_X4_readDependence
theorem dX4_readCommand_0 : decode cX4_readCommand 0 = .ok (.aload_n 0, 1) := by decide +kernel
theorem dX4_readCommand_1 : decode cX4_readCommand 1 = .ok (.invokevirtual 26, 3) := by decide +kernel
theorem dX4_readCommand_4 : decode cX4_readCommand 4 = .ok (.lookupswitch 71 #[(97, 57), (102, 50), (111, 64), (115, 44)], 44) := by decide +kernel
theorem dX4_readCommand_48 : decode cX4_readCommand 48 = .ok (.aload_n 0, 1) := by decide +kernel
theorem dX4_readCommand_49 : decode cX4_readCommand 49 = .ok (.aload_n 1, 1) := by decide +kernel
theorem dX4_readCommand_50 : decode cX4_readCommand 50 = .ok (.invokevirtual 30, 3) := by decide +kernel
theorem dX4_readCommand_53 : decode cX4_readCommand 53 = .ok (.ireturn, 1) := by decide +kernel
theorem dX4_readCommand_54 : decode cX4_readCommand 54 = .ok (.aload_n 0, 1) := by decide +kernel
theorem dX4_readCommand_55 : decode cX4_readCommand 55 = .ok (.aload_n 1, 1) := by decide +kernel
theorem dX4_readCommand_56 : decode cX4_readCommand 56 = .ok (.iconst 0, 1) := by decide +kernel
theorem dX4_readCommand_57 : decode cX4_readCommand 57 = .ok (.invokevirtual 33, 3) := by decide +kernel
theorem dX4_readCommand_60 : decode cX4_readCommand 60 = .ok (.ireturn, 1) := by decide +kernel
theorem dX4_readCommand_61 : decode cX4_readCommand 61 = .ok (.aload_n 0, 1) := by decide +kernel
theorem dX4_readCommand_62 : decode cX4_readCommand 62 = .ok (.aload_n 1, 1) := by decide +kernel
theorem dX4_readCommand_63 : decode cX4_readCommand 63 = .ok (.iconst 1, 1) := by decide +kernel
theorem dX4_readCommand_64 : decode cX4_readCommand 64 = .ok (.invokevirtual 33, 3) := by decide +kernel
theorem dX4_readCommand_67 : decode cX4_readCommand 67 = .ok (.ireturn, 1) := by decide +kernel
theorem dX4_readCommand_68 : decode cX4_readCommand 68 = .ok (.aload_n 0, 1) := by decide +kernel
theorem dX4_readCommand_69 : decode cX4_readCommand 69 = .ok (.aload_n 1, 1) := by decide +kernel
theorem dX4_readCommand_70 : decode cX4_readCommand 70 = .ok (.iconst 2, 1) := by decide +kernel
theorem dX4_readCommand_71 : decode cX4_readCommand 71 = .ok (.invokevirtual 33, 3) := by decide +kernel
theorem dX4_readCommand_74 : decode cX4_readCommand 74 = .ok (.ireturn, 1) := by decide +kernel
theorem dX4_readCommand_75 : decode cX4_readCommand 75 = .ok (.iconst 0, 1) := by decide +kernel
theorem dX4_readCommand_76 : decode cX4_readCommand 76 = .ok (.ireturn, 1) := by decide +kernel
set_option maxRecDepth 20000 in
theorem ggX4_readStatement_X4_digit : GoodIn wsX4_readStatement wsX4_digit := goodIn_r _ [6, 7, 8, 9, 5, 10, 1, 11, 12, 38, 39, 40] (by decide +kernel) (by decide +kernel)
set_option maxRecDepth 20000 in
theorem gX4_readStatement_X4_digit : GoodIn wsX4_readStatement (wsV RX4 42 RX4 yX4_digit wsX4_digit) := goodIn_app (goodIn_of _ (by decide +kernel)) ggX4_readStatement_X4_digit
set_option maxRecDepth 20000 in
theorem ggX4_readStatement_X4_passes : GoodIn wsX4_readStatement wsX4_passes := goodIn_r _ [16, 1, 7, 8, 9, 5, 10, 11, 12, 38, 39, 40] (by decide +kernel) (by decide +kernel)
set_option maxRecDepth 20000 in
theorem gX4_readStatement_X4_passes : GoodIn wsX4_readStatement (wsV RX4 46 RX4 yX4_passes wsX4_passes) := goodIn_app (goodIn_of _ (by decide +kernel)) ggX4_readStatement_X4_passes
set_option maxRecDepth 20000 in
theorem ggX4_readStatement_X0_addStatement : GoodIn wsX4_readStatement wsX0_addStatement := goodIn_r _ [21, 22, 23, 24, 25, 26, 27, 28, 29, 30, 31, 32, 33, 34, 35, 36, 37] (by decide +kernel) (by decide +kernel)
set_option maxRecDepth 20000 in
theorem gX4_readStatement_X0_addStatement : GoodIn wsX4_readStatement (wsV RX4 50 RX0 yX0_addStatement wsX0_addStatement) := goodIn_app (goodIn_of _ (by decide +kernel)) ggX4_readStatement_X0_addStatement
theorem dX4_readStatement_0 : decode cX4_readStatement 0 = .ok (.aload_n 1, 1) := by decide +kernel
theorem dX4_readStatement_1 : decode cX4_readStatement 1 = .ok (.getfield 37, 3) := by decide +kernel
theorem dX4_readStatement_4 : decode cX4_readStatement 4 = .ok (.bipush 8, 2) := by decide +kernel
theorem dX4_readStatement_6 : decode cX4_readStatement 6 = .ok (.if_icmp .lt 5, 3) := by decide +kernel
theorem dX4_readStatement_9 : decode cX4_readStatement 9 = .ok (.iconst 0, 1) := by decide +kernel
theorem dX4_readStatement_10 : decode cX4_readStatement 10 = .ok (.ireturn, 1) := by decide +kernel
theorem dX4_readStatement_11 : decode cX4_readStatement 11 = .ok (.aload_n 0, 1) := by decide +kernel
theorem dX4_readStatement_12 : decode cX4_readStatement 12 = .ok (.dup, 1) := by decide +kernel
theorem dX4_readStatement_13 : decode cX4_readStatement 13 = .ok (.getfield 19, 3) := by decide +kernel
theorem dX4_readStatement_16 : decode cX4_readStatement 16 = .ok (.iconst 1, 1) := by decide +kernel
theorem dX4_readStatement_17 : decode cX4_readStatement 17 = .ok (.iadd, 1) := by decide +kernel
theorem dX4_readStatement_18 : decode cX4_readStatement 18 = .ok (.putfield 19, 3) := by decide +kernel
theorem dX4_readStatement_21 : decode cX4_readStatement 21 = .ok (.aload_n 0, 1) := by decide +kernel
theorem dX4_readStatement_22 : decode cX4_readStatement 22 = .ok (.invokevirtual 42, 3) := by decide +kernel
theorem dX4_readStatement_25 : decode cX4_readStatement 25 = .ok (.istore_n 2, 1) := by decide +kernel
theorem dX4_readStatement_26 : decode cX4_readStatement 26 = .ok (.iload_n 2, 1) := by decide +kernel
theorem dX4_readStatement_27 : decode cX4_readStatement 27 = .ok (.iconst 1, 1) := by decide +kernel
theorem dX4_readStatement_28 : decode cX4_readStatement 28 = .ok (.if_icmp .ge 5, 3) := by decide +kernel
theorem dX4_readStatement_31 : decode cX4_readStatement 31 = .ok (.iconst 0, 1) := by decide +kernel
theorem dX4_readStatement_32 : decode cX4_readStatement 32 = .ok (.ireturn, 1) := by decide +kernel
theorem dX4_readStatement_33 : decode cX4_readStatement 33 = .ok (.aload_n 0, 1) := by decide +kernel
theorem dX4_readStatement_34 : decode cX4_readStatement 34 = .ok (.dup, 1) := by decide +kernel
theorem dX4_readStatement_35 : decode cX4_readStatement 35 = .ok (.getfield 19, 3) := by decide +kernel
theorem dX4_readStatement_38 : decode cX4_readStatement 38 = .ok (.iconst 1, 1) := by decide +kernel
theorem dX4_readStatement_39 : decode cX4_readStatement 39 = .ok (.iadd, 1) := by decide +kernel
theorem dX4_readStatement_40 : decode cX4_readStatement 40 = .ok (.putfield 19, 3) := by decide +kernel
theorem dX4_readStatement_43 : decode cX4_readStatement 43 = .ok (.aload_n 0, 1) := by decide +kernel
theorem dX4_readStatement_44 : decode cX4_readStatement 44 = .ok (.bipush 59, 2) := by decide +kernel
theorem dX4_readStatement_46 : decode cX4_readStatement 46 = .ok (.invokevirtual 46, 3) := by decide +kernel
theorem dX4_readStatement_49 : decode cX4_readStatement 49 = .ok (.ifCond .ne 5, 3) := by decide +kernel
theorem dX4_readStatement_52 : decode cX4_readStatement 52 = .ok (.iconst 0, 1) := by decide +kernel
theorem dX4_readStatement_53 : decode cX4_readStatement 53 = .ok (.ireturn, 1) := by decide +kernel
theorem dX4_readStatement_54 : decode cX4_readStatement 54 = .ok (.aload_n 1, 1) := by decide +kernel
theorem dX4_readStatement_55 : decode cX4_readStatement 55 = .ok (.iload_n 2, 1) := by decide +kernel
theorem dX4_readStatement_56 : decode cX4_readStatement 56 = .ok (.invokevirtual 50, 3) := by decide +kernel
theorem dX4_readStatement_59 : decode cX4_readStatement 59 = .ok (.iconst 1, 1) := by decide +kernel
theorem dX4_readStatement_60 : decode cX4_readStatement 60 = .ok (.ireturn, 1) := by decide +kernel
set_option maxRecDepth 20000 in
theorem ggX4_readDependence_X4_digit : GoodIn wsX4_readDependence wsX4_digit := goodIn_r _ [6, 7, 8, 9, 5, 10, 1, 11, 12, 50, 51, 52] (by decide +kernel) (by decide +kernel)
set_option maxRecDepth 20000 in
theorem gX4_readDependence_X4_digit : GoodIn wsX4_readDependence (wsV RX4 42 RX4 yX4_digit wsX4_digit) := goodIn_app (goodIn_of _ (by decide +kernel)) ggX4_readDependence_X4_digit
set_option maxRecDepth 20000 in
theorem ggX4_readDependence_X0_hasStatement : GoodIn wsX4_readDependence wsX0_hasStatement := goodIn_r _ [17, 18, 38, 39, 40, 41, 42, 43, 44, 45, 46, 47, 48, 49] (by decide +kernel) (by decide +kernel)
set_option maxRecDepth 20000 in
theorem gX4_readDependence_X0_hasStatement : GoodIn wsX4_readDependence (wsV RX4 57 RX0 yX0_hasStatement wsX0_hasStatement) := goodIn_app (goodIn_of _ (by decide +kernel)) ggX4_readDependence_X0_hasStatement
set_option maxRecDepth 20000 in
theorem ggX4_readDependence_X4_passes : GoodIn wsX4_readDependence wsX4_passes := goodIn_r _ [22, 1, 7, 8, 9, 5, 10, 11, 12, 50, 51, 52] (by decide +kernel) (by decide +kernel)
set_option maxRecDepth 20000 in
theorem gX4_readDependence_X4_passes : GoodIn wsX4_readDependence (wsV RX4 46 RX4 yX4_passes wsX4_passes) := goodIn_app (goodIn_of _ (by decide +kernel)) ggX4_readDependence_X4_passes
set_option maxRecDepth 20000 in
theorem ggX4_readDependence_X0_positionOf : GoodIn wsX4_readDependence wsX0_positionOf := goodIn_r _ [26, 27, 38, 39, 40, 41, 42, 43, 44, 45, 46, 47, 48, 49] (by decide +kernel) (by decide +kernel)
set_option maxRecDepth 20000 in
theorem gX4_readDependence_X0_positionOf : GoodIn wsX4_readDependence (wsV RX4 61 RX0 yX0_positionOf wsX0_positionOf) := goodIn_app (goodIn_of _ (by decide +kernel)) ggX4_readDependence_X0_positionOf
set_option maxRecDepth 20000 in
theorem ggX4_readDependence_X0_addDependence : GoodIn wsX4_readDependence wsX0_addDependence := goodIn_r _ [31, 32, 33, 34, 35, 36, 37, 38, 39, 40, 41, 42, 43, 44, 45, 46, 47, 48, 49] (by decide +kernel) (by decide +kernel)
set_option maxRecDepth 20000 in
theorem gX4_readDependence_X0_addDependence : GoodIn wsX4_readDependence (wsV RX4 65 RX0 yX0_addDependence wsX0_addDependence) := goodIn_app (goodIn_of _ (by decide +kernel)) ggX4_readDependence_X0_addDependence
theorem dX4_readDependence_0 : decode cX4_readDependence 0 = .ok (.aload_n 1, 1) := by decide +kernel
theorem dX4_readDependence_1 : decode cX4_readDependence 1 = .ok (.getfield 54, 3) := by decide +kernel
theorem dX4_readDependence_4 : decode cX4_readDependence 4 = .ok (.bipush 16, 2) := by decide +kernel
theorem dX4_readDependence_6 : decode cX4_readDependence 6 = .ok (.if_icmp .lt 5, 3) := by decide +kernel
theorem dX4_readDependence_9 : decode cX4_readDependence 9 = .ok (.iconst 0, 1) := by decide +kernel
theorem dX4_readDependence_10 : decode cX4_readDependence 10 = .ok (.ireturn, 1) := by decide +kernel
theorem dX4_readDependence_11 : decode cX4_readDependence 11 = .ok (.aload_n 0, 1) := by decide +kernel
theorem dX4_readDependence_12 : decode cX4_readDependence 12 = .ok (.dup, 1) := by decide +kernel
theorem dX4_readDependence_13 : decode cX4_readDependence 13 = .ok (.getfield 19, 3) := by decide +kernel
theorem dX4_readDependence_16 : decode cX4_readDependence 16 = .ok (.iconst 1, 1) := by decide +kernel
theorem dX4_readDependence_17 : decode cX4_readDependence 17 = .ok (.iadd, 1) := by decide +kernel
theorem dX4_readDependence_18 : decode cX4_readDependence 18 = .ok (.putfield 19, 3) := by decide +kernel
theorem dX4_readDependence_21 : decode cX4_readDependence 21 = .ok (.aload_n 0, 1) := by decide +kernel
theorem dX4_readDependence_22 : decode cX4_readDependence 22 = .ok (.invokevirtual 42, 3) := by decide +kernel
theorem dX4_readDependence_25 : decode cX4_readDependence 25 = .ok (.istore_n 3, 1) := by decide +kernel
theorem dX4_readDependence_26 : decode cX4_readDependence 26 = .ok (.aload_n 1, 1) := by decide +kernel
theorem dX4_readDependence_27 : decode cX4_readDependence 27 = .ok (.iload_n 3, 1) := by decide +kernel
theorem dX4_readDependence_28 : decode cX4_readDependence 28 = .ok (.invokevirtual 57, 3) := by decide +kernel
theorem dX4_readDependence_31 : decode cX4_readDependence 31 = .ok (.ifCond .ne 5, 3) := by decide +kernel
theorem dX4_readDependence_34 : decode cX4_readDependence 34 = .ok (.iconst 0, 1) := by decide +kernel
theorem dX4_readDependence_35 : decode cX4_readDependence 35 = .ok (.ireturn, 1) := by decide +kernel
theorem dX4_readDependence_36 : decode cX4_readDependence 36 = .ok (.aload_n 0, 1) := by decide +kernel
theorem dX4_readDependence_37 : decode cX4_readDependence 37 = .ok (.dup, 1) := by decide +kernel
theorem dX4_readDependence_38 : decode cX4_readDependence 38 = .ok (.getfield 19, 3) := by decide +kernel
theorem dX4_readDependence_41 : decode cX4_readDependence 41 = .ok (.iconst 1, 1) := by decide +kernel
theorem dX4_readDependence_42 : decode cX4_readDependence 42 = .ok (.iadd, 1) := by decide +kernel
theorem dX4_readDependence_43 : decode cX4_readDependence 43 = .ok (.putfield 19, 3) := by decide +kernel
theorem dX4_readDependence_46 : decode cX4_readDependence 46 = .ok (.aload_n 0, 1) := by decide +kernel
theorem dX4_readDependence_47 : decode cX4_readDependence 47 = .ok (.bipush 62, 2) := by decide +kernel
theorem dX4_readDependence_49 : decode cX4_readDependence 49 = .ok (.invokevirtual 46, 3) := by decide +kernel
theorem dX4_readDependence_52 : decode cX4_readDependence 52 = .ok (.ifCond .ne 5, 3) := by decide +kernel
theorem dX4_readDependence_55 : decode cX4_readDependence 55 = .ok (.iconst 0, 1) := by decide +kernel
theorem dX4_readDependence_56 : decode cX4_readDependence 56 = .ok (.ireturn, 1) := by decide +kernel
theorem dX4_readDependence_57 : decode cX4_readDependence 57 = .ok (.aload_n 0, 1) := by decide +kernel
theorem dX4_readDependence_58 : decode cX4_readDependence 58 = .ok (.invokevirtual 42, 3) := by decide +kernel
theorem dX4_readDependence_61 : decode cX4_readDependence 61 = .ok (.istore 4, 2) := by decide +kernel
theorem dX4_readDependence_63 : decode cX4_readDependence 63 = .ok (.aload_n 1, 1) := by decide +kernel
theorem dX4_readDependence_64 : decode cX4_readDependence 64 = .ok (.iload 4, 2) := by decide +kernel
theorem dX4_readDependence_66 : decode cX4_readDependence 66 = .ok (.invokevirtual 57, 3) := by decide +kernel
theorem dX4_readDependence_69 : decode cX4_readDependence 69 = .ok (.ifCond .ne 5, 3) := by decide +kernel
theorem dX4_readDependence_72 : decode cX4_readDependence 72 = .ok (.iconst 0, 1) := by decide +kernel
theorem dX4_readDependence_73 : decode cX4_readDependence 73 = .ok (.ireturn, 1) := by decide +kernel
theorem dX4_readDependence_74 : decode cX4_readDependence 74 = .ok (.aload_n 0, 1) := by decide +kernel
theorem dX4_readDependence_75 : decode cX4_readDependence 75 = .ok (.dup, 1) := by decide +kernel
theorem dX4_readDependence_76 : decode cX4_readDependence 76 = .ok (.getfield 19, 3) := by decide +kernel
theorem dX4_readDependence_79 : decode cX4_readDependence 79 = .ok (.iconst 1, 1) := by decide +kernel
theorem dX4_readDependence_80 : decode cX4_readDependence 80 = .ok (.iadd, 1) := by decide +kernel
theorem dX4_readDependence_81 : decode cX4_readDependence 81 = .ok (.putfield 19, 3) := by decide +kernel
theorem dX4_readDependence_84 : decode cX4_readDependence 84 = .ok (.aload_n 0, 1) := by decide +kernel
theorem dX4_readDependence_85 : decode cX4_readDependence 85 = .ok (.bipush 58, 2) := by decide +kernel
theorem dX4_readDependence_87 : decode cX4_readDependence 87 = .ok (.invokevirtual 46, 3) := by decide +kernel
theorem dX4_readDependence_90 : decode cX4_readDependence 90 = .ok (.ifCond .ne 5, 3) := by decide +kernel
theorem dX4_readDependence_93 : decode cX4_readDependence 93 = .ok (.iconst 0, 1) := by decide +kernel
theorem dX4_readDependence_94 : decode cX4_readDependence 94 = .ok (.ireturn, 1) := by decide +kernel
theorem dX4_readDependence_95 : decode cX4_readDependence 95 = .ok (.aload_n 0, 1) := by decide +kernel
theorem dX4_readDependence_96 : decode cX4_readDependence 96 = .ok (.invokevirtual 42, 3) := by decide +kernel
theorem dX4_readDependence_99 : decode cX4_readDependence 99 = .ok (.istore 5, 2) := by decide +kernel
theorem dX4_readDependence_101 : decode cX4_readDependence 101 = .ok (.iload 5, 2) := by decide +kernel
theorem dX4_readDependence_103 : decode cX4_readDependence 103 = .ok (.ifCond .lt 9, 3) := by decide +kernel
theorem dX4_readDependence_106 : decode cX4_readDependence 106 = .ok (.iload 5, 2) := by decide +kernel
theorem dX4_readDependence_108 : decode cX4_readDependence 108 = .ok (.iconst 5, 1) := by decide +kernel
theorem dX4_readDependence_109 : decode cX4_readDependence 109 = .ok (.if_icmp .le 5, 3) := by decide +kernel
theorem dX4_readDependence_112 : decode cX4_readDependence 112 = .ok (.iconst 0, 1) := by decide +kernel
theorem dX4_readDependence_113 : decode cX4_readDependence 113 = .ok (.ireturn, 1) := by decide +kernel
theorem dX4_readDependence_114 : decode cX4_readDependence 114 = .ok (.iload 5, 2) := by decide +kernel
theorem dX4_readDependence_116 : decode cX4_readDependence 116 = .ok (.ifCond .ne 19, 3) := by decide +kernel
theorem dX4_readDependence_119 : decode cX4_readDependence 119 = .ok (.aload_n 1, 1) := by decide +kernel
theorem dX4_readDependence_120 : decode cX4_readDependence 120 = .ok (.iload_n 3, 1) := by decide +kernel
theorem dX4_readDependence_121 : decode cX4_readDependence 121 = .ok (.invokevirtual 61, 3) := by decide +kernel
theorem dX4_readDependence_124 : decode cX4_readDependence 124 = .ok (.aload_n 1, 1) := by decide +kernel
theorem dX4_readDependence_125 : decode cX4_readDependence 125 = .ok (.iload 4, 2) := by decide +kernel
theorem dX4_readDependence_127 : decode cX4_readDependence 127 = .ok (.invokevirtual 61, 3) := by decide +kernel
theorem dX4_readDependence_130 : decode cX4_readDependence 130 = .ok (.if_icmp .lt 5, 3) := by decide +kernel
theorem dX4_readDependence_133 : decode cX4_readDependence 133 = .ok (.iconst 0, 1) := by decide +kernel
theorem dX4_readDependence_134 : decode cX4_readDependence 134 = .ok (.ireturn, 1) := by decide +kernel
theorem dX4_readDependence_135 : decode cX4_readDependence 135 = .ok (.aload_n 0, 1) := by decide +kernel
theorem dX4_readDependence_136 : decode cX4_readDependence 136 = .ok (.dup, 1) := by decide +kernel
theorem dX4_readDependence_137 : decode cX4_readDependence 137 = .ok (.getfield 19, 3) := by decide +kernel
theorem dX4_readDependence_140 : decode cX4_readDependence 140 = .ok (.iconst 1, 1) := by decide +kernel
theorem dX4_readDependence_141 : decode cX4_readDependence 141 = .ok (.iadd, 1) := by decide +kernel
theorem dX4_readDependence_142 : decode cX4_readDependence 142 = .ok (.putfield 19, 3) := by decide +kernel
theorem dX4_readDependence_145 : decode cX4_readDependence 145 = .ok (.aload_n 0, 1) := by decide +kernel
theorem dX4_readDependence_146 : decode cX4_readDependence 146 = .ok (.bipush 59, 2) := by decide +kernel
theorem dX4_readDependence_148 : decode cX4_readDependence 148 = .ok (.invokevirtual 46, 3) := by decide +kernel
theorem dX4_readDependence_151 : decode cX4_readDependence 151 = .ok (.ifCond .ne 5, 3) := by decide +kernel
theorem dX4_readDependence_154 : decode cX4_readDependence 154 = .ok (.iconst 0, 1) := by decide +kernel
theorem dX4_readDependence_155 : decode cX4_readDependence 155 = .ok (.ireturn, 1) := by decide +kernel
theorem dX4_readDependence_156 : decode cX4_readDependence 156 = .ok (.aload_n 1, 1) := by decide +kernel
theorem dX4_readDependence_157 : decode cX4_readDependence 157 = .ok (.iload_n 2, 1) := by decide +kernel
theorem dX4_readDependence_158 : decode cX4_readDependence 158 = .ok (.iload_n 3, 1) := by decide +kernel
theorem dX4_readDependence_159 : decode cX4_readDependence 159 = .ok (.iload 4, 2) := by decide +kernel
theorem dX4_readDependence_161 : decode cX4_readDependence 161 = .ok (.iload 5, 2) := by decide +kernel
theorem dX4_readDependence_163 : decode cX4_readDependence 163 = .ok (.invokevirtual 65, 3) := by decide +kernel
theorem dX4_readDependence_166 : decode cX4_readDependence 166 = .ok (.iconst 1, 1) := by decide +kernel
theorem dX4_readDependence_167 : decode cX4_readDependence 167 = .ok (.ireturn, 1) := by decide +kernel
theorem dX4_current_0 : decode cX4_current 0 = .ok (.aload_n 0, 1) := by decide +kernel
theorem dX4_current_1 : decode cX4_current 1 = .ok (.getfield 19, 3) := by decide +kernel
theorem dX4_current_4 : decode cX4_current 4 = .ok (.ifCond .lt 35, 3) := by decide +kernel
theorem dX4_current_7 : decode cX4_current 7 = .ok (.aload_n 0, 1) := by decide +kernel
theorem dX4_current_8 : decode cX4_current 8 = .ok (.getfield 19, 3) := by decide +kernel
theorem dX4_current_11 : decode cX4_current 11 = .ok (.aload_n 0, 1) := by decide +kernel
theorem dX4_current_12 : decode cX4_current 12 = .ok (.getfield 15, 3) := by decide +kernel
theorem dX4_current_15 : decode cX4_current 15 = .ok (.if_icmp .ge 24, 3) := by decide +kernel
theorem dX4_current_18 : decode cX4_current 18 = .ok (.aload_n 0, 1) := by decide +kernel
theorem dX4_current_19 : decode cX4_current 19 = .ok (.getfield 19, 3) := by decide +kernel
theorem dX4_current_22 : decode cX4_current 22 = .ok (.bipush 60, 2) := by decide +kernel
theorem dX4_current_24 : decode cX4_current 24 = .ok (.if_icmp .ge 15, 3) := by decide +kernel
theorem dX4_current_27 : decode cX4_current 27 = .ok (.aload_n 0, 1) := by decide +kernel
theorem dX4_current_28 : decode cX4_current 28 = .ok (.getfield 9, 3) := by decide +kernel
theorem dX4_current_31 : decode cX4_current 31 = .ok (.aload_n 0, 1) := by decide +kernel
theorem dX4_current_32 : decode cX4_current 32 = .ok (.getfield 19, 3) := by decide +kernel
theorem dX4_current_35 : decode cX4_current 35 = .ok (.caload, 1) := by decide +kernel
theorem dX4_current_36 : decode cX4_current 36 = .ok (.goto 4, 3) := by decide +kernel
theorem dX4_current_39 : decode cX4_current 39 = .ok (.iconst 0, 1) := by decide +kernel
theorem dX4_current_40 : decode cX4_current 40 = .ok (.ireturn, 1) := by decide +kernel
set_option maxRecDepth 20000 in
theorem ggX4_digit_X4_current : GoodIn wsX4_digit wsX4_current := goodIn_r _ [5, 6, 7, 8, 9, 10, 11] (by decide +kernel) (by decide +kernel)
set_option maxRecDepth 20000 in
theorem gX4_digit_X4_current : GoodIn wsX4_digit (wsV RX4 26 RX4 yX4_current wsX4_current) := goodIn_app (goodIn_of _ (by decide +kernel)) ggX4_digit_X4_current
theorem dX4_digit_0 : decode cX4_digit 0 = .ok (.aload_n 0, 1) := by decide +kernel
theorem dX4_digit_1 : decode cX4_digit 1 = .ok (.invokevirtual 26, 3) := by decide +kernel
theorem dX4_digit_4 : decode cX4_digit 4 = .ok (.istore_n 1, 1) := by decide +kernel
theorem dX4_digit_5 : decode cX4_digit 5 = .ok (.iload_n 1, 1) := by decide +kernel
theorem dX4_digit_6 : decode cX4_digit 6 = .ok (.bipush 48, 2) := by decide +kernel
theorem dX4_digit_8 : decode cX4_digit 8 = .ok (.if_icmp .lt 16, 3) := by decide +kernel
theorem dX4_digit_11 : decode cX4_digit 11 = .ok (.iload_n 1, 1) := by decide +kernel
theorem dX4_digit_12 : decode cX4_digit 12 = .ok (.bipush 57, 2) := by decide +kernel
theorem dX4_digit_14 : decode cX4_digit 14 = .ok (.if_icmp .gt 10, 3) := by decide +kernel
theorem dX4_digit_17 : decode cX4_digit 17 = .ok (.iload_n 1, 1) := by decide +kernel
theorem dX4_digit_18 : decode cX4_digit 18 = .ok (.bipush 48, 2) := by decide +kernel
theorem dX4_digit_20 : decode cX4_digit 20 = .ok (.isub, 1) := by decide +kernel
theorem dX4_digit_21 : decode cX4_digit 21 = .ok (.goto 4, 3) := by decide +kernel
theorem dX4_digit_24 : decode cX4_digit 24 = .ok (.iconst (-1), 1) := by decide +kernel
theorem dX4_digit_25 : decode cX4_digit 25 = .ok (.ireturn, 1) := by decide +kernel
set_option maxRecDepth 20000 in
theorem ggX4_passes_X4_current : GoodIn wsX4_passes wsX4_current := goodIn_r _ [6, 1, 7, 8, 9, 10, 11] (by decide +kernel) (by decide +kernel)
set_option maxRecDepth 20000 in
theorem gX4_passes_X4_current : GoodIn wsX4_passes (wsV RX4 26 RX4 yX4_current wsX4_current) := goodIn_app (goodIn_of _ (by decide +kernel)) ggX4_passes_X4_current
theorem dX4_passes_0 : decode cX4_passes 0 = .ok (.aload_n 0, 1) := by decide +kernel
theorem dX4_passes_1 : decode cX4_passes 1 = .ok (.invokevirtual 26, 3) := by decide +kernel
theorem dX4_passes_4 : decode cX4_passes 4 = .ok (.iload_n 1, 1) := by decide +kernel
theorem dX4_passes_5 : decode cX4_passes 5 = .ok (.if_icmp .eq 5, 3) := by decide +kernel
theorem dX4_passes_8 : decode cX4_passes 8 = .ok (.iconst 0, 1) := by decide +kernel
theorem dX4_passes_9 : decode cX4_passes 9 = .ok (.ireturn, 1) := by decide +kernel
theorem dX4_passes_10 : decode cX4_passes 10 = .ok (.aload_n 0, 1) := by decide +kernel
theorem dX4_passes_11 : decode cX4_passes 11 = .ok (.dup, 1) := by decide +kernel
theorem dX4_passes_12 : decode cX4_passes 12 = .ok (.getfield 19, 3) := by decide +kernel
theorem dX4_passes_15 : decode cX4_passes 15 = .ok (.iconst 1, 1) := by decide +kernel
theorem dX4_passes_16 : decode cX4_passes 16 = .ok (.iadd, 1) := by decide +kernel
theorem dX4_passes_17 : decode cX4_passes 17 = .ok (.putfield 19, 3) := by decide +kernel
theorem dX4_passes_20 : decode cX4_passes 20 = .ok (.iconst 1, 1) := by decide +kernel
theorem dX4_passes_21 : decode cX4_passes 21 = .ok (.ireturn, 1) := by decide +kernel
