theorem dX6_eliminate_35 : decode cX6_eliminate 35 = .ok (.isub, 1) := by decide +kernel
theorem dX6_eliminate_36 : decode cX6_eliminate 36 = .ok (.istore 4, 2) := by decide +kernel
theorem dX6_eliminate_38 : decode cX6_eliminate 38 = .ok (.iload 4, 2) := by decide +kernel
theorem dX6_eliminate_40 : decode cX6_eliminate 40 = .ok (.ifCond .lt 59, 3) := by decide +kernel
theorem dX6_eliminate_43 : decode cX6_eliminate 43 = .ok (.aload_n 0, 1) := by decide +kernel
theorem dX6_eliminate_44 : decode cX6_eliminate 44 = .ok (.iload 4, 2) := by decide +kernel
theorem dX6_eliminate_46 : decode cX6_eliminate 46 = .ok (.invokevirtual 147, 3) := by decide +kernel
theorem dX6_eliminate_49 : decode cX6_eliminate 49 = .ok (.ifCond .eq 44, 3) := by decide +kernel
theorem dX6_eliminate_52 : decode cX6_eliminate 52 = .ok (.aload_n 0, 1) := by decide +kernel
theorem dX6_eliminate_53 : decode cX6_eliminate 53 = .ok (.iload 4, 2) := by decide +kernel
theorem dX6_eliminate_55 : decode cX6_eliminate 55 = .ok (.invokevirtual 64, 3) := by decide +kernel
theorem dX6_eliminate_58 : decode cX6_eliminate 58 = .ok (.iload_n 3, 1) := by decide +kernel
theorem dX6_eliminate_59 : decode cX6_eliminate 59 = .ok (.if_icmp .ne 34, 3) := by decide +kernel
theorem dX6_eliminate_62 : decode cX6_eliminate 62 = .ok (.aload_n 0, 1) := by decide +kernel
theorem dX6_eliminate_63 : decode cX6_eliminate 63 = .ok (.iload 4, 2) := by decide +kernel
theorem dX6_eliminate_65 : decode cX6_eliminate 65 = .ok (.iload_n 1, 1) := by decide +kernel
theorem dX6_eliminate_66 : decode cX6_eliminate 66 = .ok (.invokevirtual 154, 3) := by decide +kernel
theorem dX6_eliminate_69 : decode cX6_eliminate 69 = .ok (.aload_n 0, 1) := by decide +kernel
theorem dX6_eliminate_70 : decode cX6_eliminate 70 = .ok (.iload 4, 2) := by decide +kernel
theorem dX6_eliminate_72 : decode cX6_eliminate 72 = .ok (.invokevirtual 140, 3) := by decide +kernel
theorem dX6_eliminate_75 : decode cX6_eliminate 75 = .ok (.if_icmp .lt 18, 3) := by decide +kernel
theorem dX6_eliminate_78 : decode cX6_eliminate 78 = .ok (.aload_n 0, 1) := by decide +kernel
theorem dX6_eliminate_79 : decode cX6_eliminate 79 = .ok (.getfield 7, 3) := by decide +kernel
theorem dX6_eliminate_82 : decode cX6_eliminate 82 = .ok (.iload 4, 2) := by decide +kernel
theorem dX6_eliminate_84 : decode cX6_eliminate 84 = .ok (.iconst 4, 1) := by decide +kernel
theorem dX6_eliminate_85 : decode cX6_eliminate 85 = .ok (.invokestatic 60, 3) := by decide +kernel
theorem dX6_eliminate_88 : decode cX6_eliminate 88 = .ok (.iconst 0, 1) := by decide +kernel
theorem dX6_eliminate_89 : decode cX6_eliminate 89 = .ok (.iastore, 1) := by decide +kernel
theorem dX6_eliminate_90 : decode cX6_eliminate 90 = .ok (.iinc 2 1, 3) := by decide +kernel
theorem dX6_eliminate_93 : decode cX6_eliminate 93 = .ok (.iinc 4 (-1), 3) := by decide +kernel
theorem dX6_eliminate_96 : decode cX6_eliminate 96 = .ok (.goto (-58), 3) := by decide +kernel
theorem dX6_eliminate_99 : decode cX6_eliminate 99 = .ok (.iinc 3 (-1), 3) := by decide +kernel
theorem dX6_eliminate_102 : decode cX6_eliminate 102 = .ok (.goto (-78), 3) := by decide +kernel
theorem dX6_eliminate_105 : decode cX6_eliminate 105 = .ok (.iload_n 2, 1) := by decide +kernel
theorem dX6_eliminate_106 : decode cX6_eliminate 106 = .ok (.ireturn, 1) := by decide +kernel
set_option maxRecDepth 20000 in
theorem ggX6_keepAll_X6_at : GoodIn wsX6_keepAll wsX6_at := goodIn_r _ [6] (by decide +kernel) (by decide +kernel)
set_option maxRecDepth 20000 in
theorem gX6_keepAll_X6_at : GoodIn wsX6_keepAll (va_wsS RX6 60 yX6_at wsX6_at) := goodIn_app (goodIn_of _ (by decide +kernel)) ggX6_keepAll_X6_at
theorem dX6_keepAll_0 : decode cX6_keepAll 0 = .ok (.aload_n 0, 1) := by decide +kernel
theorem dX6_keepAll_1 : decode cX6_keepAll 1 = .ok (.iconst 0, 1) := by decide +kernel
theorem dX6_keepAll_2 : decode cX6_keepAll 2 = .ok (.putfield 53, 3) := by decide +kernel
theorem dX6_keepAll_5 : decode cX6_keepAll 5 = .ok (.iconst 0, 1) := by decide +kernel
theorem dX6_keepAll_6 : decode cX6_keepAll 6 = .ok (.istore_n 1, 1) := by decide +kernel
theorem dX6_keepAll_7 : decode cX6_keepAll 7 = .ok (.iconst 0, 1) := by decide +kernel
theorem dX6_keepAll_8 : decode cX6_keepAll 8 = .ok (.istore_n 2, 1) := by decide +kernel
theorem dX6_keepAll_9 : decode cX6_keepAll 9 = .ok (.iload_n 2, 1) := by decide +kernel
theorem dX6_keepAll_10 : decode cX6_keepAll 10 = .ok (.aload_n 0, 1) := by decide +kernel
theorem dX6_keepAll_11 : decode cX6_keepAll 11 = .ok (.getfield 7, 3) := by decide +kernel
theorem dX6_keepAll_14 : decode cX6_keepAll 14 = .ok (.iconst 1, 1) := by decide +kernel
theorem dX6_keepAll_15 : decode cX6_keepAll 15 = .ok (.iaload, 1) := by decide +kernel
theorem dX6_keepAll_16 : decode cX6_keepAll 16 = .ok (.if_icmp .ge 35, 3) := by decide +kernel
theorem dX6_keepAll_19 : decode cX6_keepAll 19 = .ok (.iload_n 1, 1) := by decide +kernel
theorem dX6_keepAll_20 : decode cX6_keepAll 20 = .ok (.iconst 1, 1) := by decide +kernel
theorem dX6_keepAll_21 : decode cX6_keepAll 21 = .ok (.aload_n 0, 1) := by decide +kernel
theorem dX6_keepAll_22 : decode cX6_keepAll 22 = .ok (.getfield 7, 3) := by decide +kernel
theorem dX6_keepAll_25 : decode cX6_keepAll 25 = .ok (.iload_n 2, 1) := by decide +kernel
theorem dX6_keepAll_26 : decode cX6_keepAll 26 = .ok (.iconst 4, 1) := by decide +kernel
theorem dX6_keepAll_27 : decode cX6_keepAll 27 = .ok (.invokestatic 60, 3) := by decide +kernel
theorem dX6_keepAll_30 : decode cX6_keepAll 30 = .ok (.iaload, 1) := by decide +kernel
theorem dX6_keepAll_31 : decode cX6_keepAll 31 = .ok (.isub, 1) := by decide +kernel
theorem dX6_keepAll_32 : decode cX6_keepAll 32 = .ok (.iadd, 1) := by decide +kernel
theorem dX6_keepAll_33 : decode cX6_keepAll 33 = .ok (.istore_n 1, 1) := by decide +kernel
theorem dX6_keepAll_34 : decode cX6_keepAll 34 = .ok (.aload_n 0, 1) := by decide +kernel
theorem dX6_keepAll_35 : decode cX6_keepAll 35 = .ok (.getfield 7, 3) := by decide +kernel
theorem dX6_keepAll_38 : decode cX6_keepAll 38 = .ok (.iload_n 2, 1) := by decide +kernel
theorem dX6_keepAll_39 : decode cX6_keepAll 39 = .ok (.iconst 4, 1) := by decide +kernel
theorem dX6_keepAll_40 : decode cX6_keepAll 40 = .ok (.invokestatic 60, 3) := by decide +kernel
theorem dX6_keepAll_43 : decode cX6_keepAll 43 = .ok (.iconst 1, 1) := by decide +kernel
theorem dX6_keepAll_44 : decode cX6_keepAll 44 = .ok (.iastore, 1) := by decide +kernel
theorem dX6_keepAll_45 : decode cX6_keepAll 45 = .ok (.iinc 2 1, 3) := by decide +kernel
theorem dX6_keepAll_48 : decode cX6_keepAll 48 = .ok (.goto (-39), 3) := by decide +kernel
theorem dX6_keepAll_51 : decode cX6_keepAll 51 = .ok (.iload_n 1, 1) := by decide +kernel
theorem dX6_keepAll_52 : decode cX6_keepAll 52 = .ok (.ireturn, 1) := by decide +kernel
set_option maxRecDepth 20000 in
theorem ggX6_precedes_X6_isStatement : GoodIn wsX6_precedes wsX6_isStatement := goodIn_r _ [7, 2, 8, 9, 6, 10, 26, 27, 28, 29, 30, 31, 32, 33, 34, 35, 36, 37, 38, 39, 40, 41, 42, 43, 44, 45] (by decide +kernel) (by decide +kernel)
set_option maxRecDepth 20000 in
theorem gX6_precedes_X6_isStatement : GoodIn wsX6_precedes (wsV RX6 125 RX6 yX6_isStatement wsX6_isStatement) := goodIn_app (goodIn_of _ (by decide +kernel)) ggX6_precedes_X6_isStatement
set_option maxRecDepth 20000 in
theorem ggX6_precedes_X6_source : GoodIn wsX6_precedes wsX6_source := goodIn_r _ [14, 2, 15, 16, 6, 17, 26, 27, 28, 29, 30, 31, 32, 33, 34, 35, 36, 37, 38, 39, 40, 41, 42, 43, 44, 45] (by decide +kernel) (by decide +kernel)
set_option maxRecDepth 20000 in
theorem gX6_precedes_X6_source : GoodIn wsX6_precedes (wsV RX6 71 RX6 yX6_source wsX6_source) := goodIn_app (goodIn_of _ (by decide +kernel)) ggX6_precedes_X6_source
set_option maxRecDepth 20000 in
theorem ggX6_precedes_X6_far : GoodIn wsX6_precedes wsX6_far := goodIn_r _ [21, 2, 15, 16, 6, 17, 26, 27, 28, 29, 30, 31, 32, 33, 34, 35, 36, 37, 38, 39, 40, 41, 42, 43, 44, 45] (by decide +kernel) (by decide +kernel)
set_option maxRecDepth 20000 in
theorem gX6_precedes_X6_far : GoodIn wsX6_precedes (wsV RX6 64 RX6 yX6_far wsX6_far) := goodIn_app (goodIn_of _ (by decide +kernel)) ggX6_precedes_X6_far
set_option maxRecDepth 20000 in
theorem ggX6_precedes_X6_target : GoodIn wsX6_precedes wsX6_target := goodIn_r _ [25, 2, 15, 16, 6, 17, 26, 27, 28, 29, 30, 31, 32, 33, 34, 35, 36, 37, 38, 39, 40, 41, 42, 43, 44, 45] (by decide +kernel) (by decide +kernel)
set_option maxRecDepth 20000 in
theorem gX6_precedes_X6_target : GoodIn wsX6_precedes (wsV RX6 74 RX6 yX6_target wsX6_target) := goodIn_app (goodIn_of _ (by decide +kernel)) ggX6_precedes_X6_target
theorem dX6_precedes_0 : decode cX6_precedes 0 = .ok (.aload_n 0, 1) := by decide +kernel
theorem dX6_precedes_1 : decode cX6_precedes 1 = .ok (.aload_n 0, 1) := by decide +kernel
theorem dX6_precedes_2 : decode cX6_precedes 2 = .ok (.iload_n 1, 1) := by decide +kernel
theorem dX6_precedes_3 : decode cX6_precedes 3 = .ok (.invokevirtual 125, 3) := by decide +kernel
theorem dX6_precedes_6 : decode cX6_precedes 6 = .ok (.ifCond .eq 15, 3) := by decide +kernel
theorem dX6_precedes_9 : decode cX6_precedes 9 = .ok (.aload_n 0, 1) := by decide +kernel
theorem dX6_precedes_10 : decode cX6_precedes 10 = .ok (.iload_n 2, 1) := by decide +kernel
theorem dX6_precedes_11 : decode cX6_precedes 11 = .ok (.invokevirtual 125, 3) := by decide +kernel
theorem dX6_precedes_14 : decode cX6_precedes 14 = .ok (.ifCond .eq 7, 3) := by decide +kernel
theorem dX6_precedes_17 : decode cX6_precedes 17 = .ok (.iconst 0, 1) := by decide +kernel
theorem dX6_precedes_18 : decode cX6_precedes 18 = .ok (.goto 4, 3) := by decide +kernel
theorem dX6_precedes_21 : decode cX6_precedes 21 = .ok (.iconst 1, 1) := by decide +kernel
theorem dX6_precedes_22 : decode cX6_precedes 22 = .ok (.putfield 53, 3) := by decide +kernel
theorem dX6_precedes_25 : decode cX6_precedes 25 = .ok (.aload_n 0, 1) := by decide +kernel
theorem dX6_precedes_26 : decode cX6_precedes 26 = .ok (.getfield 53, 3) := by decide +kernel
theorem dX6_precedes_29 : decode cX6_precedes 29 = .ok (.ifCond .le 5, 3) := by decide +kernel
theorem dX6_precedes_32 : decode cX6_precedes 32 = .ok (.iconst 0, 1) := by decide +kernel
theorem dX6_precedes_33 : decode cX6_precedes 33 = .ok (.ireturn, 1) := by decide +kernel
theorem dX6_precedes_34 : decode cX6_precedes 34 = .ok (.iconst 0, 1) := by decide +kernel
theorem dX6_precedes_35 : decode cX6_precedes 35 = .ok (.istore_n 3, 1) := by decide +kernel
theorem dX6_precedes_36 : decode cX6_precedes 36 = .ok (.iconst 0, 1) := by decide +kernel
theorem dX6_precedes_37 : decode cX6_precedes 37 = .ok (.istore 4, 2) := by decide +kernel
theorem dX6_precedes_39 : decode cX6_precedes 39 = .ok (.iload 4, 2) := by decide +kernel
theorem dX6_precedes_41 : decode cX6_precedes 41 = .ok (.bipush 8, 2) := by decide +kernel
theorem dX6_precedes_43 : decode cX6_precedes 43 = .ok (.if_icmp .ge 89, 3) := by decide +kernel
theorem dX6_precedes_46 : decode cX6_precedes 46 = .ok (.iconst 0, 1) := by decide +kernel
theorem dX6_precedes_47 : decode cX6_precedes 47 = .ok (.istore 5, 2) := by decide +kernel
theorem dX6_precedes_49 : decode cX6_precedes 49 = .ok (.iload 5, 2) := by decide +kernel
theorem dX6_precedes_51 : decode cX6_precedes 51 = .ok (.aload_n 0, 1) := by decide +kernel
theorem dX6_precedes_52 : decode cX6_precedes 52 = .ok (.getfield 7, 3) := by decide +kernel
theorem dX6_precedes_55 : decode cX6_precedes 55 = .ok (.iconst 1, 1) := by decide +kernel
theorem dX6_precedes_56 : decode cX6_precedes 56 = .ok (.iaload, 1) := by decide +kernel
theorem dX6_precedes_57 : decode cX6_precedes 57 = .ok (.if_icmp .ge 69, 3) := by decide +kernel
theorem dX6_precedes_60 : decode cX6_precedes 60 = .ok (.aload_n 0, 1) := by decide +kernel
theorem dX6_precedes_61 : decode cX6_precedes 61 = .ok (.iload 5, 2) := by decide +kernel
theorem dX6_precedes_63 : decode cX6_precedes 63 = .ok (.invokevirtual 71, 3) := by decide +kernel
theorem dX6_precedes_66 : decode cX6_precedes 66 = .ok (.iload_n 1, 1) := by decide +kernel
theorem dX6_precedes_67 : decode cX6_precedes 67 = .ok (.if_icmp .eq 17, 3) := by decide +kernel
theorem dX6_precedes_70 : decode cX6_precedes 70 = .ok (.iload_n 3, 1) := by decide +kernel
theorem dX6_precedes_71 : decode cX6_precedes 71 = .ok (.aload_n 0, 1) := by decide +kernel
theorem dX6_precedes_72 : decode cX6_precedes 72 = .ok (.iload 5, 2) := by decide +kernel
theorem dX6_precedes_74 : decode cX6_precedes 74 = .ok (.invokevirtual 71, 3) := by decide +kernel
theorem dX6_precedes_77 : decode cX6_precedes 77 = .ok (.ishr, 1) := by decide +kernel
theorem dX6_precedes_78 : decode cX6_precedes 78 = .ok (.iconst 1, 1) := by decide +kernel
theorem dX6_precedes_79 : decode cX6_precedes 79 = .ok (.iand, 1) := by decide +kernel
theorem dX6_precedes_80 : decode cX6_precedes 80 = .ok (.iconst 1, 1) := by decide +kernel
theorem dX6_precedes_81 : decode cX6_precedes 81 = .ok (.if_icmp .ne 7, 3) := by decide +kernel
theorem dX6_precedes_84 : decode cX6_precedes 84 = .ok (.iconst 1, 1) := by decide +kernel
theorem dX6_precedes_85 : decode cX6_precedes 85 = .ok (.goto 4, 3) := by decide +kernel
theorem dX6_precedes_88 : decode cX6_precedes 88 = .ok (.iconst 0, 1) := by decide +kernel
theorem dX6_precedes_89 : decode cX6_precedes 89 = .ok (.istore 6, 2) := by decide +kernel
theorem dX6_precedes_91 : decode cX6_precedes 91 = .ok (.iload_n 3, 1) := by decide +kernel
theorem dX6_precedes_92 : decode cX6_precedes 92 = .ok (.aload_n 0, 1) := by decide +kernel
theorem dX6_precedes_93 : decode cX6_precedes 93 = .ok (.iload 5, 2) := by decide +kernel
theorem dX6_precedes_95 : decode cX6_precedes 95 = .ok (.invokevirtual 64, 3) := by decide +kernel
theorem dX6_precedes_98 : decode cX6_precedes 98 = .ok (.ifCond .ne 19, 3) := by decide +kernel
theorem dX6_precedes_101 : decode cX6_precedes 101 = .ok (.iload 6, 2) := by decide +kernel
theorem dX6_precedes_103 : decode cX6_precedes 103 = .ok (.ifCond .eq 14, 3) := by decide +kernel
theorem dX6_precedes_106 : decode cX6_precedes 106 = .ok (.iconst 1, 1) := by decide +kernel
theorem dX6_precedes_107 : decode cX6_precedes 107 = .ok (.aload_n 0, 1) := by decide +kernel
theorem dX6_precedes_108 : decode cX6_precedes 108 = .ok (.iload 5, 2) := by decide +kernel
theorem dX6_precedes_110 : decode cX6_precedes 110 = .ok (.invokevirtual 74, 3) := by decide +kernel
theorem dX6_precedes_113 : decode cX6_precedes 113 = .ok (.ishl, 1) := by decide +kernel
theorem dX6_precedes_114 : decode cX6_precedes 114 = .ok (.goto 4, 3) := by decide +kernel
theorem dX6_precedes_117 : decode cX6_precedes 117 = .ok (.iconst 0, 1) := by decide +kernel
theorem dX6_precedes_118 : decode cX6_precedes 118 = .ok (.ior, 1) := by decide +kernel
theorem dX6_precedes_119 : decode cX6_precedes 119 = .ok (.istore_n 3, 1) := by decide +kernel
theorem dX6_precedes_120 : decode cX6_precedes 120 = .ok (.iinc 5 1, 3) := by decide +kernel
theorem dX6_precedes_123 : decode cX6_precedes 123 = .ok (.goto (-74), 3) := by decide +kernel
theorem dX6_precedes_126 : decode cX6_precedes 126 = .ok (.iinc 4 1, 3) := by decide +kernel
theorem dX6_precedes_129 : decode cX6_precedes 129 = .ok (.goto (-90), 3) := by decide +kernel
theorem dX6_precedes_132 : decode cX6_precedes 132 = .ok (.iload_n 3, 1) := by decide +kernel
theorem dX6_precedes_133 : decode cX6_precedes 133 = .ok (.iload_n 2, 1) := by decide +kernel
theorem dX6_precedes_134 : decode cX6_precedes 134 = .ok (.ishr, 1) := by decide +kernel
theorem dX6_precedes_135 : decode cX6_precedes 135 = .ok (.iconst 1, 1) := by decide +kernel
theorem dX6_precedes_136 : decode cX6_precedes 136 = .ok (.iand, 1) := by decide +kernel
theorem dX6_precedes_137 : decode cX6_precedes 137 = .ok (.iconst 1, 1) := by decide +kernel
theorem dX6_precedes_138 : decode cX6_precedes 138 = .ok (.if_icmp .ne 7, 3) := by decide +kernel
theorem dX6_precedes_141 : decode cX6_precedes 141 = .ok (.iconst 1, 1) := by decide +kernel
theorem dX6_precedes_142 : decode cX6_precedes 142 = .ok (.goto 4, 3) := by decide +kernel
theorem dX6_precedes_145 : decode cX6_precedes 145 = .ok (.iconst 0, 1) := by decide +kernel
theorem dX6_precedes_146 : decode cX6_precedes 146 = .ok (.ireturn, 1) := by decide +kernel
set_option maxRecDepth 20000 in
theorem ggX6_delayBut_X6_isSignal : GoodIn wsX6_delayBut wsX6_isSignal := goodIn_r _ [6, 1, 7, 8, 5, 9, 10, 11, 12, 13, 38, 39, 40, 41, 42, 43, 44, 45, 46, 47, 48, 49, 50, 51, 52, 53, 54, 55, 56, 57] (by decide +kernel) (by decide +kernel)
set_option maxRecDepth 20000 in
theorem gX6_delayBut_X6_isSignal : GoodIn wsX6_delayBut (wsV RX6 147 RX6 yX6_isSignal wsX6_isSignal) := goodIn_app (goodIn_of _ (by decide +kernel)) ggX6_delayBut_X6_isSignal
set_option maxRecDepth 20000 in
theorem ggX6_delayBut_X6_source : GoodIn wsX6_delayBut wsX6_source := goodIn_r _ [17, 1, 7, 8, 5, 9, 38, 39, 40, 41, 42, 43, 44, 45, 46, 47, 48, 49, 50, 51, 52, 53, 54, 55, 56, 57] (by decide +kernel) (by decide +kernel)
set_option maxRecDepth 20000 in
theorem gX6_delayBut_X6_source : GoodIn wsX6_delayBut (wsV RX6 71 RX6 yX6_source wsX6_source) := goodIn_app (goodIn_of _ (by decide +kernel)) ggX6_delayBut_X6_source
set_option maxRecDepth 20000 in
theorem ggX6_delayBut_X6_offset : GoodIn wsX6_delayBut wsX6_offset := goodIn_r _ [21, 1, 22, 23, 24, 5, 25, 38, 39, 40, 41, 42, 43, 44, 45, 46, 47, 48, 49, 50, 51, 52, 53, 54, 55, 56, 57] (by decide +kernel) (by decide +kernel)
set_option maxRecDepth 20000 in
theorem gX6_delayBut_X6_offset : GoodIn wsX6_delayBut (wsV RX6 137 RX6 yX6_offset wsX6_offset) := goodIn_app (goodIn_of _ (by decide +kernel)) ggX6_delayBut_X6_offset
set_option maxRecDepth 20000 in
theorem ggX6_delayBut_X6_lag : GoodIn wsX6_delayBut wsX6_lag := goodIn_r _ [29, 1, 30, 31, 32, 5, 33, 14, 15, 16, 17, 7, 8, 9, 22, 23, 24, 25, 34, 35, 36, 37, 38, 39, 40, 41, 42, 43, 44, 45, 46, 47, 48, 49, 50, 51, 52, 53, 54, 55, 56, 57] (by decide +kernel) (by decide +kernel)
set_option maxRecDepth 20000 in
theorem gX6_delayBut_X6_lag : GoodIn wsX6_delayBut (wsV RX6 140 RX6 yX6_lag wsX6_lag) := goodIn_app (goodIn_of _ (by decide +kernel)) ggX6_delayBut_X6_lag
set_option maxRecDepth 20000 in
theorem ggX6_delayBut_X6_target : GoodIn wsX6_delayBut wsX6_target := goodIn_r _ [37, 1, 7, 8, 5, 9, 38, 39, 40, 41, 42, 43, 44, 45, 46, 47, 48, 49, 50, 51, 52, 53, 54, 55, 56, 57] (by decide +kernel) (by decide +kernel)
set_option maxRecDepth 20000 in
theorem gX6_delayBut_X6_target : GoodIn wsX6_delayBut (wsV RX6 74 RX6 yX6_target wsX6_target) := goodIn_app (goodIn_of _ (by decide +kernel)) ggX6_delayBut_X6_target
set_option maxRecDepth 20000 in
theorem ggX6_delayBut_X6_far : GoodIn wsX6_delayBut wsX6_far := goodIn_r _ [13, 1, 7, 8, 5, 9, 38, 39, 40, 41, 42, 43, 44, 45, 46, 47, 48, 49, 50, 51, 52, 53, 54, 55, 56, 57] (by decide +kernel) (by decide +kernel)
set_option maxRecDepth 20000 in
theorem gX6_delayBut_X6_far : GoodIn wsX6_delayBut (wsV RX6 64 RX6 yX6_far wsX6_far) := goodIn_app (goodIn_of _ (by decide +kernel)) ggX6_delayBut_X6_far
theorem dX6_delayBut_0 : decode cX6_delayBut 0 = .ok (.iconst 0, 1) := by decide +kernel
theorem dX6_delayBut_1 : decode cX6_delayBut 1 = .ok (.istore_n 2, 1) := by decide +kernel
theorem dX6_delayBut_2 : decode cX6_delayBut 2 = .ok (.iconst 0, 1) := by decide +kernel
theorem dX6_delayBut_3 : decode cX6_delayBut 3 = .ok (.istore_n 3, 1) := by decide +kernel
theorem dX6_delayBut_4 : decode cX6_delayBut 4 = .ok (.iload_n 3, 1) := by decide +kernel
theorem dX6_delayBut_5 : decode cX6_delayBut 5 = .ok (.aload_n 0, 1) := by decide +kernel
theorem dX6_delayBut_6 : decode cX6_delayBut 6 = .ok (.getfield 7, 3) := by decide +kernel
theorem dX6_delayBut_9 : decode cX6_delayBut 9 = .ok (.iconst 1, 1) := by decide +kernel
theorem dX6_delayBut_10 : decode cX6_delayBut 10 = .ok (.iaload, 1) := by decide +kernel
theorem dX6_delayBut_11 : decode cX6_delayBut 11 = .ok (.if_icmp .ge 92, 3) := by decide +kernel
theorem dX6_delayBut_14 : decode cX6_delayBut 14 = .ok (.iload_n 3, 1) := by decide +kernel
theorem dX6_delayBut_15 : decode cX6_delayBut 15 = .ok (.iload_n 1, 1) := by decide +kernel
theorem dX6_delayBut_16 : decode cX6_delayBut 16 = .ok (.if_icmp .eq 81, 3) := by decide +kernel
theorem dX6_delayBut_19 : decode cX6_delayBut 19 = .ok (.aload_n 0, 1) := by decide +kernel
theorem dX6_delayBut_20 : decode cX6_delayBut 20 = .ok (.iload_n 3, 1) := by decide +kernel
theorem dX6_delayBut_21 : decode cX6_delayBut 21 = .ok (.invokevirtual 147, 3) := by decide +kernel
theorem dX6_delayBut_24 : decode cX6_delayBut 24 = .ok (.ifCond .ne 6, 3) := by decide +kernel
theorem dX6_delayBut_27 : decode cX6_delayBut 27 = .ok (.goto 70, 3) := by decide +kernel
theorem dX6_delayBut_30 : decode cX6_delayBut 30 = .ok (.aload_n 0, 1) := by decide +kernel
theorem dX6_delayBut_31 : decode cX6_delayBut 31 = .ok (.aload_n 0, 1) := by decide +kernel
theorem dX6_delayBut_32 : decode cX6_delayBut 32 = .ok (.iload_n 3, 1) := by decide +kernel
theorem dX6_delayBut_33 : decode cX6_delayBut 33 = .ok (.invokevirtual 71, 3) := by decide +kernel
theorem dX6_delayBut_36 : decode cX6_delayBut 36 = .ok (.invokevirtual 137, 3) := by decide +kernel
theorem dX6_delayBut_39 : decode cX6_delayBut 39 = .ok (.aload_n 0, 1) := by decide +kernel
theorem dX6_delayBut_40 : decode cX6_delayBut 40 = .ok (.iload_n 3, 1) := by decide +kernel
theorem dX6_delayBut_41 : decode cX6_delayBut 41 = .ok (.invokevirtual 140, 3) := by decide +kernel
theorem dX6_delayBut_44 : decode cX6_delayBut 44 = .ok (.iadd, 1) := by decide +kernel
theorem dX6_delayBut_45 : decode cX6_delayBut 45 = .ok (.aload_n 0, 1) := by decide +kernel
theorem dX6_delayBut_46 : decode cX6_delayBut 46 = .ok (.aload_n 0, 1) := by decide +kernel
theorem dX6_delayBut_47 : decode cX6_delayBut 47 = .ok (.iload_n 3, 1) := by decide +kernel
theorem dX6_delayBut_48 : decode cX6_delayBut 48 = .ok (.invokevirtual 74, 3) := by decide +kernel
theorem dX6_delayBut_51 : decode cX6_delayBut 51 = .ok (.invokevirtual 137, 3) := by decide +kernel
theorem dX6_delayBut_54 : decode cX6_delayBut 54 = .ok (.isub, 1) := by decide +kernel
theorem dX6_delayBut_55 : decode cX6_delayBut 55 = .ok (.istore 4, 2) := by decide +kernel
theorem dX6_delayBut_57 : decode cX6_delayBut 57 = .ok (.iload 4, 2) := by decide +kernel
theorem dX6_delayBut_59 : decode cX6_delayBut 59 = .ok (.ifCond .gt 7, 3) := by decide +kernel
theorem dX6_delayBut_62 : decode cX6_delayBut 62 = .ok (.iconst 0, 1) := by decide +kernel
theorem dX6_delayBut_63 : decode cX6_delayBut 63 = .ok (.goto 19, 3) := by decide +kernel
theorem dX6_delayBut_66 : decode cX6_delayBut 66 = .ok (.iload 4, 2) := by decide +kernel
theorem dX6_delayBut_68 : decode cX6_delayBut 68 = .ok (.aload_n 0, 1) := by decide +kernel
theorem dX6_delayBut_69 : decode cX6_delayBut 69 = .ok (.iload_n 3, 1) := by decide +kernel
theorem dX6_delayBut_70 : decode cX6_delayBut 70 = .ok (.invokevirtual 64, 3) := by decide +kernel
theorem dX6_delayBut_73 : decode cX6_delayBut 73 = .ok (.iadd, 1) := by decide +kernel
theorem dX6_delayBut_74 : decode cX6_delayBut 74 = .ok (.iconst 1, 1) := by decide +kernel
theorem dX6_delayBut_75 : decode cX6_delayBut 75 = .ok (.isub, 1) := by decide +kernel
theorem dX6_delayBut_76 : decode cX6_delayBut 76 = .ok (.aload_n 0, 1) := by decide +kernel
theorem dX6_delayBut_77 : decode cX6_delayBut 77 = .ok (.iload_n 3, 1) := by decide +kernel
theorem dX6_delayBut_78 : decode cX6_delayBut 78 = .ok (.invokevirtual 64, 3) := by decide +kernel
theorem dX6_delayBut_81 : decode cX6_delayBut 81 = .ok (.idiv, 1) := by decide +kernel
theorem dX6_delayBut_82 : decode cX6_delayBut 82 = .ok (.istore 5, 2) := by decide +kernel
theorem dX6_delayBut_84 : decode cX6_delayBut 84 = .ok (.iload 5, 2) := by decide +kernel
theorem dX6_delayBut_86 : decode cX6_delayBut 86 = .ok (.iload_n 2, 1) := by decide +kernel
theorem dX6_delayBut_87 : decode cX6_delayBut 87 = .ok (.if_icmp .le 8, 3) := by decide +kernel
theorem dX6_delayBut_90 : decode cX6_delayBut 90 = .ok (.iload 5, 2) := by decide +kernel
theorem dX6_delayBut_92 : decode cX6_delayBut 92 = .ok (.goto 4, 3) := by decide +kernel
theorem dX6_delayBut_95 : decode cX6_delayBut 95 = .ok (.iload_n 2, 1) := by decide +kernel
theorem dX6_delayBut_96 : decode cX6_delayBut 96 = .ok (.istore_n 2, 1) := by decide +kernel
theorem dX6_delayBut_97 : decode cX6_delayBut 97 = .ok (.iinc 3 1, 3) := by decide +kernel
theorem dX6_delayBut_100 : decode cX6_delayBut 100 = .ok (.goto (-96), 3) := by decide +kernel
theorem dX6_delayBut_103 : decode cX6_delayBut 103 = .ok (.iload_n 2, 1) := by decide +kernel
theorem dX6_delayBut_104 : decode cX6_delayBut 104 = .ok (.ireturn, 1) := by decide +kernel
set_option maxRecDepth 20000 in
theorem ggX6_delay_X6_delayBut : GoodIn wsX6_delay wsX6_delayBut := goodIn_r _ [6, 7, 8, 9, 10, 5, 11, 12, 13, 14, 15, 16, 17, 18, 19, 20, 21, 22, 23, 24, 25, 26, 27, 28, 29, 30, 31, 32, 33, 34, 35, 36, 37, 38, 39, 40, 41, 42, 43, 44, 45, 46, 47, 48, 49, 50, 51, 52, 53, 54, 55, 56, 57, 58, 59, 60, 61, 62] (by decide +kernel) (by decide +kernel)
set_option maxRecDepth 20000 in
theorem gX6_delay_X6_delayBut : GoodIn wsX6_delay (wsV RX6 157 RX6 yX6_delayBut wsX6_delayBut) := goodIn_app (goodIn_of _ (by decide +kernel)) ggX6_delay_X6_delayBut
theorem dX6_delay_0 : decode cX6_delay 0 = .ok (.aload_n 0, 1) := by decide +kernel
theorem dX6_delay_1 : decode cX6_delay 1 = .ok (.iconst 0, 1) := by decide +kernel
theorem dX6_delay_2 : decode cX6_delay 2 = .ok (.putfield 53, 3) := by decide +kernel
theorem dX6_delay_5 : decode cX6_delay 5 = .ok (.aload_n 0, 1) := by decide +kernel
theorem dX6_delay_6 : decode cX6_delay 6 = .ok (.iconst (-1), 1) := by decide +kernel
theorem dX6_delay_7 : decode cX6_delay 7 = .ok (.invokevirtual 157, 3) := by decide +kernel
theorem dX6_delay_10 : decode cX6_delay 10 = .ok (.ireturn, 1) := by decide +kernel
set_option maxRecDepth 20000 in
theorem ggX6_critical_X6_isSignal : GoodIn wsX6_critical wsX6_isSignal := goodIn_r _ [7, 2, 8, 9, 6, 10, 11, 12, 13, 14, 43, 44, 45, 46, 47, 48, 49, 50, 51, 52, 53, 54, 55, 56, 57, 58, 59, 60, 61, 62] (by decide +kernel) (by decide +kernel)
set_option maxRecDepth 20000 in
theorem gX6_critical_X6_isSignal : GoodIn wsX6_critical (wsV RX6 147 RX6 yX6_isSignal wsX6_isSignal) := goodIn_app (goodIn_of _ (by decide +kernel)) ggX6_critical_X6_isSignal
set_option maxRecDepth 20000 in
theorem ggX6_critical_X6_delayBut : GoodIn wsX6_critical wsX6_delayBut := goodIn_r _ [18, 2, 3, 4, 5, 6, 7, 8, 9, 10, 11, 12, 13, 14, 19, 20, 21, 22, 23, 24, 25, 26, 27, 28, 29, 30, 31, 32, 33, 34, 35, 36, 37, 38, 39, 40, 41, 42, 43, 44, 45, 46, 47, 48, 49, 50, 51, 52, 53, 54, 55, 56, 57, 58, 59, 60, 61, 62] (by decide +kernel) (by decide +kernel)
set_option maxRecDepth 20000 in
theorem gX6_critical_X6_delayBut : GoodIn wsX6_critical (wsV RX6 157 RX6 yX6_delayBut wsX6_delayBut) := goodIn_app (goodIn_of _ (by decide +kernel)) ggX6_critical_X6_delayBut
theorem dX6_critical_0 : decode cX6_critical 0 = .ok (.aload_n 0, 1) := by decide +kernel
theorem dX6_critical_1 : decode cX6_critical 1 = .ok (.iconst 0, 1) := by decide +kernel
theorem dX6_critical_2 : decode cX6_critical 2 = .ok (.putfield 53, 3) := by decide +kernel
theorem dX6_critical_5 : decode cX6_critical 5 = .ok (.iconst 0, 1) := by decide +kernel
theorem dX6_critical_6 : decode cX6_critical 6 = .ok (.istore_n 1, 1) := by decide +kernel
theorem dX6_critical_7 : decode cX6_critical 7 = .ok (.iload_n 1, 1) := by decide +kernel
theorem dX6_critical_8 : decode cX6_critical 8 = .ok (.aload_n 0, 1) := by decide +kernel
theorem dX6_critical_9 : decode cX6_critical 9 = .ok (.getfield 7, 3) := by decide +kernel
theorem dX6_critical_12 : decode cX6_critical 12 = .ok (.iconst 1, 1) := by decide +kernel
theorem dX6_critical_13 : decode cX6_critical 13 = .ok (.iaload, 1) := by decide +kernel
theorem dX6_critical_14 : decode cX6_critical 14 = .ok (.if_icmp .ge 32, 3) := by decide +kernel
theorem dX6_critical_17 : decode cX6_critical 17 = .ok (.aload_n 0, 1) := by decide +kernel
theorem dX6_critical_18 : decode cX6_critical 18 = .ok (.iload_n 1, 1) := by decide +kernel
theorem dX6_critical_19 : decode cX6_critical 19 = .ok (.invokevirtual 147, 3) := by decide +kernel
theorem dX6_critical_22 : decode cX6_critical 22 = .ok (.ifCond .eq 18, 3) := by decide +kernel
theorem dX6_critical_25 : decode cX6_critical 25 = .ok (.aload_n 0, 1) := by decide +kernel
theorem dX6_critical_26 : decode cX6_critical 26 = .ok (.iload_n 1, 1) := by decide +kernel
theorem dX6_critical_27 : decode cX6_critical 27 = .ok (.invokevirtual 157, 3) := by decide +kernel
theorem dX6_critical_30 : decode cX6_critical 30 = .ok (.aload_n 0, 1) := by decide +kernel
theorem dX6_critical_31 : decode cX6_critical 31 = .ok (.iconst (-1), 1) := by decide +kernel
theorem dX6_critical_32 : decode cX6_critical 32 = .ok (.invokevirtual 157, 3) := by decide +kernel
theorem dX6_critical_35 : decode cX6_critical 35 = .ok (.if_icmp .ge 5, 3) := by decide +kernel
theorem dX6_critical_38 : decode cX6_critical 38 = .ok (.iload_n 1, 1) := by decide +kernel
theorem dX6_critical_39 : decode cX6_critical 39 = .ok (.ireturn, 1) := by decide +kernel
theorem dX6_critical_40 : decode cX6_critical 40 = .ok (.iinc 1 1, 3) := by decide +kernel
theorem dX6_critical_43 : decode cX6_critical 43 = .ok (.goto (-36), 3) := by decide +kernel
theorem dX6_critical_46 : decode cX6_critical 46 = .ok (.iconst (-1), 1) := by decide +kernel
theorem dX6_critical_47 : decode cX6_critical 47 = .ok (.ireturn, 1) := by decide +kernel
set_option maxRecDepth 20000 in
theorem ggX6_isAllowed_X6_far : GoodIn wsX6_isAllowed wsX6_far := goodIn_r _ [6, 1, 7, 8, 5, 9, 22, 23, 24, 25, 26, 27, 28, 29, 30, 31, 32, 33, 34, 35, 36, 37, 38, 39, 40, 41] (by decide +kernel) (by decide +kernel)
set_option maxRecDepth 20000 in
theorem gX6_isAllowed_X6_far : GoodIn wsX6_isAllowed (wsV RX6 64 RX6 yX6_far wsX6_far) := goodIn_app (goodIn_of _ (by decide +kernel)) ggX6_isAllowed_X6_far
set_option maxRecDepth 20000 in
theorem ggX6_isAllowed_X6_source : GoodIn wsX6_isAllowed wsX6_source := goodIn_r _ [13, 1, 7, 8, 5, 9, 22, 23, 24, 25, 26, 27, 28, 29, 30, 31, 32, 33, 34, 35, 36, 37, 38, 39, 40, 41] (by decide +kernel) (by decide +kernel)
set_option maxRecDepth 20000 in
theorem gX6_isAllowed_X6_source : GoodIn wsX6_isAllowed (wsV RX6 71 RX6 yX6_source wsX6_source) := goodIn_app (goodIn_of _ (by decide +kernel)) ggX6_isAllowed_X6_source
set_option maxRecDepth 20000 in
theorem ggX6_isAllowed_X6_placeOf : GoodIn wsX6_isAllowed wsX6_placeOf := goodIn_r _ [17, 1, 22, 23, 24, 25, 26, 27, 28, 29, 30, 31, 32, 33, 34, 35, 36, 37, 38, 39, 40, 41] (by decide +kernel) (by decide +kernel)
set_option maxRecDepth 20000 in
theorem gX6_isAllowed_X6_placeOf : GoodIn wsX6_isAllowed (wsV RX6 99 RX6 yX6_placeOf wsX6_placeOf) := goodIn_app (goodIn_of _ (by decide +kernel)) ggX6_isAllowed_X6_placeOf
set_option maxRecDepth 20000 in
theorem ggX6_isAllowed_X6_target : GoodIn wsX6_isAllowed wsX6_target := goodIn_r _ [21, 1, 7, 8, 5, 9, 22, 23, 24, 25, 26, 27, 28, 29, 30, 31, 32, 33, 34, 35, 36, 37, 38, 39, 40, 41] (by decide +kernel) (by decide +kernel)
set_option maxRecDepth 20000 in
theorem gX6_isAllowed_X6_target : GoodIn wsX6_isAllowed (wsV RX6 74 RX6 yX6_target wsX6_target) := goodIn_app (goodIn_of _ (by decide +kernel)) ggX6_isAllowed_X6_target
theorem dX6_isAllowed_0 : decode cX6_isAllowed 0 = .ok (.iconst 0, 1) := by decide +kernel
theorem dX6_isAllowed_1 : decode cX6_isAllowed 1 = .ok (.istore_n 1, 1) := by decide +kernel
theorem dX6_isAllowed_2 : decode cX6_isAllowed 2 = .ok (.iload_n 1, 1) := by decide +kernel
theorem dX6_isAllowed_3 : decode cX6_isAllowed 3 = .ok (.aload_n 0, 1) := by decide +kernel
theorem dX6_isAllowed_4 : decode cX6_isAllowed 4 = .ok (.getfield 7, 3) := by decide +kernel
theorem dX6_isAllowed_7 : decode cX6_isAllowed 7 = .ok (.iconst 1, 1) := by decide +kernel
theorem dX6_isAllowed_8 : decode cX6_isAllowed 8 = .ok (.iaload, 1) := by decide +kernel
theorem dX6_isAllowed_9 : decode cX6_isAllowed 9 = .ok (.if_icmp .ge 40, 3) := by decide +kernel
theorem dX6_isAllowed_12 : decode cX6_isAllowed 12 = .ok (.aload_n 0, 1) := by decide +kernel
theorem dX6_isAllowed_13 : decode cX6_isAllowed 13 = .ok (.iload_n 1, 1) := by decide +kernel
theorem dX6_isAllowed_14 : decode cX6_isAllowed 14 = .ok (.invokevirtual 64, 3) := by decide +kernel
theorem dX6_isAllowed_17 : decode cX6_isAllowed 17 = .ok (.ifCond .ne 26, 3) := by decide +kernel
theorem dX6_isAllowed_20 : decode cX6_isAllowed 20 = .ok (.aload_n 0, 1) := by decide +kernel
theorem dX6_isAllowed_21 : decode cX6_isAllowed 21 = .ok (.aload_n 0, 1) := by decide +kernel
theorem dX6_isAllowed_22 : decode cX6_isAllowed 22 = .ok (.iload_n 1, 1) := by decide +kernel
theorem dX6_isAllowed_23 : decode cX6_isAllowed 23 = .ok (.invokevirtual 71, 3) := by decide +kernel
theorem dX6_isAllowed_26 : decode cX6_isAllowed 26 = .ok (.invokevirtual 99, 3) := by decide +kernel
theorem dX6_isAllowed_29 : decode cX6_isAllowed 29 = .ok (.aload_n 0, 1) := by decide +kernel
theorem dX6_isAllowed_30 : decode cX6_isAllowed 30 = .ok (.aload_n 0, 1) := by decide +kernel
theorem dX6_isAllowed_31 : decode cX6_isAllowed 31 = .ok (.iload_n 1, 1) := by decide +kernel
theorem dX6_isAllowed_32 : decode cX6_isAllowed 32 = .ok (.invokevirtual 74, 3) := by decide +kernel
theorem dX6_isAllowed_35 : decode cX6_isAllowed 35 = .ok (.invokevirtual 99, 3) := by decide +kernel
theorem dX6_isAllowed_38 : decode cX6_isAllowed 38 = .ok (.if_icmp .lt 5, 3) := by decide +kernel
theorem dX6_isAllowed_41 : decode cX6_isAllowed 41 = .ok (.iconst 0, 1) := by decide +kernel
theorem dX6_isAllowed_42 : decode cX6_isAllowed 42 = .ok (.ireturn, 1) := by decide +kernel
theorem dX6_isAllowed_43 : decode cX6_isAllowed 43 = .ok (.iinc 1 1, 3) := by decide +kernel
theorem dX6_isAllowed_46 : decode cX6_isAllowed 46 = .ok (.goto (-44), 3) := by decide +kernel
theorem dX6_isAllowed_49 : decode cX6_isAllowed 49 = .ok (.iconst 1, 1) := by decide +kernel
theorem dX6_isAllowed_50 : decode cX6_isAllowed 50 = .ok (.ireturn, 1) := by decide +kernel
set_option maxRecDepth 20000 in
theorem ggX6_orders_X6_isAllowed : GoodIn wsX6_orders wsX6_isAllowed := goodIn_r _ [8, 1, 9, 10, 11, 7, 12, 13, 14, 15, 16, 17, 18, 19, 20, 21, 22, 23, 24, 25, 26, 27, 55, 56, 57, 58, 59, 60, 61, 62, 63, 64, 65, 66, 67, 68, 69, 70, 71, 72, 73, 74] (by decide +kernel) (by decide +kernel)
set_option maxRecDepth 20000 in
theorem gX6_orders_X6_isAllowed : GoodIn wsX6_orders (wsV RX6 160 RX6 yX6_isAllowed wsX6_isAllowed) := goodIn_app (goodIn_of _ (by decide +kernel)) ggX6_orders_X6_isAllowed
set_option maxRecDepth 20000 in
theorem ggX6_orders_X6_delayBut : GoodIn wsX6_orders wsX6_delayBut := goodIn_r _ [31, 1, 32, 33, 34, 7, 35, 13, 14, 15, 9, 10, 11, 12, 16, 17, 18, 19, 36, 37, 38, 39, 40, 41, 42, 43, 44, 45, 46, 47, 48, 49, 50, 51, 24, 25, 26, 27, 55, 56, 57, 58, 59, 60, 61, 62, 63, 64, 65, 66, 67, 68, 69, 70, 71, 72, 73, 74] (by decide +kernel) (by decide +kernel)
set_option maxRecDepth 20000 in
theorem gX6_orders_X6_delayBut : GoodIn wsX6_orders (wsV RX6 157 RX6 yX6_delayBut wsX6_delayBut) := goodIn_app (goodIn_of _ (by decide +kernel)) ggX6_orders_X6_delayBut
set_option maxRecDepth 20000 in
theorem ggX6_orders_X6_orders : GoodIn wsX6_orders wsX6_orders := goodIn_r _ [0, 1, 2, 3, 4, 5, 6, 7, 8, 9, 10, 11, 12, 13, 14, 15, 16, 17, 18, 19, 20, 21, 22, 23, 24, 25, 26, 27, 28, 29, 30, 31, 32, 33, 34, 35, 36, 37, 38, 39, 40, 41, 42, 43, 44, 45, 46, 47, 48, 49, 50, 51, 52, 53, 54, 55, 56, 57, 58, 59, 60, 61, 62, 63, 64, 65, 66, 67, 68, 69, 70, 71, 72, 73, 74] (by decide +kernel) (by decide +kernel)
set_option maxRecDepth 20000 in
theorem gX6_orders_X6_orders : GoodIn wsX6_orders (wsV RX6 167 RX6 yX6_orders wsX6_orders) := goodIn_app (goodIn_of _ (by decide +kernel)) ggX6_orders_X6_orders
theorem dX6_orders_0 : decode cX6_orders 0 = .ok (.iload_n 1, 1) := by decide +kernel
theorem dX6_orders_1 : decode cX6_orders 1 = .ok (.aload_n 0, 1) := by decide +kernel
theorem dX6_orders_2 : decode cX6_orders 2 = .ok (.getfield 7, 3) := by decide +kernel
theorem dX6_orders_5 : decode cX6_orders 5 = .ok (.iconst 0, 1) := by decide +kernel
theorem dX6_orders_6 : decode cX6_orders 6 = .ok (.iaload, 1) := by decide +kernel
theorem dX6_orders_7 : decode cX6_orders 7 = .ok (.if_icmp .ne 72, 3) := by decide +kernel
theorem dX6_orders_10 : decode cX6_orders 10 = .ok (.aload_n 0, 1) := by decide +kernel
theorem dX6_orders_11 : decode cX6_orders 11 = .ok (.invokevirtual 160, 3) := by decide +kernel
theorem dX6_orders_14 : decode cX6_orders 14 = .ok (.ifCond .eq 64, 3) := by decide +kernel
theorem dX6_orders_17 : decode cX6_orders 17 = .ok (.aload_n 0, 1) := by decide +kernel
theorem dX6_orders_18 : decode cX6_orders 18 = .ok (.getfield 164, 3) := by decide +kernel
theorem dX6_orders_21 : decode cX6_orders 21 = .ok (.ifCond .lt 15, 3) := by decide +kernel
theorem dX6_orders_24 : decode cX6_orders 24 = .ok (.aload_n 0, 1) := by decide +kernel
theorem dX6_orders_25 : decode cX6_orders 25 = .ok (.iconst (-1), 1) := by decide +kernel
theorem dX6_orders_26 : decode cX6_orders 26 = .ok (.invokevirtual 157, 3) := by decide +kernel
theorem dX6_orders_29 : decode cX6_orders 29 = .ok (.aload_n 0, 1) := by decide +kernel
theorem dX6_orders_30 : decode cX6_orders 30 = .ok (.getfield 164, 3) := by decide +kernel
theorem dX6_orders_33 : decode cX6_orders 33 = .ok (.if_icmp .ge 45, 3) := by decide +kernel
theorem dX6_orders_36 : decode cX6_orders 36 = .ok (.aload_n 0, 1) := by decide +kernel
theorem dX6_orders_37 : decode cX6_orders 37 = .ok (.aload_n 0, 1) := by decide +kernel
theorem dX6_orders_38 : decode cX6_orders 38 = .ok (.iconst (-1), 1) := by decide +kernel
theorem dX6_orders_39 : decode cX6_orders 39 = .ok (.invokevirtual 157, 3) := by decide +kernel
theorem dX6_orders_42 : decode cX6_orders 42 = .ok (.putfield 164, 3) := by decide +kernel
theorem dX6_orders_45 : decode cX6_orders 45 = .ok (.iconst 0, 1) := by decide +kernel
theorem dX6_orders_46 : decode cX6_orders 46 = .ok (.istore_n 3, 1) := by decide +kernel
theorem dX6_orders_47 : decode cX6_orders 47 = .ok (.iload_n 3, 1) := by decide +kernel
theorem dX6_orders_48 : decode cX6_orders 48 = .ok (.aload_n 0, 1) := by decide +kernel
theorem dX6_orders_49 : decode cX6_orders 49 = .ok (.getfield 7, 3) := by decide +kernel
theorem dX6_orders_52 : decode cX6_orders 52 = .ok (.iconst 0, 1) := by decide +kernel
theorem dX6_orders_53 : decode cX6_orders 53 = .ok (.iaload, 1) := by decide +kernel
theorem dX6_orders_54 : decode cX6_orders 54 = .ok (.if_icmp .ge 24, 3) := by decide +kernel
theorem dX6_orders_57 : decode cX6_orders 57 = .ok (.aload_n 0, 1) := by decide +kernel
theorem dX6_orders_58 : decode cX6_orders 58 = .ok (.getfield 29, 3) := by decide +kernel
theorem dX6_orders_61 : decode cX6_orders 61 = .ok (.iload_n 3, 1) := by decide +kernel
theorem dX6_orders_62 : decode cX6_orders 62 = .ok (.aload_n 0, 1) := by decide +kernel
theorem dX6_orders_63 : decode cX6_orders 63 = .ok (.getfield 7, 3) := by decide +kernel
theorem dX6_orders_66 : decode cX6_orders 66 = .ok (.bipush 20, 2) := by decide +kernel
theorem dX6_orders_68 : decode cX6_orders 68 = .ok (.iload_n 3, 1) := by decide +kernel
theorem dX6_orders_69 : decode cX6_orders 69 = .ok (.iadd, 1) := by decide +kernel
theorem dX6_orders_70 : decode cX6_orders 70 = .ok (.iaload, 1) := by decide +kernel
theorem dX6_orders_71 : decode cX6_orders 71 = .ok (.iastore, 1) := by decide +kernel
theorem dX6_orders_72 : decode cX6_orders 72 = .ok (.iinc 3 1, 3) := by decide +kernel
theorem dX6_orders_75 : decode cX6_orders 75 = .ok (.goto (-28), 3) := by decide +kernel
theorem dX6_orders_78 : decode cX6_orders 78 = .ok (.return_, 1) := by decide +kernel
theorem dX6_orders_79 : decode cX6_orders 79 = .ok (.iconst 0, 1) := by decide +kernel
theorem dX6_orders_80 : decode cX6_orders 80 = .ok (.istore_n 3, 1) := by decide +kernel
theorem dX6_orders_81 : decode cX6_orders 81 = .ok (.iload_n 3, 1) := by decide +kernel
theorem dX6_orders_82 : decode cX6_orders 82 = .ok (.aload_n 0, 1) := by decide +kernel
theorem dX6_orders_83 : decode cX6_orders 83 = .ok (.getfield 7, 3) := by decide +kernel
theorem dX6_orders_86 : decode cX6_orders 86 = .ok (.iconst 0, 1) := by decide +kernel
theorem dX6_orders_87 : decode cX6_orders 87 = .ok (.iaload, 1) := by decide +kernel
theorem dX6_orders_88 : decode cX6_orders 88 = .ok (.if_icmp .ge 39, 3) := by decide +kernel
theorem dX6_orders_91 : decode cX6_orders 91 = .ok (.iload_n 2, 1) := by decide +kernel
theorem dX6_orders_92 : decode cX6_orders 92 = .ok (.iload_n 3, 1) := by decide +kernel
theorem dX6_orders_93 : decode cX6_orders 93 = .ok (.ishr, 1) := by decide +kernel
theorem dX6_orders_94 : decode cX6_orders 94 = .ok (.iconst 1, 1) := by decide +kernel
theorem dX6_orders_95 : decode cX6_orders 95 = .ok (.iand, 1) := by decide +kernel
theorem dX6_orders_96 : decode cX6_orders 96 = .ok (.ifCond .ne 25, 3) := by decide +kernel
theorem dX6_orders_99 : decode cX6_orders 99 = .ok (.aload_n 0, 1) := by decide +kernel
theorem dX6_orders_100 : decode cX6_orders 100 = .ok (.getfield 7, 3) := by decide +kernel
theorem dX6_orders_103 : decode cX6_orders 103 = .ok (.bipush 20, 2) := by decide +kernel
theorem dX6_orders_105 : decode cX6_orders 105 = .ok (.iload_n 1, 1) := by decide +kernel
theorem dX6_orders_106 : decode cX6_orders 106 = .ok (.iadd, 1) := by decide +kernel
theorem dX6_orders_107 : decode cX6_orders 107 = .ok (.iload_n 3, 1) := by decide +kernel
theorem dX6_orders_108 : decode cX6_orders 108 = .ok (.iastore, 1) := by decide +kernel
theorem dX6_orders_109 : decode cX6_orders 109 = .ok (.aload_n 0, 1) := by decide +kernel
theorem dX6_orders_110 : decode cX6_orders 110 = .ok (.iload_n 1, 1) := by decide +kernel
theorem dX6_orders_111 : decode cX6_orders 111 = .ok (.iconst 1, 1) := by decide +kernel
theorem dX6_orders_112 : decode cX6_orders 112 = .ok (.iadd, 1) := by decide +kernel
theorem dX6_orders_113 : decode cX6_orders 113 = .ok (.iload_n 2, 1) := by decide +kernel
theorem dX6_orders_114 : decode cX6_orders 114 = .ok (.iconst 1, 1) := by decide +kernel
theorem dX6_orders_115 : decode cX6_orders 115 = .ok (.iload_n 3, 1) := by decide +kernel
theorem dX6_orders_116 : decode cX6_orders 116 = .ok (.ishl, 1) := by decide +kernel
theorem dX6_orders_117 : decode cX6_orders 117 = .ok (.ior, 1) := by decide +kernel
theorem dX6_orders_118 : decode cX6_orders 118 = .ok (.invokevirtual 167, 3) := by decide +kernel
theorem dX6_orders_121 : decode cX6_orders 121 = .ok (.iinc 3 1, 3) := by decide +kernel
theorem dX6_orders_124 : decode cX6_orders 124 = .ok (.goto (-43), 3) := by decide +kernel
theorem dX6_orders_127 : decode cX6_orders 127 = .ok (.return_, 1) := by decide +kernel
set_option maxRecDepth 20000 in
theorem ggX6_searches_X6_orders : GoodIn wsX6_searches wsX6_orders := goodIn_r _ [8, 2, 3, 9, 10, 11, 12, 7, 13, 14, 15, 16, 17, 18, 19, 20, 21, 22, 23, 24, 25, 26, 27, 28, 29, 30, 31, 32, 33, 34, 35, 36, 37, 38, 39, 40, 41, 42, 43, 44, 45, 46, 47, 48, 49, 50, 51, 52, 53, 54, 55, 56, 4, 5, 6, 57, 58, 59, 60, 61, 62, 63, 64, 65, 66, 67, 68, 69, 70, 71, 72, 73, 74, 75, 76] (by decide +kernel) (by decide +kernel)
set_option maxRecDepth 20000 in
theorem gX6_searches_X6_orders : GoodIn wsX6_searches (wsV RX6 167 RX6 yX6_orders wsX6_orders) := goodIn_app (goodIn_of _ (by decide +kernel)) ggX6_searches_X6_orders
theorem dX6_searches_0 : decode cX6_searches 0 = .ok (.iconst 0, 1) := by decide +kernel
theorem dX6_searches_1 : decode cX6_searches 1 = .ok (.istore_n 1, 1) := by decide +kernel
theorem dX6_searches_2 : decode cX6_searches 2 = .ok (.iload_n 1, 1) := by decide +kernel
theorem dX6_searches_3 : decode cX6_searches 3 = .ok (.bipush 8, 2) := by decide +kernel
theorem dX6_searches_5 : decode cX6_searches 5 = .ok (.if_icmp .ge 24, 3) := by decide +kernel
theorem dX6_searches_8 : decode cX6_searches 8 = .ok (.aload_n 0, 1) := by decide +kernel
theorem dX6_searches_9 : decode cX6_searches 9 = .ok (.getfield 26, 3) := by decide +kernel
theorem dX6_searches_12 : decode cX6_searches 12 = .ok (.iload_n 1, 1) := by decide +kernel
theorem dX6_searches_13 : decode cX6_searches 13 = .ok (.aload_n 0, 1) := by decide +kernel
theorem dX6_searches_14 : decode cX6_searches 14 = .ok (.getfield 7, 3) := by decide +kernel
theorem dX6_searches_17 : decode cX6_searches 17 = .ok (.bipush 20, 2) := by decide +kernel
theorem dX6_searches_19 : decode cX6_searches 19 = .ok (.iload_n 1, 1) := by decide +kernel
theorem dX6_searches_20 : decode cX6_searches 20 = .ok (.iadd, 1) := by decide +kernel
theorem dX6_searches_21 : decode cX6_searches 21 = .ok (.iaload, 1) := by decide +kernel
theorem dX6_searches_22 : decode cX6_searches 22 = .ok (.iastore, 1) := by decide +kernel
theorem dX6_searches_23 : decode cX6_searches 23 = .ok (.iinc 1 1, 3) := by decide +kernel
theorem dX6_searches_26 : decode cX6_searches 26 = .ok (.goto (-24), 3) := by decide +kernel
theorem dX6_searches_29 : decode cX6_searches 29 = .ok (.aload_n 0, 1) := by decide +kernel
theorem dX6_searches_30 : decode cX6_searches 30 = .ok (.iconst (-1), 1) := by decide +kernel
theorem dX6_searches_31 : decode cX6_searches 31 = .ok (.putfield 164, 3) := by decide +kernel
theorem dX6_searches_34 : decode cX6_searches 34 = .ok (.aload_n 0, 1) := by decide +kernel
theorem dX6_searches_35 : decode cX6_searches 35 = .ok (.iconst 0, 1) := by decide +kernel
theorem dX6_searches_36 : decode cX6_searches 36 = .ok (.iconst 0, 1) := by decide +kernel
theorem dX6_searches_37 : decode cX6_searches 37 = .ok (.invokevirtual 167, 3) := by decide +kernel
theorem dX6_searches_40 : decode cX6_searches 40 = .ok (.iconst 0, 1) := by decide +kernel
theorem dX6_searches_41 : decode cX6_searches 41 = .ok (.istore_n 1, 1) := by decide +kernel
theorem dX6_searches_42 : decode cX6_searches 42 = .ok (.iload_n 1, 1) := by decide +kernel
theorem dX6_searches_43 : decode cX6_searches 43 = .ok (.bipush 8, 2) := by decide +kernel
theorem dX6_searches_45 : decode cX6_searches 45 = .ok (.if_icmp .ge 24, 3) := by decide +kernel
theorem dX6_searches_48 : decode cX6_searches 48 = .ok (.aload_n 0, 1) := by decide +kernel
theorem dX6_searches_49 : decode cX6_searches 49 = .ok (.getfield 7, 3) := by decide +kernel
theorem dX6_searches_52 : decode cX6_searches 52 = .ok (.bipush 20, 2) := by decide +kernel
theorem dX6_searches_54 : decode cX6_searches 54 = .ok (.iload_n 1, 1) := by decide +kernel
theorem dX6_searches_55 : decode cX6_searches 55 = .ok (.iadd, 1) := by decide +kernel
theorem dX6_searches_56 : decode cX6_searches 56 = .ok (.aload_n 0, 1) := by decide +kernel
theorem dX6_searches_57 : decode cX6_searches 57 = .ok (.getfield 26, 3) := by decide +kernel
theorem dX6_searches_60 : decode cX6_searches 60 = .ok (.iload_n 1, 1) := by decide +kernel
theorem dX6_searches_61 : decode cX6_searches 61 = .ok (.iaload, 1) := by decide +kernel
theorem dX6_searches_62 : decode cX6_searches 62 = .ok (.iastore, 1) := by decide +kernel
theorem dX6_searches_63 : decode cX6_searches 63 = .ok (.iinc 1 1, 3) := by decide +kernel
theorem dX6_searches_66 : decode cX6_searches 66 = .ok (.goto (-24), 3) := by decide +kernel
theorem dX6_searches_69 : decode cX6_searches 69 = .ok (.return_, 1) := by decide +kernel
set_option maxRecDepth 20000 in
theorem ggX6_leastDelay_X6_fails : GoodIn wsX6_leastDelay wsX6_fails := goodIn_r _ [8, 1, 66, 67, 68, 69, 70, 71, 72, 73, 74, 75, 76, 77, 78, 79, 80, 81, 82, 83, 84, 85] (by decide +kernel) (by decide +kernel)
set_option maxRecDepth 20000 in
theorem gX6_leastDelay_X6_fails : GoodIn wsX6_leastDelay (wsV RX6 83 RX6 yX6_fails wsX6_fails) := goodIn_app (goodIn_of _ (by decide +kernel)) ggX6_leastDelay_X6_fails
set_option maxRecDepth 20000 in
theorem ggX6_leastDelay_X6_searches : GoodIn wsX6_leastDelay wsX6_searches := goodIn_r _ [12, 13, 2, 3, 14, 15, 16, 7, 17, 18, 19, 20, 21, 22, 23, 24, 25, 26, 27, 28, 29, 30, 31, 32, 33, 34, 35, 36, 37, 38, 39, 40, 41, 42, 43, 44, 45, 46, 47, 48, 49, 50, 51, 52, 53, 54, 55, 56, 57, 58, 59, 60, 61, 62, 63, 64, 65, 66, 67, 68, 69, 70, 71, 72, 73, 74, 75, 76, 77, 78, 79, 80, 81, 82, 83, 84, 85] (by decide +kernel) (by decide +kernel)
set_option maxRecDepth 20000 in
theorem gX6_leastDelay_X6_searches : GoodIn wsX6_leastDelay (wsV RX6 170 RX6 yX6_searches wsX6_searches) := goodIn_app (goodIn_of _ (by decide +kernel)) ggX6_leastDelay_X6_searches
theorem dX6_leastDelay_0 : decode cX6_leastDelay 0 = .ok (.aload_n 0, 1) := by decide +kernel
theorem dX6_leastDelay_1 : decode cX6_leastDelay 1 = .ok (.iconst 0, 1) := by decide +kernel
theorem dX6_leastDelay_2 : decode cX6_leastDelay 2 = .ok (.putfield 53, 3) := by decide +kernel
theorem dX6_leastDelay_5 : decode cX6_leastDelay 5 = .ok (.aload_n 0, 1) := by decide +kernel
theorem dX6_leastDelay_6 : decode cX6_leastDelay 6 = .ok (.getfield 7, 3) := by decide +kernel
theorem dX6_leastDelay_9 : decode cX6_leastDelay 9 = .ok (.iconst 0, 1) := by decide +kernel
theorem dX6_leastDelay_10 : decode cX6_leastDelay 10 = .ok (.iaload, 1) := by decide +kernel
theorem dX6_leastDelay_11 : decode cX6_leastDelay 11 = .ok (.bipush 6, 2) := by decide +kernel
theorem dX6_leastDelay_13 : decode cX6_leastDelay 13 = .ok (.if_icmp .le 9, 3) := by decide +kernel
theorem dX6_leastDelay_16 : decode cX6_leastDelay 16 = .ok (.aload_n 0, 1) := by decide +kernel
theorem dX6_leastDelay_17 : decode cX6_leastDelay 17 = .ok (.iconst 1, 1) := by decide +kernel
theorem dX6_leastDelay_18 : decode cX6_leastDelay 18 = .ok (.invokevirtual 83, 3) := by decide +kernel
theorem dX6_leastDelay_21 : decode cX6_leastDelay 21 = .ok (.ireturn, 1) := by decide +kernel
theorem dX6_leastDelay_22 : decode cX6_leastDelay 22 = .ok (.aload_n 0, 1) := by decide +kernel
theorem dX6_leastDelay_23 : decode cX6_leastDelay 23 = .ok (.invokevirtual 170, 3) := by decide +kernel
theorem dX6_leastDelay_26 : decode cX6_leastDelay 26 = .ok (.aload_n 0, 1) := by decide +kernel
theorem dX6_leastDelay_27 : decode cX6_leastDelay 27 = .ok (.getfield 164, 3) := by decide +kernel
theorem dX6_leastDelay_30 : decode cX6_leastDelay 30 = .ok (.ireturn, 1) := by decide +kernel
set_option maxRecDepth 20000 in
theorem ggX6_reorder_X6_fails : GoodIn wsX6_reorder wsX6_fails := goodIn_r _ [9, 1, 66, 67, 68, 69, 70, 71, 72, 73, 74, 75, 76, 77, 78, 79, 80, 81, 82, 83, 84, 85] (by decide +kernel) (by decide +kernel)
set_option maxRecDepth 20000 in
theorem gX6_reorder_X6_fails : GoodIn wsX6_reorder (wsV RX6 83 RX6 yX6_fails wsX6_fails) := goodIn_app (goodIn_of _ (by decide +kernel)) ggX6_reorder_X6_fails
set_option maxRecDepth 20000 in
theorem ggX6_reorder_X6_searches : GoodIn wsX6_reorder wsX6_searches := goodIn_r _ [13, 4, 2, 14, 15, 16, 17, 8, 18, 3, 19, 20, 21, 22, 23, 24, 25, 26, 27, 28, 29, 30, 31, 32, 33, 34, 35, 36, 37, 38, 39, 40, 41, 42, 43, 44, 45, 46, 47, 48, 49, 50, 51, 52, 53, 54, 55, 56, 57, 58, 59, 60, 61, 62, 63, 64, 65, 66, 67, 68, 69, 70, 71, 72, 73, 74, 75, 76, 77, 78, 79, 80, 81, 82, 83, 84, 85] (by decide +kernel) (by decide +kernel)
set_option maxRecDepth 20000 in
theorem gX6_reorder_X6_searches : GoodIn wsX6_reorder (wsV RX6 170 RX6 yX6_searches wsX6_searches) := goodIn_app (goodIn_of _ (by decide +kernel)) ggX6_reorder_X6_searches
theorem dX6_reorder_0 : decode cX6_reorder 0 = .ok (.aload_n 0, 1) := by decide +kernel
theorem dX6_reorder_1 : decode cX6_reorder 1 = .ok (.iconst 0, 1) := by decide +kernel
theorem dX6_reorder_2 : decode cX6_reorder 2 = .ok (.putfield 53, 3) := by decide +kernel
theorem dX6_reorder_5 : decode cX6_reorder 5 = .ok (.aload_n 0, 1) := by decide +kernel
theorem dX6_reorder_6 : decode cX6_reorder 6 = .ok (.getfield 7, 3) := by decide +kernel
theorem dX6_reorder_9 : decode cX6_reorder 9 = .ok (.iconst 0, 1) := by decide +kernel
theorem dX6_reorder_10 : decode cX6_reorder 10 = .ok (.iaload, 1) := by decide +kernel
theorem dX6_reorder_11 : decode cX6_reorder 11 = .ok (.bipush 6, 2) := by decide +kernel
theorem dX6_reorder_13 : decode cX6_reorder 13 = .ok (.if_icmp .le 9, 3) := by decide +kernel
theorem dX6_reorder_16 : decode cX6_reorder 16 = .ok (.aload_n 0, 1) := by decide +kernel
theorem dX6_reorder_17 : decode cX6_reorder 17 = .ok (.iconst 1, 1) := by decide +kernel
theorem dX6_reorder_18 : decode cX6_reorder 18 = .ok (.invokevirtual 83, 3) := by decide +kernel
theorem dX6_reorder_21 : decode cX6_reorder 21 = .ok (.ireturn, 1) := by decide +kernel
theorem dX6_reorder_22 : decode cX6_reorder 22 = .ok (.aload_n 0, 1) := by decide +kernel
theorem dX6_reorder_23 : decode cX6_reorder 23 = .ok (.invokevirtual 170, 3) := by decide +kernel
theorem dX6_reorder_26 : decode cX6_reorder 26 = .ok (.iconst 0, 1) := by decide +kernel
theorem dX6_reorder_27 : decode cX6_reorder 27 = .ok (.istore_n 1, 1) := by decide +kernel
theorem dX6_reorder_28 : decode cX6_reorder 28 = .ok (.iconst 0, 1) := by decide +kernel
theorem dX6_reorder_29 : decode cX6_reorder 29 = .ok (.istore_n 2, 1) := by decide +kernel
theorem dX6_reorder_30 : decode cX6_reorder 30 = .ok (.iload_n 2, 1) := by decide +kernel
theorem dX6_reorder_31 : decode cX6_reorder 31 = .ok (.aload_n 0, 1) := by decide +kernel
theorem dX6_reorder_32 : decode cX6_reorder 32 = .ok (.getfield 7, 3) := by decide +kernel
theorem dX6_reorder_35 : decode cX6_reorder 35 = .ok (.iconst 0, 1) := by decide +kernel
theorem dX6_reorder_36 : decode cX6_reorder 36 = .ok (.iaload, 1) := by decide +kernel
theorem dX6_reorder_37 : decode cX6_reorder 37 = .ok (.if_icmp .ge 47, 3) := by decide +kernel
theorem dX6_reorder_40 : decode cX6_reorder 40 = .ok (.aload_n 0, 1) := by decide +kernel
theorem dX6_reorder_41 : decode cX6_reorder 41 = .ok (.getfield 7, 3) := by decide +kernel
theorem dX6_reorder_44 : decode cX6_reorder 44 = .ok (.bipush 20, 2) := by decide +kernel
theorem dX6_reorder_46 : decode cX6_reorder 46 = .ok (.iload_n 2, 1) := by decide +kernel
theorem dX6_reorder_47 : decode cX6_reorder 47 = .ok (.iadd, 1) := by decide +kernel
theorem dX6_reorder_48 : decode cX6_reorder 48 = .ok (.aload_n 0, 1) := by decide +kernel
theorem dX6_reorder_49 : decode cX6_reorder 49 = .ok (.getfield 29, 3) := by decide +kernel
theorem dX6_reorder_52 : decode cX6_reorder 52 = .ok (.iload_n 2, 1) := by decide +kernel
theorem dX6_reorder_53 : decode cX6_reorder 53 = .ok (.iaload, 1) := by decide +kernel
theorem dX6_reorder_54 : decode cX6_reorder 54 = .ok (.iastore, 1) := by decide +kernel
theorem dX6_reorder_55 : decode cX6_reorder 55 = .ok (.iload_n 1, 1) := by decide +kernel
theorem dX6_reorder_56 : decode cX6_reorder 56 = .ok (.aload_n 0, 1) := by decide +kernel
theorem dX6_reorder_57 : decode cX6_reorder 57 = .ok (.getfield 26, 3) := by decide +kernel
theorem dX6_reorder_60 : decode cX6_reorder 60 = .ok (.iload_n 2, 1) := by decide +kernel
theorem dX6_reorder_61 : decode cX6_reorder 61 = .ok (.iaload, 1) := by decide +kernel
theorem dX6_reorder_62 : decode cX6_reorder 62 = .ok (.aload_n 0, 1) := by decide +kernel
theorem dX6_reorder_63 : decode cX6_reorder 63 = .ok (.getfield 29, 3) := by decide +kernel
theorem dX6_reorder_66 : decode cX6_reorder 66 = .ok (.iload_n 2, 1) := by decide +kernel
theorem dX6_reorder_67 : decode cX6_reorder 67 = .ok (.iaload, 1) := by decide +kernel
theorem dX6_reorder_68 : decode cX6_reorder 68 = .ok (.if_icmp .ne 7, 3) := by decide +kernel
theorem dX6_reorder_71 : decode cX6_reorder 71 = .ok (.iconst 0, 1) := by decide +kernel
theorem dX6_reorder_72 : decode cX6_reorder 72 = .ok (.goto 4, 3) := by decide +kernel
theorem dX6_reorder_75 : decode cX6_reorder 75 = .ok (.iconst 1, 1) := by decide +kernel
theorem dX6_reorder_76 : decode cX6_reorder 76 = .ok (.iadd, 1) := by decide +kernel
theorem dX6_reorder_77 : decode cX6_reorder 77 = .ok (.istore_n 1, 1) := by decide +kernel
theorem dX6_reorder_78 : decode cX6_reorder 78 = .ok (.iinc 2 1, 3) := by decide +kernel
theorem dX6_reorder_81 : decode cX6_reorder 81 = .ok (.goto (-51), 3) := by decide +kernel
theorem dX6_reorder_84 : decode cX6_reorder 84 = .ok (.iload_n 1, 1) := by decide +kernel
theorem dX6_reorder_85 : decode cX6_reorder 85 = .ok (.ireturn, 1) := by decide +kernel
theorem dX6_chosen_0 : decode cX6_chosen 0 = .ok (.aload_n 0, 1) := by decide +kernel
theorem dX6_chosen_1 : decode cX6_chosen 1 = .ok (.getfield 7, 3) := by decide +kernel
theorem dX6_chosen_4 : decode cX6_chosen 4 = .ok (.iconst 5, 1) := by decide +kernel
theorem dX6_chosen_5 : decode cX6_chosen 5 = .ok (.iaload, 1) := by decide +kernel
theorem dX6_chosen_6 : decode cX6_chosen 6 = .ok (.ifCond .ne 12, 3) := by decide +kernel
theorem dX6_chosen_9 : decode cX6_chosen 9 = .ok (.iload_n 1, 1) := by decide +kernel
theorem dX6_chosen_10 : decode cX6_chosen 10 = .ok (.aload_n 0, 1) := by decide +kernel
theorem dX6_chosen_11 : decode cX6_chosen 11 = .ok (.getfield 7, 3) := by decide +kernel
theorem dX6_chosen_14 : decode cX6_chosen 14 = .ok (.iconst 4, 1) := by decide +kernel
theorem dX6_chosen_15 : decode cX6_chosen 15 = .ok (.iaload, 1) := by decide +kernel
theorem dX6_chosen_16 : decode cX6_chosen 16 = .ok (.irem, 1) := by decide +kernel
theorem dX6_chosen_17 : decode cX6_chosen 17 = .ok (.ireturn, 1) := by decide +kernel
theorem dX6_chosen_18 : decode cX6_chosen 18 = .ok (.aload_n 0, 1) := by decide +kernel
theorem dX6_chosen_19 : decode cX6_chosen 19 = .ok (.getfield 7, 3) := by decide +kernel
theorem dX6_chosen_22 : decode cX6_chosen 22 = .ok (.iconst 5, 1) := by decide +kernel
theorem dX6_chosen_23 : decode cX6_chosen 23 = .ok (.iaload, 1) := by decide +kernel
theorem dX6_chosen_24 : decode cX6_chosen 24 = .ok (.iconst 1, 1) := by decide +kernel
theorem dX6_chosen_25 : decode cX6_chosen 25 = .ok (.if_icmp .ne 19, 3) := by decide +kernel
theorem dX6_chosen_28 : decode cX6_chosen 28 = .ok (.iload_n 1, 1) := by decide +kernel
theorem dX6_chosen_29 : decode cX6_chosen 29 = .ok (.aload_n 0, 1) := by decide +kernel
theorem dX6_chosen_30 : decode cX6_chosen 30 = .ok (.getfield 7, 3) := by decide +kernel
theorem dX6_chosen_33 : decode cX6_chosen 33 = .ok (.iconst 4, 1) := by decide +kernel
theorem dX6_chosen_34 : decode cX6_chosen 34 = .ok (.iaload, 1) := by decide +kernel
theorem dX6_chosen_35 : decode cX6_chosen 35 = .ok (.imul, 1) := by decide +kernel
theorem dX6_chosen_36 : decode cX6_chosen 36 = .ok (.aload_n 0, 1) := by decide +kernel
theorem dX6_chosen_37 : decode cX6_chosen 37 = .ok (.getfield 7, 3) := by decide +kernel
theorem dX6_chosen_40 : decode cX6_chosen 40 = .ok (.iconst 2, 1) := by decide +kernel
theorem dX6_chosen_41 : decode cX6_chosen 41 = .ok (.iaload, 1) := by decide +kernel
theorem dX6_chosen_42 : decode cX6_chosen 42 = .ok (.idiv, 1) := by decide +kernel
theorem dX6_chosen_43 : decode cX6_chosen 43 = .ok (.ireturn, 1) := by decide +kernel
theorem dX6_chosen_44 : decode cX6_chosen 44 = .ok (.iconst 0, 1) := by decide +kernel
theorem dX6_chosen_45 : decode cX6_chosen 45 = .ok (.istore_n 2, 1) := by decide +kernel
theorem dX6_chosen_46 : decode cX6_chosen 46 = .ok (.iconst 1, 1) := by decide +kernel
theorem dX6_chosen_47 : decode cX6_chosen 47 = .ok (.istore_n 3, 1) := by decide +kernel
theorem dX6_chosen_48 : decode cX6_chosen 48 = .ok (.iload_n 3, 1) := by decide +kernel
theorem dX6_chosen_49 : decode cX6_chosen 49 = .ok (.aload_n 0, 1) := by decide +kernel
theorem dX6_chosen_50 : decode cX6_chosen 50 = .ok (.getfield 7, 3) := by decide +kernel
theorem dX6_chosen_53 : decode cX6_chosen 53 = .ok (.iconst 4, 1) := by decide +kernel
theorem dX6_chosen_54 : decode cX6_chosen 54 = .ok (.iaload, 1) := by decide +kernel
theorem dX6_chosen_55 : decode cX6_chosen 55 = .ok (.if_icmp .ge 30, 3) := by decide +kernel
theorem dX6_chosen_58 : decode cX6_chosen 58 = .ok (.aload_n 0, 1) := by decide +kernel
theorem dX6_chosen_59 : decode cX6_chosen 59 = .ok (.getfield 38, 3) := by decide +kernel
theorem dX6_chosen_62 : decode cX6_chosen 62 = .ok (.iload_n 3, 1) := by decide +kernel
theorem dX6_chosen_63 : decode cX6_chosen 63 = .ok (.iaload, 1) := by decide +kernel
theorem dX6_chosen_64 : decode cX6_chosen 64 = .ok (.aload_n 0, 1) := by decide +kernel
theorem dX6_chosen_65 : decode cX6_chosen 65 = .ok (.getfield 38, 3) := by decide +kernel
theorem dX6_chosen_68 : decode cX6_chosen 68 = .ok (.iload_n 2, 1) := by decide +kernel
theorem dX6_chosen_69 : decode cX6_chosen 69 = .ok (.iaload, 1) := by decide +kernel
theorem dX6_chosen_70 : decode cX6_chosen 70 = .ok (.if_icmp .ge 7, 3) := by decide +kernel
theorem dX6_chosen_73 : decode cX6_chosen 73 = .ok (.iload_n 3, 1) := by decide +kernel
theorem dX6_chosen_74 : decode cX6_chosen 74 = .ok (.goto 4, 3) := by decide +kernel
theorem dX6_chosen_77 : decode cX6_chosen 77 = .ok (.iload_n 2, 1) := by decide +kernel
theorem dX6_chosen_78 : decode cX6_chosen 78 = .ok (.istore_n 2, 1) := by decide +kernel
theorem dX6_chosen_79 : decode cX6_chosen 79 = .ok (.iinc 3 1, 3) := by decide +kernel
theorem dX6_chosen_82 : decode cX6_chosen 82 = .ok (.goto (-34), 3) := by decide +kernel
theorem dX6_chosen_85 : decode cX6_chosen 85 = .ok (.iload_n 2, 1) := by decide +kernel
theorem dX6_chosen_86 : decode cX6_chosen 86 = .ok (.ireturn, 1) := by decide +kernel
set_option maxRecDepth 20000 in
theorem ggX6_executes_X6_isSignal : GoodIn wsX6_executes wsX6_isSignal := goodIn_r _ [10, 2, 11, 12, 9, 13, 14, 15, 16, 17, 38, 39, 40, 41, 42, 43, 44, 45, 46, 47, 48, 49, 50, 51, 52, 53, 54, 55, 56, 57] (by decide +kernel) (by decide +kernel)
set_option maxRecDepth 20000 in
theorem gX6_executes_X6_isSignal : GoodIn wsX6_executes (wsV RX6 147 RX6 yX6_isSignal wsX6_isSignal) := goodIn_app (goodIn_of _ (by decide +kernel)) ggX6_executes_X6_isSignal
set_option maxRecDepth 20000 in
theorem ggX6_executes_X6_target : GoodIn wsX6_executes wsX6_target := goodIn_r _ [21, 2, 11, 12, 9, 13, 38, 39, 40, 41, 42, 43, 44, 45, 46, 47, 48, 49, 50, 51, 52, 53, 54, 55, 56, 57] (by decide +kernel) (by decide +kernel)
set_option maxRecDepth 20000 in
theorem gX6_executes_X6_target : GoodIn wsX6_executes (wsV RX6 74 RX6 yX6_target wsX6_target) := goodIn_app (goodIn_of _ (by decide +kernel)) ggX6_executes_X6_target
set_option maxRecDepth 20000 in
theorem ggX6_executes_X6_far : GoodIn wsX6_executes wsX6_far := goodIn_r _ [17, 2, 11, 12, 9, 13, 38, 39, 40, 41, 42, 43, 44, 45, 46, 47, 48, 49, 50, 51, 52, 53, 54, 55, 56, 57] (by decide +kernel) (by decide +kernel)
set_option maxRecDepth 20000 in
theorem gX6_executes_X6_far : GoodIn wsX6_executes (wsV RX6 64 RX6 yX6_far wsX6_far) := goodIn_app (goodIn_of _ (by decide +kernel)) ggX6_executes_X6_far
set_option maxRecDepth 20000 in
theorem ggX6_executes_X6_source : GoodIn wsX6_executes wsX6_source := goodIn_r _ [25, 2, 11, 12, 9, 13, 38, 39, 40, 41, 42, 43, 44, 45, 46, 47, 48, 49, 50, 51, 52, 53, 54, 55, 56, 57] (by decide +kernel) (by decide +kernel)
set_option maxRecDepth 20000 in
theorem gX6_executes_X6_source : GoodIn wsX6_executes (wsV RX6 71 RX6 yX6_source wsX6_source) := goodIn_app (goodIn_of _ (by decide +kernel)) ggX6_executes_X6_source
set_option maxRecDepth 20000 in
theorem ggX6_executes_X6_lag : GoodIn wsX6_executes wsX6_lag := goodIn_r _ [29, 2, 30, 31, 32, 9, 33, 22, 23, 24, 25, 11, 12, 13, 34, 35, 36, 37, 18, 19, 20, 21, 38, 39, 40, 41, 42, 43, 44, 45, 46, 47, 48, 49, 50, 51, 52, 53, 54, 55, 56, 57] (by decide +kernel) (by decide +kernel)
set_option maxRecDepth 20000 in
theorem gX6_executes_X6_lag : GoodIn wsX6_executes (wsV RX6 140 RX6 yX6_lag wsX6_lag) := goodIn_app (goodIn_of _ (by decide +kernel)) ggX6_executes_X6_lag
set_option maxRecDepth 20000 in
theorem ggX6_executes_X6_cost : GoodIn wsX6_executes wsX6_cost := goodIn_r _ [37, 2, 38, 39, 40, 41, 42, 43, 44, 45, 46, 47, 48, 49, 50, 51, 52, 53, 54, 55, 56, 57] (by decide +kernel) (by decide +kernel)
set_option maxRecDepth 20000 in
theorem gX6_executes_X6_cost : GoodIn wsX6_executes (wsV RX6 68 RX6 yX6_cost wsX6_cost) := goodIn_app (goodIn_of _ (by decide +kernel)) ggX6_executes_X6_cost
theorem dX6_executes_0 : decode cX6_executes 0 = .ok (.aload_n 0, 1) := by decide +kernel
theorem dX6_executes_1 : decode cX6_executes 1 = .ok (.getfield 38, 3) := by decide +kernel
theorem dX6_executes_4 : decode cX6_executes 4 = .ok (.iload_n 3, 1) := by decide +kernel
theorem dX6_executes_5 : decode cX6_executes 5 = .ok (.iaload, 1) := by decide +kernel
theorem dX6_executes_6 : decode cX6_executes 6 = .ok (.istore 4, 2) := by decide +kernel
theorem dX6_executes_8 : decode cX6_executes 8 = .ok (.iconst 0, 1) := by decide +kernel
theorem dX6_executes_9 : decode cX6_executes 9 = .ok (.istore 5, 2) := by decide +kernel
theorem dX6_executes_11 : decode cX6_executes 11 = .ok (.iload 5, 2) := by decide +kernel
theorem dX6_executes_13 : decode cX6_executes 13 = .ok (.aload_n 0, 1) := by decide +kernel
theorem dX6_executes_14 : decode cX6_executes 14 = .ok (.getfield 7, 3) := by decide +kernel
theorem dX6_executes_17 : decode cX6_executes 17 = .ok (.iconst 1, 1) := by decide +kernel
theorem dX6_executes_18 : decode cX6_executes 18 = .ok (.iaload, 1) := by decide +kernel
theorem dX6_executes_19 : decode cX6_executes 19 = .ok (.if_icmp .ge 86, 3) := by decide +kernel
theorem dX6_executes_22 : decode cX6_executes 22 = .ok (.aload_n 0, 1) := by decide +kernel
theorem dX6_executes_23 : decode cX6_executes 23 = .ok (.iload 5, 2) := by decide +kernel
theorem dX6_executes_25 : decode cX6_executes 25 = .ok (.invokevirtual 147, 3) := by decide +kernel
theorem dX6_executes_28 : decode cX6_executes 28 = .ok (.ifCond .eq 71, 3) := by decide +kernel
theorem dX6_executes_31 : decode cX6_executes 31 = .ok (.aload_n 0, 1) := by decide +kernel
theorem dX6_executes_32 : decode cX6_executes 32 = .ok (.iload 5, 2) := by decide +kernel
theorem dX6_executes_34 : decode cX6_executes 34 = .ok (.invokevirtual 74, 3) := by decide +kernel
theorem dX6_executes_37 : decode cX6_executes 37 = .ok (.iload_n 2, 1) := by decide +kernel
theorem dX6_executes_38 : decode cX6_executes 38 = .ok (.if_icmp .ne 61, 3) := by decide +kernel
theorem dX6_executes_41 : decode cX6_executes 41 = .ok (.iload_n 1, 1) := by decide +kernel
theorem dX6_executes_42 : decode cX6_executes 42 = .ok (.aload_n 0, 1) := by decide +kernel
theorem dX6_executes_43 : decode cX6_executes 43 = .ok (.iload 5, 2) := by decide +kernel
theorem dX6_executes_45 : decode cX6_executes 45 = .ok (.invokevirtual 64, 3) := by decide +kernel
theorem dX6_executes_48 : decode cX6_executes 48 = .ok (.if_icmp .lt 51, 3) := by decide +kernel
theorem dX6_executes_51 : decode cX6_executes 51 = .ok (.aload_n 0, 1) := by decide +kernel
theorem dX6_executes_52 : decode cX6_executes 52 = .ok (.getfield 32, 3) := by decide +kernel
theorem dX6_executes_55 : decode cX6_executes 55 = .ok (.bipush 40, 2) := by decide +kernel
theorem dX6_executes_57 : decode cX6_executes 57 = .ok (.aload_n 0, 1) := by decide +kernel
theorem dX6_executes_58 : decode cX6_executes 58 = .ok (.iload 5, 2) := by decide +kernel
theorem dX6_executes_60 : decode cX6_executes 60 = .ok (.invokevirtual 71, 3) := by decide +kernel
theorem dX6_executes_63 : decode cX6_executes 63 = .ok (.imul, 1) := by decide +kernel
theorem dX6_executes_64 : decode cX6_executes 64 = .ok (.iload_n 1, 1) := by decide +kernel
theorem dX6_executes_65 : decode cX6_executes 65 = .ok (.iadd, 1) := by decide +kernel
theorem dX6_executes_66 : decode cX6_executes 66 = .ok (.aload_n 0, 1) := by decide +kernel
theorem dX6_executes_67 : decode cX6_executes 67 = .ok (.iload 5, 2) := by decide +kernel
theorem dX6_executes_69 : decode cX6_executes 69 = .ok (.invokevirtual 64, 3) := by decide +kernel
theorem dX6_executes_72 : decode cX6_executes 72 = .ok (.isub, 1) := by decide +kernel
theorem dX6_executes_73 : decode cX6_executes 73 = .ok (.iaload, 1) := by decide +kernel
theorem dX6_executes_74 : decode cX6_executes 74 = .ok (.aload_n 0, 1) := by decide +kernel
theorem dX6_executes_75 : decode cX6_executes 75 = .ok (.iload 5, 2) := by decide +kernel
theorem dX6_executes_77 : decode cX6_executes 77 = .ok (.invokevirtual 140, 3) := by decide +kernel
theorem dX6_executes_80 : decode cX6_executes 80 = .ok (.iadd, 1) := by decide +kernel
theorem dX6_executes_81 : decode cX6_executes 81 = .ok (.istore 6, 2) := by decide +kernel
theorem dX6_executes_83 : decode cX6_executes 83 = .ok (.iload 6, 2) := by decide +kernel
theorem dX6_executes_85 : decode cX6_executes 85 = .ok (.iload 4, 2) := by decide +kernel
theorem dX6_executes_87 : decode cX6_executes 87 = .ok (.if_icmp .le 8, 3) := by decide +kernel
theorem dX6_executes_90 : decode cX6_executes 90 = .ok (.iload 6, 2) := by decide +kernel
theorem dX6_executes_92 : decode cX6_executes 92 = .ok (.goto 5, 3) := by decide +kernel
theorem dX6_executes_95 : decode cX6_executes 95 = .ok (.iload 4, 2) := by decide +kernel
theorem dX6_executes_97 : decode cX6_executes 97 = .ok (.istore 4, 2) := by decide +kernel
theorem dX6_executes_99 : decode cX6_executes 99 = .ok (.iinc 5 1, 3) := by decide +kernel
theorem dX6_executes_102 : decode cX6_executes 102 = .ok (.goto (-91), 3) := by decide +kernel
theorem dX6_executes_105 : decode cX6_executes 105 = .ok (.aload_n 0, 1) := by decide +kernel
theorem dX6_executes_106 : decode cX6_executes 106 = .ok (.getfield 32, 3) := by decide +kernel
theorem dX6_executes_109 : decode cX6_executes 109 = .ok (.bipush 40, 2) := by decide +kernel
theorem dX6_executes_111 : decode cX6_executes 111 = .ok (.iload_n 2, 1) := by decide +kernel
theorem dX6_executes_112 : decode cX6_executes 112 = .ok (.imul, 1) := by decide +kernel
theorem dX6_executes_113 : decode cX6_executes 113 = .ok (.iload_n 1, 1) := by decide +kernel
theorem dX6_executes_114 : decode cX6_executes 114 = .ok (.iadd, 1) := by decide +kernel
theorem dX6_executes_115 : decode cX6_executes 115 = .ok (.iload 4, 2) := by decide +kernel
theorem dX6_executes_117 : decode cX6_executes 117 = .ok (.iastore, 1) := by decide +kernel
theorem dX6_executes_118 : decode cX6_executes 118 = .ok (.aload_n 0, 1) := by decide +kernel
theorem dX6_executes_119 : decode cX6_executes 119 = .ok (.getfield 50, 3) := by decide +kernel
theorem dX6_executes_122 : decode cX6_executes 122 = .ok (.iload_n 3, 1) := by decide +kernel
theorem dX6_executes_123 : decode cX6_executes 123 = .ok (.dup2, 1) := by decide +kernel
theorem dX6_executes_124 : decode cX6_executes 124 = .ok (.iaload, 1) := by decide +kernel
theorem dX6_executes_125 : decode cX6_executes 125 = .ok (.iload 4, 2) := by decide +kernel
theorem dX6_executes_127 : decode cX6_executes 127 = .ok (.aload_n 0, 1) := by decide +kernel
theorem dX6_executes_128 : decode cX6_executes 128 = .ok (.getfield 38, 3) := by decide +kernel
theorem dX6_executes_131 : decode cX6_executes 131 = .ok (.iload_n 3, 1) := by decide +kernel
theorem dX6_executes_132 : decode cX6_executes 132 = .ok (.iaload, 1) := by decide +kernel
theorem dX6_executes_133 : decode cX6_executes 133 = .ok (.isub, 1) := by decide +kernel
theorem dX6_executes_134 : decode cX6_executes 134 = .ok (.iadd, 1) := by decide +kernel
theorem dX6_executes_135 : decode cX6_executes 135 = .ok (.iastore, 1) := by decide +kernel
theorem dX6_executes_136 : decode cX6_executes 136 = .ok (.aload_n 0, 1) := by decide +kernel
theorem dX6_executes_137 : decode cX6_executes 137 = .ok (.getfield 47, 3) := by decide +kernel
theorem dX6_executes_140 : decode cX6_executes 140 = .ok (.iload_n 3, 1) := by decide +kernel
theorem dX6_executes_141 : decode cX6_executes 141 = .ok (.dup2, 1) := by decide +kernel
theorem dX6_executes_142 : decode cX6_executes 142 = .ok (.iaload, 1) := by decide +kernel
theorem dX6_executes_143 : decode cX6_executes 143 = .ok (.aload_n 0, 1) := by decide +kernel
theorem dX6_executes_144 : decode cX6_executes 144 = .ok (.iload_n 2, 1) := by decide +kernel
theorem dX6_executes_145 : decode cX6_executes 145 = .ok (.invokevirtual 68, 3) := by decide +kernel
theorem dX6_executes_148 : decode cX6_executes 148 = .ok (.iadd, 1) := by decide +kernel
theorem dX6_executes_149 : decode cX6_executes 149 = .ok (.iastore, 1) := by decide +kernel
theorem dX6_executes_150 : decode cX6_executes 150 = .ok (.aload_n 0, 1) := by decide +kernel
theorem dX6_executes_151 : decode cX6_executes 151 = .ok (.getfield 38, 3) := by decide +kernel
theorem dX6_executes_154 : decode cX6_executes 154 = .ok (.iload_n 3, 1) := by decide +kernel
theorem dX6_executes_155 : decode cX6_executes 155 = .ok (.iload 4, 2) := by decide +kernel
theorem dX6_executes_157 : decode cX6_executes 157 = .ok (.aload_n 0, 1) := by decide +kernel
theorem dX6_executes_158 : decode cX6_executes 158 = .ok (.iload_n 2, 1) := by decide +kernel
theorem dX6_executes_159 : decode cX6_executes 159 = .ok (.invokevirtual 68, 3) := by decide +kernel
theorem dX6_executes_162 : decode cX6_executes 162 = .ok (.iadd, 1) := by decide +kernel
theorem dX6_executes_163 : decode cX6_executes 163 = .ok (.iastore, 1) := by decide +kernel
theorem dX6_executes_164 : decode cX6_executes 164 = .ok (.return_, 1) := by decide +kernel
set_option maxRecDepth 20000 in
theorem ggX6_runs_X6_chosen : GoodIn wsX6_runs wsX6_chosen := goodIn_r _ [13, 6, 1, 49, 50, 51, 52, 53, 54, 55, 56, 57, 58, 59, 60, 61, 62, 63, 64, 65, 66, 67, 68] (by decide +kernel) (by decide +kernel)
set_option maxRecDepth 20000 in
theorem gX6_runs_X6_chosen : GoodIn wsX6_runs (wsV RX6 173 RX6 yX6_chosen wsX6_chosen) := goodIn_app (goodIn_of _ (by decide +kernel)) ggX6_runs_X6_chosen
set_option maxRecDepth 20000 in
theorem ggX6_runs_X6_executes : GoodIn wsX6_runs wsX6_executes := goodIn_r _ [17, 1, 6, 8, 5, 4, 18, 19, 20, 12, 21, 22, 23, 24, 25, 26, 27, 28, 29, 30, 31, 32, 33, 34, 35, 36, 37, 38, 39, 40, 41, 42, 43, 44, 45, 46, 47, 48, 49, 50, 51, 52, 53, 54, 55, 56, 57, 58, 59, 60, 61, 62, 63, 64, 65, 66, 67, 68] (by decide +kernel) (by decide +kernel)
set_option maxRecDepth 20000 in
theorem gX6_runs_X6_executes : GoodIn wsX6_runs (wsV RX6 176 RX6 yX6_executes wsX6_executes) := goodIn_app (goodIn_of _ (by decide +kernel)) ggX6_runs_X6_executes
theorem dX6_runs_0 : decode cX6_runs 0 = .ok (.iconst 0, 1) := by decide +kernel
theorem dX6_runs_1 : decode cX6_runs 1 = .ok (.istore_n 1, 1) := by decide +kernel
theorem dX6_runs_2 : decode cX6_runs 2 = .ok (.iload_n 1, 1) := by decide +kernel
theorem dX6_runs_3 : decode cX6_runs 3 = .ok (.bipush 6, 2) := by decide +kernel
theorem dX6_runs_5 : decode cX6_runs 5 = .ok (.if_icmp .ge 44, 3) := by decide +kernel
theorem dX6_runs_8 : decode cX6_runs 8 = .ok (.aload_n 0, 1) := by decide +kernel
theorem dX6_runs_9 : decode cX6_runs 9 = .ok (.getfield 38, 3) := by decide +kernel
theorem dX6_runs_12 : decode cX6_runs 12 = .ok (.iload_n 1, 1) := by decide +kernel
theorem dX6_runs_13 : decode cX6_runs 13 = .ok (.iconst 0, 1) := by decide +kernel
theorem dX6_runs_14 : decode cX6_runs 14 = .ok (.iastore, 1) := by decide +kernel
theorem dX6_runs_15 : decode cX6_runs 15 = .ok (.aload_n 0, 1) := by decide +kernel
theorem dX6_runs_16 : decode cX6_runs 16 = .ok (.getfield 41, 3) := by decide +kernel
theorem dX6_runs_19 : decode cX6_runs 19 = .ok (.iload_n 1, 1) := by decide +kernel
theorem dX6_runs_20 : decode cX6_runs 20 = .ok (.iconst (-1), 1) := by decide +kernel
theorem dX6_runs_21 : decode cX6_runs 21 = .ok (.iastore, 1) := by decide +kernel
theorem dX6_runs_22 : decode cX6_runs 22 = .ok (.aload_n 0, 1) := by decide +kernel
theorem dX6_runs_23 : decode cX6_runs 23 = .ok (.getfield 44, 3) := by decide +kernel
theorem dX6_runs_26 : decode cX6_runs 26 = .ok (.iload_n 1, 1) := by decide +kernel
theorem dX6_runs_27 : decode cX6_runs 27 = .ok (.iconst 0, 1) := by decide +kernel
theorem dX6_runs_28 : decode cX6_runs 28 = .ok (.iastore, 1) := by decide +kernel
theorem dX6_runs_29 : decode cX6_runs 29 = .ok (.aload_n 0, 1) := by decide +kernel
theorem dX6_runs_30 : decode cX6_runs 30 = .ok (.getfield 47, 3) := by decide +kernel
theorem dX6_runs_33 : decode cX6_runs 33 = .ok (.iload_n 1, 1) := by decide +kernel
theorem dX6_runs_34 : decode cX6_runs 34 = .ok (.iconst 0, 1) := by decide +kernel
theorem dX6_runs_35 : decode cX6_runs 35 = .ok (.iastore, 1) := by decide +kernel
theorem dX6_runs_36 : decode cX6_runs 36 = .ok (.aload_n 0, 1) := by decide +kernel
theorem dX6_runs_37 : decode cX6_runs 37 = .ok (.getfield 50, 3) := by decide +kernel
theorem dX6_runs_40 : decode cX6_runs 40 = .ok (.iload_n 1, 1) := by decide +kernel
theorem dX6_runs_41 : decode cX6_runs 41 = .ok (.iconst 0, 1) := by decide +kernel
theorem dX6_runs_42 : decode cX6_runs 42 = .ok (.iastore, 1) := by decide +kernel
theorem dX6_runs_43 : decode cX6_runs 43 = .ok (.iinc 1 1, 3) := by decide +kernel
theorem dX6_runs_46 : decode cX6_runs 46 = .ok (.goto (-44), 3) := by decide +kernel
theorem dX6_runs_49 : decode cX6_runs 49 = .ok (.iconst 0, 1) := by decide +kernel
theorem dX6_runs_50 : decode cX6_runs 50 = .ok (.istore_n 1, 1) := by decide +kernel
theorem dX6_runs_51 : decode cX6_runs 51 = .ok (.iload_n 1, 1) := by decide +kernel
theorem dX6_runs_52 : decode cX6_runs 52 = .ok (.aload_n 0, 1) := by decide +kernel
theorem dX6_runs_53 : decode cX6_runs 53 = .ok (.getfield 7, 3) := by decide +kernel
theorem dX6_runs_56 : decode cX6_runs 56 = .ok (.iconst 2, 1) := by decide +kernel
theorem dX6_runs_57 : decode cX6_runs 57 = .ok (.iaload, 1) := by decide +kernel
theorem dX6_runs_58 : decode cX6_runs 58 = .ok (.if_icmp .ge 106, 3) := by decide +kernel
theorem dX6_runs_61 : decode cX6_runs 61 = .ok (.aload_n 0, 1) := by decide +kernel
theorem dX6_runs_62 : decode cX6_runs 62 = .ok (.iload_n 1, 1) := by decide +kernel
theorem dX6_runs_63 : decode cX6_runs 63 = .ok (.invokevirtual 173, 3) := by decide +kernel
theorem dX6_runs_66 : decode cX6_runs 66 = .ok (.istore_n 2, 1) := by decide +kernel
theorem dX6_runs_67 : decode cX6_runs 67 = .ok (.aload_n 0, 1) := by decide +kernel
theorem dX6_runs_68 : decode cX6_runs 68 = .ok (.getfield 35, 3) := by decide +kernel
theorem dX6_runs_71 : decode cX6_runs 71 = .ok (.iload_n 1, 1) := by decide +kernel
theorem dX6_runs_72 : decode cX6_runs 72 = .ok (.iload_n 2, 1) := by decide +kernel
theorem dX6_runs_73 : decode cX6_runs 73 = .ok (.iastore, 1) := by decide +kernel
theorem dX6_runs_74 : decode cX6_runs 74 = .ok (.aload_n 0, 1) := by decide +kernel
theorem dX6_runs_75 : decode cX6_runs 75 = .ok (.getfield 44, 3) := by decide +kernel
theorem dX6_runs_78 : decode cX6_runs 78 = .ok (.iload_n 2, 1) := by decide +kernel
theorem dX6_runs_79 : decode cX6_runs 79 = .ok (.dup2, 1) := by decide +kernel
theorem dX6_runs_80 : decode cX6_runs 80 = .ok (.iaload, 1) := by decide +kernel
theorem dX6_runs_81 : decode cX6_runs 81 = .ok (.iconst 1, 1) := by decide +kernel
theorem dX6_runs_82 : decode cX6_runs 82 = .ok (.iadd, 1) := by decide +kernel
theorem dX6_runs_83 : decode cX6_runs 83 = .ok (.iastore, 1) := by decide +kernel
theorem dX6_runs_84 : decode cX6_runs 84 = .ok (.iconst 0, 1) := by decide +kernel
theorem dX6_runs_85 : decode cX6_runs 85 = .ok (.istore_n 3, 1) := by decide +kernel
theorem dX6_runs_86 : decode cX6_runs 86 = .ok (.iload_n 3, 1) := by decide +kernel
theorem dX6_runs_87 : decode cX6_runs 87 = .ok (.aload_n 0, 1) := by decide +kernel
theorem dX6_runs_88 : decode cX6_runs 88 = .ok (.getfield 7, 3) := by decide +kernel
theorem dX6_runs_91 : decode cX6_runs 91 = .ok (.iconst 0, 1) := by decide +kernel
theorem dX6_runs_92 : decode cX6_runs 92 = .ok (.iaload, 1) := by decide +kernel
theorem dX6_runs_93 : decode cX6_runs 93 = .ok (.if_icmp .ge 65, 3) := by decide +kernel
theorem dX6_runs_96 : decode cX6_runs 96 = .ok (.aload_n 0, 1) := by decide +kernel
theorem dX6_runs_97 : decode cX6_runs 97 = .ok (.iload_n 1, 1) := by decide +kernel
theorem dX6_runs_98 : decode cX6_runs 98 = .ok (.aload_n 0, 1) := by decide +kernel
theorem dX6_runs_99 : decode cX6_runs 99 = .ok (.getfield 7, 3) := by decide +kernel
theorem dX6_runs_102 : decode cX6_runs 102 = .ok (.bipush 20, 2) := by decide +kernel
theorem dX6_runs_104 : decode cX6_runs 104 = .ok (.iload_n 3, 1) := by decide +kernel
theorem dX6_runs_105 : decode cX6_runs 105 = .ok (.iadd, 1) := by decide +kernel
theorem dX6_runs_106 : decode cX6_runs 106 = .ok (.iaload, 1) := by decide +kernel
theorem dX6_runs_107 : decode cX6_runs 107 = .ok (.iload_n 2, 1) := by decide +kernel
theorem dX6_runs_108 : decode cX6_runs 108 = .ok (.invokevirtual 176, 3) := by decide +kernel
theorem dX6_runs_111 : decode cX6_runs 111 = .ok (.aload_n 0, 1) := by decide +kernel
theorem dX6_runs_112 : decode cX6_runs 112 = .ok (.getfield 41, 3) := by decide +kernel
theorem dX6_runs_115 : decode cX6_runs 115 = .ok (.iload_n 2, 1) := by decide +kernel
theorem dX6_runs_116 : decode cX6_runs 116 = .ok (.aload_n 0, 1) := by decide +kernel
theorem dX6_runs_117 : decode cX6_runs 117 = .ok (.getfield 41, 3) := by decide +kernel
theorem dX6_runs_120 : decode cX6_runs 120 = .ok (.iload_n 2, 1) := by decide +kernel
theorem dX6_runs_121 : decode cX6_runs 121 = .ok (.iaload, 1) := by decide +kernel
theorem dX6_runs_122 : decode cX6_runs 122 = .ok (.ifCond .ge 23, 3) := by decide +kernel
theorem dX6_runs_125 : decode cX6_runs 125 = .ok (.aload_n 0, 1) := by decide +kernel
theorem dX6_runs_126 : decode cX6_runs 126 = .ok (.getfield 32, 3) := by decide +kernel
theorem dX6_runs_129 : decode cX6_runs 129 = .ok (.bipush 40, 2) := by decide +kernel
theorem dX6_runs_131 : decode cX6_runs 131 = .ok (.aload_n 0, 1) := by decide +kernel
theorem dX6_runs_132 : decode cX6_runs 132 = .ok (.getfield 7, 3) := by decide +kernel
theorem dX6_runs_135 : decode cX6_runs 135 = .ok (.bipush 20, 2) := by decide +kernel
theorem dX6_runs_137 : decode cX6_runs 137 = .ok (.iaload, 1) := by decide +kernel
theorem dX6_runs_138 : decode cX6_runs 138 = .ok (.imul, 1) := by decide +kernel
theorem dX6_runs_139 : decode cX6_runs 139 = .ok (.iload_n 1, 1) := by decide +kernel
theorem dX6_runs_140 : decode cX6_runs 140 = .ok (.iadd, 1) := by decide +kernel
theorem dX6_runs_141 : decode cX6_runs 141 = .ok (.iaload, 1) := by decide +kernel
theorem dX6_runs_142 : decode cX6_runs 142 = .ok (.goto 9, 3) := by decide +kernel
theorem dX6_runs_145 : decode cX6_runs 145 = .ok (.aload_n 0, 1) := by decide +kernel
theorem dX6_runs_146 : decode cX6_runs 146 = .ok (.getfield 41, 3) := by decide +kernel
theorem dX6_runs_149 : decode cX6_runs 149 = .ok (.iload_n 2, 1) := by decide +kernel
theorem dX6_runs_150 : decode cX6_runs 150 = .ok (.iaload, 1) := by decide +kernel
theorem dX6_runs_151 : decode cX6_runs 151 = .ok (.iastore, 1) := by decide +kernel
theorem dX6_runs_152 : decode cX6_runs 152 = .ok (.iinc 3 1, 3) := by decide +kernel
theorem dX6_runs_155 : decode cX6_runs 155 = .ok (.goto (-69), 3) := by decide +kernel
theorem dX6_runs_158 : decode cX6_runs 158 = .ok (.iinc 1 1, 3) := by decide +kernel
theorem dX6_runs_161 : decode cX6_runs 161 = .ok (.goto (-110), 3) := by decide +kernel
theorem dX6_runs_164 : decode cX6_runs 164 = .ok (.iconst 0, 1) := by decide +kernel
theorem dX6_runs_165 : decode cX6_runs 165 = .ok (.istore_n 1, 1) := by decide +kernel
theorem dX6_runs_166 : decode cX6_runs 166 = .ok (.iconst 0, 1) := by decide +kernel
theorem dX6_runs_167 : decode cX6_runs 167 = .ok (.istore_n 2, 1) := by decide +kernel
theorem dX6_runs_168 : decode cX6_runs 168 = .ok (.iload_n 2, 1) := by decide +kernel
theorem dX6_runs_169 : decode cX6_runs 169 = .ok (.bipush 6, 2) := by decide +kernel
theorem dX6_runs_171 : decode cX6_runs 171 = .ok (.if_icmp .ge 30, 3) := by decide +kernel
theorem dX6_runs_174 : decode cX6_runs 174 = .ok (.aload_n 0, 1) := by decide +kernel
theorem dX6_runs_175 : decode cX6_runs 175 = .ok (.getfield 38, 3) := by decide +kernel
theorem dX6_runs_178 : decode cX6_runs 178 = .ok (.iload_n 2, 1) := by decide +kernel
theorem dX6_runs_179 : decode cX6_runs 179 = .ok (.iaload, 1) := by decide +kernel
theorem dX6_runs_180 : decode cX6_runs 180 = .ok (.iload_n 1, 1) := by decide +kernel
theorem dX6_runs_181 : decode cX6_runs 181 = .ok (.if_icmp .le 12, 3) := by decide +kernel
theorem dX6_runs_184 : decode cX6_runs 184 = .ok (.aload_n 0, 1) := by decide +kernel
theorem dX6_runs_185 : decode cX6_runs 185 = .ok (.getfield 38, 3) := by decide +kernel
theorem dX6_runs_188 : decode cX6_runs 188 = .ok (.iload_n 2, 1) := by decide +kernel
theorem dX6_runs_189 : decode cX6_runs 189 = .ok (.iaload, 1) := by decide +kernel
theorem dX6_runs_190 : decode cX6_runs 190 = .ok (.goto 4, 3) := by decide +kernel
theorem dX6_runs_193 : decode cX6_runs 193 = .ok (.iload_n 1, 1) := by decide +kernel
theorem dX6_runs_194 : decode cX6_runs 194 = .ok (.istore_n 1, 1) := by decide +kernel
theorem dX6_runs_195 : decode cX6_runs 195 = .ok (.iinc 2 1, 3) := by decide +kernel
theorem dX6_runs_198 : decode cX6_runs 198 = .ok (.goto (-30), 3) := by decide +kernel
theorem dX6_runs_201 : decode cX6_runs 201 = .ok (.iload_n 1, 1) := by decide +kernel
theorem dX6_runs_202 : decode cX6_runs 202 = .ok (.ireturn, 1) := by decide +kernel
set_option maxRecDepth 20000 in
theorem ggX6_length_X6_runs : GoodIn wsX6_length wsX6_runs := goodIn_r _ [6, 7, 8, 9, 10, 11, 12, 13, 14, 15, 16, 17, 5, 18, 19, 20, 21, 22, 23, 24, 25, 26, 27, 28, 29, 30, 31, 32, 33, 34, 35, 36, 37, 38, 39, 40, 41, 42, 43, 44, 45, 46, 47, 48, 49, 50, 51, 52, 53, 54, 55, 56, 57, 58, 59, 60, 61, 62, 63, 64, 65, 66, 67, 68, 69, 70, 71, 72, 73] (by decide +kernel) (by decide +kernel)
set_option maxRecDepth 20000 in
theorem gX6_length_X6_runs : GoodIn wsX6_length (wsV RX6 180 RX6 yX6_runs wsX6_runs) := goodIn_app (goodIn_of _ (by decide +kernel)) ggX6_length_X6_runs
theorem dX6_length_0 : decode cX6_length 0 = .ok (.aload_n 0, 1) := by decide +kernel
theorem dX6_length_1 : decode cX6_length 1 = .ok (.iconst 0, 1) := by decide +kernel
theorem dX6_length_2 : decode cX6_length 2 = .ok (.putfield 53, 3) := by decide +kernel
theorem dX6_length_5 : decode cX6_length 5 = .ok (.aload_n 0, 1) := by decide +kernel
theorem dX6_length_6 : decode cX6_length 6 = .ok (.invokevirtual 180, 3) := by decide +kernel
theorem dX6_length_9 : decode cX6_length 9 = .ok (.ireturn, 1) := by decide +kernel
set_option maxRecDepth 20000 in
theorem ggX6_isTurn_X6_in : GoodIn wsX6_isTurn wsX6_in := goodIn_r _ [5] (by decide +kernel) (by decide +kernel)
set_option maxRecDepth 20000 in
theorem gX6_isTurn_X6_in : GoodIn wsX6_isTurn (va_wsS RX6 56 yX6_in wsX6_in) := goodIn_app (goodIn_of _ (by decide +kernel)) ggX6_isTurn_X6_in
theorem dX6_isTurn_0 : decode cX6_isTurn 0 = .ok (.iload_n 1, 1) := by decide +kernel
theorem dX6_isTurn_1 : decode cX6_isTurn 1 = .ok (.iconst 0, 1) := by decide +kernel
theorem dX6_isTurn_2 : decode cX6_isTurn 2 = .ok (.aload_n 0, 1) := by decide +kernel
theorem dX6_isTurn_3 : decode cX6_isTurn 3 = .ok (.getfield 7, 3) := by decide +kernel
theorem dX6_isTurn_6 : decode cX6_isTurn 6 = .ok (.iconst 2, 1) := by decide +kernel
theorem dX6_isTurn_7 : decode cX6_isTurn 7 = .ok (.iaload, 1) := by decide +kernel
theorem dX6_isTurn_8 : decode cX6_isTurn 8 = .ok (.iconst 1, 1) := by decide +kernel
theorem dX6_isTurn_9 : decode cX6_isTurn 9 = .ok (.isub, 1) := by decide +kernel
theorem dX6_isTurn_10 : decode cX6_isTurn 10 = .ok (.invokestatic 56, 3) := by decide +kernel
theorem dX6_isTurn_13 : decode cX6_isTurn 13 = .ok (.ireturn, 1) := by decide +kernel
set_option maxRecDepth 20000 in
theorem ggX6_start_X6_isStatement : GoodIn wsX6_start wsX6_isStatement := goodIn_r _ [7, 8, 9, 10, 6, 11, 69, 70, 71, 72, 73, 74, 75, 76, 77, 78, 79, 80, 81, 82, 83, 84, 85, 86, 87, 88] (by decide +kernel) (by decide +kernel)
set_option maxRecDepth 20000 in
theorem gX6_start_X6_isStatement : GoodIn wsX6_start (wsV RX6 125 RX6 yX6_isStatement wsX6_isStatement) := goodIn_app (goodIn_of _ (by decide +kernel)) ggX6_start_X6_isStatement
set_option maxRecDepth 20000 in
theorem ggX6_start_X6_isTurn : GoodIn wsX6_start wsX6_isTurn := goodIn_r _ [15, 8, 9, 10, 6, 11, 69, 70, 71, 72, 73, 74, 75, 76, 77, 78, 79, 80, 81, 82, 83, 84, 85, 86, 87, 88] (by decide +kernel) (by decide +kernel)
set_option maxRecDepth 20000 in
theorem gX6_start_X6_isTurn : GoodIn wsX6_start (wsV RX6 183 RX6 yX6_isTurn wsX6_isTurn) := goodIn_app (goodIn_of _ (by decide +kernel)) ggX6_start_X6_isTurn
set_option maxRecDepth 20000 in
theorem ggX6_start_X6_fails : GoodIn wsX6_start wsX6_fails := goodIn_r _ [19, 1, 69, 70, 71, 72, 73, 74, 75, 76, 77, 78, 79, 80, 81, 82, 83, 84, 85, 86, 87, 88] (by decide +kernel) (by decide +kernel)
set_option maxRecDepth 20000 in
theorem gX6_start_X6_fails : GoodIn wsX6_start (wsV RX6 83 RX6 yX6_fails wsX6_fails) := goodIn_app (goodIn_of _ (by decide +kernel)) ggX6_start_X6_fails
set_option maxRecDepth 20000 in
theorem ggX6_start_X6_runs : GoodIn wsX6_start wsX6_runs := goodIn_r _ [23, 24, 25, 26, 27, 28, 8, 29, 2, 30, 31, 32, 6, 33, 34, 35, 36, 37, 38, 39, 40, 41, 42, 43, 44, 45, 46, 47, 48, 49, 50, 51, 52, 53, 54, 55, 56, 57, 58, 59, 60, 61, 62, 63, 64, 65, 66, 67, 68, 69, 70, 71, 72, 73, 74, 75, 76, 77, 78, 79, 80, 81, 82, 83, 84, 85, 86, 87, 88] (by decide +kernel) (by decide +kernel)
set_option maxRecDepth 20000 in
theorem gX6_start_X6_runs : GoodIn wsX6_start (wsV RX6 180 RX6 yX6_runs wsX6_runs) := goodIn_app (goodIn_of _ (by decide +kernel)) ggX6_start_X6_runs
theorem dX6_start_0 : decode cX6_start 0 = .ok (.aload_n 0, 1) := by decide +kernel
theorem dX6_start_1 : decode cX6_start 1 = .ok (.iconst 0, 1) := by decide +kernel
theorem dX6_start_2 : decode cX6_start 2 = .ok (.putfield 53, 3) := by decide +kernel
theorem dX6_start_5 : decode cX6_start 5 = .ok (.aload_n 0, 1) := by decide +kernel
theorem dX6_start_6 : decode cX6_start 6 = .ok (.iload_n 1, 1) := by decide +kernel
theorem dX6_start_7 : decode cX6_start 7 = .ok (.invokevirtual 125, 3) := by decide +kernel
theorem dX6_start_10 : decode cX6_start 10 = .ok (.ifCond .eq 11, 3) := by decide +kernel
theorem dX6_start_13 : decode cX6_start 13 = .ok (.aload_n 0, 1) := by decide +kernel
theorem dX6_start_14 : decode cX6_start 14 = .ok (.iload_n 2, 1) := by decide +kernel
theorem dX6_start_15 : decode cX6_start 15 = .ok (.invokevirtual 183, 3) := by decide +kernel
theorem dX6_start_18 : decode cX6_start 18 = .ok (.ifCond .ne 9, 3) := by decide +kernel
theorem dX6_start_21 : decode cX6_start 21 = .ok (.aload_n 0, 1) := by decide +kernel
theorem dX6_start_22 : decode cX6_start 22 = .ok (.iconst 1, 1) := by decide +kernel
theorem dX6_start_23 : decode cX6_start 23 = .ok (.invokevirtual 83, 3) := by decide +kernel
theorem dX6_start_26 : decode cX6_start 26 = .ok (.ireturn, 1) := by decide +kernel
theorem dX6_start_27 : decode cX6_start 27 = .ok (.aload_n 0, 1) := by decide +kernel
theorem dX6_start_28 : decode cX6_start 28 = .ok (.invokevirtual 180, 3) := by decide +kernel
theorem dX6_start_31 : decode cX6_start 31 = .ok (.pop, 1) := by decide +kernel
theorem dX6_start_32 : decode cX6_start 32 = .ok (.aload_n 0, 1) := by decide +kernel
theorem dX6_start_33 : decode cX6_start 33 = .ok (.getfield 32, 3) := by decide +kernel
theorem dX6_start_36 : decode cX6_start 36 = .ok (.bipush 40, 2) := by decide +kernel
theorem dX6_start_38 : decode cX6_start 38 = .ok (.iload_n 1, 1) := by decide +kernel
theorem dX6_start_39 : decode cX6_start 39 = .ok (.imul, 1) := by decide +kernel
theorem dX6_start_40 : decode cX6_start 40 = .ok (.iload_n 2, 1) := by decide +kernel
theorem dX6_start_41 : decode cX6_start 41 = .ok (.iadd, 1) := by decide +kernel
theorem dX6_start_42 : decode cX6_start 42 = .ok (.iaload, 1) := by decide +kernel
theorem dX6_start_43 : decode cX6_start 43 = .ok (.ireturn, 1) := by decide +kernel
set_option maxRecDepth 20000 in
theorem ggX6_processor_X6_isTurn : GoodIn wsX6_processor wsX6_isTurn := goodIn_r _ [7, 8, 9, 10, 6, 11, 65, 66, 67, 68, 69, 70, 71, 72, 73, 74, 75, 76, 77, 78, 79, 80, 81, 82, 83, 84] (by decide +kernel) (by decide +kernel)
set_option maxRecDepth 20000 in
theorem gX6_processor_X6_isTurn : GoodIn wsX6_processor (wsV RX6 183 RX6 yX6_isTurn wsX6_isTurn) := goodIn_app (goodIn_of _ (by decide +kernel)) ggX6_processor_X6_isTurn
set_option maxRecDepth 20000 in
theorem ggX6_processor_X6_fails : GoodIn wsX6_processor wsX6_fails := goodIn_r _ [15, 1, 65, 66, 67, 68, 69, 70, 71, 72, 73, 74, 75, 76, 77, 78, 79, 80, 81, 82, 83, 84] (by decide +kernel) (by decide +kernel)
set_option maxRecDepth 20000 in
theorem gX6_processor_X6_fails : GoodIn wsX6_processor (wsV RX6 83 RX6 yX6_fails wsX6_fails) := goodIn_app (goodIn_of _ (by decide +kernel)) ggX6_processor_X6_fails
set_option maxRecDepth 20000 in
theorem ggX6_processor_X6_runs : GoodIn wsX6_processor wsX6_runs := goodIn_r _ [19, 20, 21, 22, 23, 24, 8, 2, 25, 26, 27, 28, 6, 29, 30, 31, 32, 33, 34, 35, 36, 37, 38, 39, 40, 41, 42, 43, 44, 45, 46, 47, 48, 49, 50, 51, 52, 53, 54, 55, 56, 57, 58, 59, 60, 61, 62, 63, 64, 65, 66, 67, 68, 69, 70, 71, 72, 73, 74, 75, 76, 77, 78, 79, 80, 81, 82, 83, 84] (by decide +kernel) (by decide +kernel)
set_option maxRecDepth 20000 in
theorem gX6_processor_X6_runs : GoodIn wsX6_processor (wsV RX6 180 RX6 yX6_runs wsX6_runs) := goodIn_app (goodIn_of _ (by decide +kernel)) ggX6_processor_X6_runs
theorem dX6_processor_0 : decode cX6_processor 0 = .ok (.aload_n 0, 1) := by decide +kernel
theorem dX6_processor_1 : decode cX6_processor 1 = .ok (.iconst 0, 1) := by decide +kernel
theorem dX6_processor_2 : decode cX6_processor 2 = .ok (.putfield 53, 3) := by decide +kernel
theorem dX6_processor_5 : decode cX6_processor 5 = .ok (.aload_n 0, 1) := by decide +kernel
theorem dX6_processor_6 : decode cX6_processor 6 = .ok (.iload_n 1, 1) := by decide +kernel
theorem dX6_processor_7 : decode cX6_processor 7 = .ok (.invokevirtual 183, 3) := by decide +kernel
theorem dX6_processor_10 : decode cX6_processor 10 = .ok (.ifCond .ne 9, 3) := by decide +kernel
theorem dX6_processor_13 : decode cX6_processor 13 = .ok (.aload_n 0, 1) := by decide +kernel
theorem dX6_processor_14 : decode cX6_processor 14 = .ok (.iconst 1, 1) := by decide +kernel
theorem dX6_processor_15 : decode cX6_processor 15 = .ok (.invokevirtual 83, 3) := by decide +kernel
theorem dX6_processor_18 : decode cX6_processor 18 = .ok (.ireturn, 1) := by decide +kernel
theorem dX6_processor_19 : decode cX6_processor 19 = .ok (.aload_n 0, 1) := by decide +kernel
theorem dX6_processor_20 : decode cX6_processor 20 = .ok (.invokevirtual 180, 3) := by decide +kernel
theorem dX6_processor_23 : decode cX6_processor 23 = .ok (.pop, 1) := by decide +kernel
theorem dX6_processor_24 : decode cX6_processor 24 = .ok (.aload_n 0, 1) := by decide +kernel
theorem dX6_processor_25 : decode cX6_processor 25 = .ok (.getfield 35, 3) := by decide +kernel
theorem dX6_processor_28 : decode cX6_processor 28 = .ok (.iload_n 1, 1) := by decide +kernel
theorem dX6_processor_29 : decode cX6_processor 29 = .ok (.iaload, 1) := by decide +kernel
theorem dX6_processor_30 : decode cX6_processor 30 = .ok (.ireturn, 1) := by decide +kernel
set_option maxRecDepth 20000 in
theorem ggX6_total_X6_in : GoodIn wsX6_total wsX6_in := goodIn_r _ [10] (by decide +kernel) (by decide +kernel)
set_option maxRecDepth 20000 in
theorem gX6_total_X6_in : GoodIn wsX6_total (va_wsS RX6 56 yX6_in wsX6_in) := goodIn_app (goodIn_of _ (by decide +kernel)) ggX6_total_X6_in
set_option maxRecDepth 20000 in
theorem ggX6_total_X6_fails : GoodIn wsX6_total wsX6_fails := goodIn_r _ [14, 1, 61, 62, 63, 64, 65, 66, 67, 68, 69, 70, 71, 72, 73, 74, 75, 76, 77, 78, 79, 80] (by decide +kernel) (by decide +kernel)
set_option maxRecDepth 20000 in
theorem gX6_total_X6_fails : GoodIn wsX6_total (wsV RX6 83 RX6 yX6_fails wsX6_fails) := goodIn_app (goodIn_of _ (by decide +kernel)) ggX6_total_X6_fails
set_option maxRecDepth 20000 in
theorem ggX6_total_X6_runs : GoodIn wsX6_total wsX6_runs := goodIn_r _ [18, 6, 19, 3, 4, 5, 2, 20, 21, 22, 23, 24, 9, 25, 26, 27, 28, 29, 30, 31, 32, 33, 34, 35, 36, 37, 38, 39, 40, 41, 42, 43, 44, 45, 46, 47, 48, 49, 50, 51, 52, 53, 54, 55, 56, 57, 58, 59, 60, 61, 62, 63, 64, 65, 66, 67, 68, 69, 70, 71, 72, 73, 74, 75, 76, 77, 78, 79, 80] (by decide +kernel) (by decide +kernel)
set_option maxRecDepth 20000 in
theorem gX6_total_X6_runs : GoodIn wsX6_total (wsV RX6 180 RX6 yX6_runs wsX6_runs) := goodIn_app (goodIn_of _ (by decide +kernel)) ggX6_total_X6_runs
theorem dX6_total_0 : decode cX6_total 0 = .ok (.aload_n 0, 1) := by decide +kernel
theorem dX6_total_1 : decode cX6_total 1 = .ok (.iconst 0, 1) := by decide +kernel
theorem dX6_total_2 : decode cX6_total 2 = .ok (.putfield 53, 3) := by decide +kernel
theorem dX6_total_5 : decode cX6_total 5 = .ok (.iload_n 1, 1) := by decide +kernel
theorem dX6_total_6 : decode cX6_total 6 = .ok (.iconst 0, 1) := by decide +kernel
theorem dX6_total_7 : decode cX6_total 7 = .ok (.aload_n 0, 1) := by decide +kernel
theorem dX6_total_8 : decode cX6_total 8 = .ok (.getfield 7, 3) := by decide +kernel
theorem dX6_total_11 : decode cX6_total 11 = .ok (.iconst 4, 1) := by decide +kernel
theorem dX6_total_12 : decode cX6_total 12 = .ok (.iaload, 1) := by decide +kernel
theorem dX6_total_13 : decode cX6_total 13 = .ok (.iconst 1, 1) := by decide +kernel
theorem dX6_total_14 : decode cX6_total 14 = .ok (.isub, 1) := by decide +kernel
theorem dX6_total_15 : decode cX6_total 15 = .ok (.invokestatic 56, 3) := by decide +kernel
theorem dX6_total_18 : decode cX6_total 18 = .ok (.ifCond .ne 9, 3) := by decide +kernel
theorem dX6_total_21 : decode cX6_total 21 = .ok (.aload_n 0, 1) := by decide +kernel
theorem dX6_total_22 : decode cX6_total 22 = .ok (.iconst 1, 1) := by decide +kernel
theorem dX6_total_23 : decode cX6_total 23 = .ok (.invokevirtual 83, 3) := by decide +kernel
theorem dX6_total_26 : decode cX6_total 26 = .ok (.ireturn, 1) := by decide +kernel
theorem dX6_total_27 : decode cX6_total 27 = .ok (.aload_n 0, 1) := by decide +kernel
theorem dX6_total_28 : decode cX6_total 28 = .ok (.invokevirtual 180, 3) := by decide +kernel
theorem dX6_total_31 : decode cX6_total 31 = .ok (.pop, 1) := by decide +kernel
theorem dX6_total_32 : decode cX6_total 32 = .ok (.iload_n 2, 1) := by decide +kernel
theorem dX6_total_33 : decode cX6_total 33 = .ok (.tableswitch 59 0 3 #[31, 38, 45, 52], 31) := by decide +kernel
theorem dX6_total_64 : decode cX6_total 64 = .ok (.aload_n 0, 1) := by decide +kernel
theorem dX6_total_65 : decode cX6_total 65 = .ok (.getfield 44, 3) := by decide +kernel
theorem dX6_total_68 : decode cX6_total 68 = .ok (.iload_n 1, 1) := by decide +kernel
theorem dX6_total_69 : decode cX6_total 69 = .ok (.iaload, 1) := by decide +kernel
theorem dX6_total_70 : decode cX6_total 70 = .ok (.ireturn, 1) := by decide +kernel
theorem dX6_total_71 : decode cX6_total 71 = .ok (.aload_n 0, 1) := by decide +kernel
theorem dX6_total_72 : decode cX6_total 72 = .ok (.getfield 47, 3) := by decide +kernel
theorem dX6_total_75 : decode cX6_total 75 = .ok (.iload_n 1, 1) := by decide +kernel
theorem dX6_total_76 : decode cX6_total 76 = .ok (.iaload, 1) := by decide +kernel
theorem dX6_total_77 : decode cX6_total 77 = .ok (.ireturn, 1) := by decide +kernel
theorem dX6_total_78 : decode cX6_total 78 = .ok (.aload_n 0, 1) := by decide +kernel
theorem dX6_total_79 : decode cX6_total 79 = .ok (.getfield 50, 3) := by decide +kernel
theorem dX6_total_82 : decode cX6_total 82 = .ok (.iload_n 1, 1) := by decide +kernel
theorem dX6_total_83 : decode cX6_total 83 = .ok (.iaload, 1) := by decide +kernel
theorem dX6_total_84 : decode cX6_total 84 = .ok (.ireturn, 1) := by decide +kernel
theorem dX6_total_85 : decode cX6_total 85 = .ok (.aload_n 0, 1) := by decide +kernel
theorem dX6_total_86 : decode cX6_total 86 = .ok (.getfield 38, 3) := by decide +kernel
theorem dX6_total_89 : decode cX6_total 89 = .ok (.iload_n 1, 1) := by decide +kernel
theorem dX6_total_90 : decode cX6_total 90 = .ok (.iaload, 1) := by decide +kernel
theorem dX6_total_91 : decode cX6_total 91 = .ok (.ireturn, 1) := by decide +kernel
theorem dX6_total_92 : decode cX6_total 92 = .ok (.aload_n 0, 1) := by decide +kernel
theorem dX6_total_93 : decode cX6_total 93 = .ok (.iconst 2, 1) := by decide +kernel
theorem dX6_total_94 : decode cX6_total 94 = .ok (.invokevirtual 83, 3) := by decide +kernel
theorem dX6_total_97 : decode cX6_total 97 = .ok (.ireturn, 1) := by decide +kernel
set_option maxRecDepth 20000 in
theorem ggX6_fill_X6_runs : GoodIn wsX6_fill wsX6_runs := goodIn_r _ [8, 9, 3, 10, 11, 12, 2, 13, 14, 15, 16, 17, 7, 18, 19, 20, 21, 22, 23, 24, 25, 26, 27, 28, 29, 30, 31, 32, 33, 34, 35, 36, 37, 38, 39, 40, 41, 42, 43, 44, 45, 46, 47, 48, 49, 50, 51, 52, 53, 54, 55, 56, 57, 58, 59, 60, 61, 62, 63, 64, 65, 66, 67, 68, 69, 70, 71, 72, 73] (by decide +kernel) (by decide +kernel)
set_option maxRecDepth 20000 in
theorem gX6_fill_X6_runs : GoodIn wsX6_fill (wsV RX6 180 RX6 yX6_runs wsX6_runs) := goodIn_app (goodIn_of _ (by decide +kernel)) ggX6_fill_X6_runs
theorem dX6_fill_0 : decode cX6_fill 0 = .ok (.aload_n 0, 1) := by decide +kernel
theorem dX6_fill_1 : decode cX6_fill 1 = .ok (.iconst 0, 1) := by decide +kernel
theorem dX6_fill_2 : decode cX6_fill 2 = .ok (.putfield 53, 3) := by decide +kernel
theorem dX6_fill_5 : decode cX6_fill 5 = .ok (.aload_n 0, 1) := by decide +kernel
theorem dX6_fill_6 : decode cX6_fill 6 = .ok (.invokevirtual 180, 3) := by decide +kernel
theorem dX6_fill_9 : decode cX6_fill 9 = .ok (.pop, 1) := by decide +kernel
theorem dX6_fill_10 : decode cX6_fill 10 = .ok (.iconst 0, 1) := by decide +kernel
theorem dX6_fill_11 : decode cX6_fill 11 = .ok (.istore_n 1, 1) := by decide +kernel
theorem dX6_fill_12 : decode cX6_fill 12 = .ok (.iconst 0, 1) := by decide +kernel
theorem dX6_fill_13 : decode cX6_fill 13 = .ok (.istore_n 2, 1) := by decide +kernel
theorem dX6_fill_14 : decode cX6_fill 14 = .ok (.iload_n 2, 1) := by decide +kernel
theorem dX6_fill_15 : decode cX6_fill 15 = .ok (.aload_n 0, 1) := by decide +kernel
theorem dX6_fill_16 : decode cX6_fill 16 = .ok (.getfield 7, 3) := by decide +kernel
theorem dX6_fill_19 : decode cX6_fill 19 = .ok (.iconst 4, 1) := by decide +kernel
theorem dX6_fill_20 : decode cX6_fill 20 = .ok (.iaload, 1) := by decide +kernel
theorem dX6_fill_21 : decode cX6_fill 21 = .ok (.if_icmp .ge 30, 3) := by decide +kernel
theorem dX6_fill_24 : decode cX6_fill 24 = .ok (.aload_n 0, 1) := by decide +kernel
theorem dX6_fill_25 : decode cX6_fill 25 = .ok (.getfield 41, 3) := by decide +kernel
theorem dX6_fill_28 : decode cX6_fill 28 = .ok (.iload_n 2, 1) := by decide +kernel
theorem dX6_fill_29 : decode cX6_fill 29 = .ok (.iaload, 1) := by decide +kernel
theorem dX6_fill_30 : decode cX6_fill 30 = .ok (.iload_n 1, 1) := by decide +kernel
theorem dX6_fill_31 : decode cX6_fill 31 = .ok (.if_icmp .le 12, 3) := by decide +kernel
theorem dX6_fill_34 : decode cX6_fill 34 = .ok (.aload_n 0, 1) := by decide +kernel
theorem dX6_fill_35 : decode cX6_fill 35 = .ok (.getfield 41, 3) := by decide +kernel
theorem dX6_fill_38 : decode cX6_fill 38 = .ok (.iload_n 2, 1) := by decide +kernel
theorem dX6_fill_39 : decode cX6_fill 39 = .ok (.iaload, 1) := by decide +kernel
theorem dX6_fill_40 : decode cX6_fill 40 = .ok (.goto 4, 3) := by decide +kernel
theorem dX6_fill_43 : decode cX6_fill 43 = .ok (.iload_n 1, 1) := by decide +kernel
theorem dX6_fill_44 : decode cX6_fill 44 = .ok (.istore_n 1, 1) := by decide +kernel
theorem dX6_fill_45 : decode cX6_fill 45 = .ok (.iinc 2 1, 3) := by decide +kernel
theorem dX6_fill_48 : decode cX6_fill 48 = .ok (.goto (-34), 3) := by decide +kernel
theorem dX6_fill_51 : decode cX6_fill 51 = .ok (.iload_n 1, 1) := by decide +kernel
theorem dX6_fill_52 : decode cX6_fill 52 = .ok (.ireturn, 1) := by decide +kernel
set_option maxRecDepth 20000 in
theorem ggX6_drain_X6_runs : GoodIn wsX6_drain wsX6_runs := goodIn_r _ [9, 4, 10, 3, 11, 12, 2, 13, 14, 15, 16, 17, 8, 18, 19, 20, 21, 22, 23, 24, 25, 26, 27, 28, 29, 30, 31, 32, 33, 34, 35, 36, 37, 38, 39, 40, 41, 42, 43, 44, 45, 46, 47, 48, 49, 50, 51, 52, 53, 54, 55, 56, 57, 58, 59, 60, 61, 62, 63, 64, 65, 66, 67, 68, 69, 70, 71, 72, 73] (by decide +kernel) (by decide +kernel)
set_option maxRecDepth 20000 in
theorem gX6_drain_X6_runs : GoodIn wsX6_drain (wsV RX6 180 RX6 yX6_runs wsX6_runs) := goodIn_app (goodIn_of _ (by decide +kernel)) ggX6_drain_X6_runs
theorem dX6_drain_0 : decode cX6_drain 0 = .ok (.aload_n 0, 1) := by decide +kernel
theorem dX6_drain_1 : decode cX6_drain 1 = .ok (.iconst 0, 1) := by decide +kernel
theorem dX6_drain_2 : decode cX6_drain 2 = .ok (.putfield 53, 3) := by decide +kernel
theorem dX6_drain_5 : decode cX6_drain 5 = .ok (.aload_n 0, 1) := by decide +kernel
theorem dX6_drain_6 : decode cX6_drain 6 = .ok (.invokevirtual 180, 3) := by decide +kernel
theorem dX6_drain_9 : decode cX6_drain 9 = .ok (.istore_n 1, 1) := by decide +kernel
theorem dX6_drain_10 : decode cX6_drain 10 = .ok (.iload_n 1, 1) := by decide +kernel
theorem dX6_drain_11 : decode cX6_drain 11 = .ok (.istore_n 2, 1) := by decide +kernel
theorem dX6_drain_12 : decode cX6_drain 12 = .ok (.iconst 0, 1) := by decide +kernel
theorem dX6_drain_13 : decode cX6_drain 13 = .ok (.istore_n 3, 1) := by decide +kernel
theorem dX6_drain_14 : decode cX6_drain 14 = .ok (.iload_n 3, 1) := by decide +kernel
theorem dX6_drain_15 : decode cX6_drain 15 = .ok (.aload_n 0, 1) := by decide +kernel
theorem dX6_drain_16 : decode cX6_drain 16 = .ok (.getfield 7, 3) := by decide +kernel
theorem dX6_drain_19 : decode cX6_drain 19 = .ok (.iconst 4, 1) := by decide +kernel
theorem dX6_drain_20 : decode cX6_drain 20 = .ok (.iaload, 1) := by decide +kernel
theorem dX6_drain_21 : decode cX6_drain 21 = .ok (.if_icmp .ge 39, 3) := by decide +kernel
theorem dX6_drain_24 : decode cX6_drain 24 = .ok (.aload_n 0, 1) := by decide +kernel
theorem dX6_drain_25 : decode cX6_drain 25 = .ok (.getfield 44, 3) := by decide +kernel
theorem dX6_drain_28 : decode cX6_drain 28 = .ok (.iload_n 3, 1) := by decide +kernel
theorem dX6_drain_29 : decode cX6_drain 29 = .ok (.iaload, 1) := by decide +kernel
theorem dX6_drain_30 : decode cX6_drain 30 = .ok (.ifCond .le 22, 3) := by decide +kernel
theorem dX6_drain_33 : decode cX6_drain 33 = .ok (.aload_n 0, 1) := by decide +kernel
theorem dX6_drain_34 : decode cX6_drain 34 = .ok (.getfield 38, 3) := by decide +kernel
theorem dX6_drain_37 : decode cX6_drain 37 = .ok (.iload_n 3, 1) := by decide +kernel
theorem dX6_drain_38 : decode cX6_drain 38 = .ok (.iaload, 1) := by decide +kernel
theorem dX6_drain_39 : decode cX6_drain 39 = .ok (.iload_n 2, 1) := by decide +kernel
theorem dX6_drain_40 : decode cX6_drain 40 = .ok (.if_icmp .ge 12, 3) := by decide +kernel
theorem dX6_drain_43 : decode cX6_drain 43 = .ok (.aload_n 0, 1) := by decide +kernel
theorem dX6_drain_44 : decode cX6_drain 44 = .ok (.getfield 38, 3) := by decide +kernel
theorem dX6_drain_47 : decode cX6_drain 47 = .ok (.iload_n 3, 1) := by decide +kernel
theorem dX6_drain_48 : decode cX6_drain 48 = .ok (.iaload, 1) := by decide +kernel
theorem dX6_drain_49 : decode cX6_drain 49 = .ok (.goto 4, 3) := by decide +kernel
theorem dX6_drain_52 : decode cX6_drain 52 = .ok (.iload_n 2, 1) := by decide +kernel
theorem dX6_drain_53 : decode cX6_drain 53 = .ok (.istore_n 2, 1) := by decide +kernel
theorem dX6_drain_54 : decode cX6_drain 54 = .ok (.iinc 3 1, 3) := by decide +kernel
theorem dX6_drain_57 : decode cX6_drain 57 = .ok (.goto (-43), 3) := by decide +kernel
theorem dX6_drain_60 : decode cX6_drain 60 = .ok (.iload_n 1, 1) := by decide +kernel
theorem dX6_drain_61 : decode cX6_drain 61 = .ok (.iload_n 2, 1) := by decide +kernel
theorem dX6_drain_62 : decode cX6_drain 62 = .ok (.isub, 1) := by decide +kernel
theorem dX6_drain_63 : decode cX6_drain 63 = .ok (.ireturn, 1) := by decide +kernel
set_option maxRecDepth 20000 in
theorem ggX6_allCosts_X6_cost : GoodIn wsX6_allCosts wsX6_cost := goodIn_r _ [6, 1, 7, 8, 9, 10, 11, 12, 13, 14, 15, 16, 17, 18, 19, 20, 21, 22, 23, 24, 25, 26] (by decide +kernel) (by decide +kernel)
set_option maxRecDepth 20000 in
theorem gX6_allCosts_X6_cost : GoodIn wsX6_allCosts (wsV RX6 68 RX6 yX6_cost wsX6_cost) := goodIn_app (goodIn_of _ (by decide +kernel)) ggX6_allCosts_X6_cost
theorem dX6_allCosts_0 : decode cX6_allCosts 0 = .ok (.iconst 0, 1) := by decide +kernel
theorem dX6_allCosts_1 : decode cX6_allCosts 1 = .ok (.istore_n 1, 1) := by decide +kernel
theorem dX6_allCosts_2 : decode cX6_allCosts 2 = .ok (.iconst 0, 1) := by decide +kernel
theorem dX6_allCosts_3 : decode cX6_allCosts 3 = .ok (.istore_n 2, 1) := by decide +kernel
theorem dX6_allCosts_4 : decode cX6_allCosts 4 = .ok (.iload_n 2, 1) := by decide +kernel
theorem dX6_allCosts_5 : decode cX6_allCosts 5 = .ok (.aload_n 0, 1) := by decide +kernel
theorem dX6_allCosts_6 : decode cX6_allCosts 6 = .ok (.getfield 7, 3) := by decide +kernel
theorem dX6_allCosts_9 : decode cX6_allCosts 9 = .ok (.iconst 0, 1) := by decide +kernel
theorem dX6_allCosts_10 : decode cX6_allCosts 10 = .ok (.iaload, 1) := by decide +kernel
theorem dX6_allCosts_11 : decode cX6_allCosts 11 = .ok (.if_icmp .ge 17, 3) := by decide +kernel
theorem dX6_allCosts_14 : decode cX6_allCosts 14 = .ok (.iload_n 1, 1) := by decide +kernel
theorem dX6_allCosts_15 : decode cX6_allCosts 15 = .ok (.aload_n 0, 1) := by decide +kernel
theorem dX6_allCosts_16 : decode cX6_allCosts 16 = .ok (.iload_n 2, 1) := by decide +kernel
theorem dX6_allCosts_17 : decode cX6_allCosts 17 = .ok (.invokevirtual 68, 3) := by decide +kernel
theorem dX6_allCosts_20 : decode cX6_allCosts 20 = .ok (.iadd, 1) := by decide +kernel
theorem dX6_allCosts_21 : decode cX6_allCosts 21 = .ok (.istore_n 1, 1) := by decide +kernel
theorem dX6_allCosts_22 : decode cX6_allCosts 22 = .ok (.iinc 2 1, 3) := by decide +kernel
theorem dX6_allCosts_25 : decode cX6_allCosts 25 = .ok (.goto (-21), 3) := by decide +kernel
theorem dX6_allCosts_28 : decode cX6_allCosts 28 = .ok (.iload_n 1, 1) := by decide +kernel
theorem dX6_allCosts_29 : decode cX6_allCosts 29 = .ok (.ireturn, 1) := by decide +kernel
theorem dX6_common_0 : decode cX6_common 0 = .ok (.iload_n 0, 1) := by decide +kernel
theorem dX6_common_1 : decode cX6_common 1 = .ok (.istore_n 2, 1) := by decide +kernel
theorem dX6_common_2 : decode cX6_common 2 = .ok (.iload_n 1, 1) := by decide +kernel
theorem dX6_common_3 : decode cX6_common 3 = .ok (.istore_n 3, 1) := by decide +kernel
theorem dX6_common_4 : decode cX6_common 4 = .ok (.iload_n 3, 1) := by decide +kernel
theorem dX6_common_5 : decode cX6_common 5 = .ok (.ifCond .eq 16, 3) := by decide +kernel
theorem dX6_common_8 : decode cX6_common 8 = .ok (.iload_n 2, 1) := by decide +kernel
theorem dX6_common_9 : decode cX6_common 9 = .ok (.iload_n 3, 1) := by decide +kernel
theorem dX6_common_10 : decode cX6_common 10 = .ok (.irem, 1) := by decide +kernel
theorem dX6_common_11 : decode cX6_common 11 = .ok (.istore 4, 2) := by decide +kernel
theorem dX6_common_13 : decode cX6_common 13 = .ok (.iload_n 3, 1) := by decide +kernel
theorem dX6_common_14 : decode cX6_common 14 = .ok (.istore_n 2, 1) := by decide +kernel
theorem dX6_common_15 : decode cX6_common 15 = .ok (.iload 4, 2) := by decide +kernel
theorem dX6_common_17 : decode cX6_common 17 = .ok (.istore_n 3, 1) := by decide +kernel
theorem dX6_common_18 : decode cX6_common 18 = .ok (.goto (-14), 3) := by decide +kernel
theorem dX6_common_21 : decode cX6_common 21 = .ok (.iload_n 2, 1) := by decide +kernel
theorem dX6_common_22 : decode cX6_common 22 = .ok (.ireturn, 1) := by decide +kernel
set_option maxRecDepth 20000 in
theorem ggX6_speedUp_X6_in : GoodIn wsX6_speedUp wsX6_in := goodIn_r _ [6] (by decide +kernel) (by decide +kernel)
set_option maxRecDepth 20000 in
theorem gX6_speedUp_X6_in : GoodIn wsX6_speedUp (va_wsS RX6 56 yX6_in wsX6_in) := goodIn_app (goodIn_of _ (by decide +kernel)) ggX6_speedUp_X6_in
set_option maxRecDepth 20000 in
theorem ggX6_speedUp_X6_fails : GoodIn wsX6_speedUp wsX6_fails := goodIn_r _ [10, 1, 68, 69, 70, 71, 72, 73, 74, 75, 76, 77, 78, 79, 80, 81, 82, 83, 84, 85, 86, 87] (by decide +kernel) (by decide +kernel)
set_option maxRecDepth 20000 in
theorem gX6_speedUp_X6_fails : GoodIn wsX6_speedUp (wsV RX6 83 RX6 yX6_fails wsX6_fails) := goodIn_app (goodIn_of _ (by decide +kernel)) ggX6_speedUp_X6_fails
set_option maxRecDepth 20000 in
theorem ggX6_speedUp_X6_allCosts : GoodIn wsX6_speedUp wsX6_allCosts := goodIn_r _ [14, 2, 15, 16, 17, 5, 18, 68, 69, 70, 71, 72, 73, 74, 75, 76, 77, 78, 79, 80, 81, 82, 83, 84, 85, 86, 87] (by decide +kernel) (by decide +kernel)
set_option maxRecDepth 20000 in
theorem gX6_speedUp_X6_allCosts : GoodIn wsX6_speedUp (wsV RX6 186 RX6 yX6_allCosts wsX6_allCosts) := goodIn_app (goodIn_of _ (by decide +kernel)) ggX6_speedUp_X6_allCosts
set_option maxRecDepth 20000 in
theorem ggX6_speedUp_X6_runs : GoodIn wsX6_speedUp wsX6_runs := goodIn_r _ [22, 23, 24, 25, 26, 27, 2, 28, 29, 30, 31, 32, 5, 33, 34, 35, 36, 37, 38, 39, 40, 41, 42, 43, 44, 45, 46, 47, 48, 49, 50, 51, 52, 53, 54, 55, 56, 57, 58, 59, 60, 61, 62, 63, 64, 15, 16, 17, 18, 68, 69, 70, 71, 72, 73, 74, 75, 76, 77, 78, 79, 80, 81, 82, 83, 84, 85, 86, 87] (by decide +kernel) (by decide +kernel)
set_option maxRecDepth 20000 in
theorem gX6_speedUp_X6_runs : GoodIn wsX6_speedUp (wsV RX6 180 RX6 yX6_runs wsX6_runs) := goodIn_app (goodIn_of _ (by decide +kernel)) ggX6_speedUp_X6_runs
set_option maxRecDepth 20000 in
theorem ggX6_speedUp_X6_common : GoodIn wsX6_speedUp wsX6_common := goodIn_r _ [67] (by decide +kernel) (by decide +kernel)
set_option maxRecDepth 20000 in
theorem gX6_speedUp_X6_common : GoodIn wsX6_speedUp (va_wsS RX6 189 yX6_common wsX6_common) := goodIn_app (goodIn_of _ (by decide +kernel)) ggX6_speedUp_X6_common
theorem dX6_speedUp_0 : decode cX6_speedUp 0 = .ok (.aload_n 0, 1) := by decide +kernel
theorem dX6_speedUp_1 : decode cX6_speedUp 1 = .ok (.iconst 0, 1) := by decide +kernel
theorem dX6_speedUp_2 : decode cX6_speedUp 2 = .ok (.putfield 53, 3) := by decide +kernel
theorem dX6_speedUp_5 : decode cX6_speedUp 5 = .ok (.iload_n 1, 1) := by decide +kernel
theorem dX6_speedUp_6 : decode cX6_speedUp 6 = .ok (.iconst 0, 1) := by decide +kernel
theorem dX6_speedUp_7 : decode cX6_speedUp 7 = .ok (.iconst 1, 1) := by decide +kernel
theorem dX6_speedUp_8 : decode cX6_speedUp 8 = .ok (.invokestatic 56, 3) := by decide +kernel
theorem dX6_speedUp_11 : decode cX6_speedUp 11 = .ok (.ifCond .ne 9, 3) := by decide +kernel
theorem dX6_speedUp_14 : decode cX6_speedUp 14 = .ok (.aload_n 0, 1) := by decide +kernel
theorem dX6_speedUp_15 : decode cX6_speedUp 15 = .ok (.iconst 1, 1) := by decide +kernel
theorem dX6_speedUp_16 : decode cX6_speedUp 16 = .ok (.invokevirtual 83, 3) := by decide +kernel
theorem dX6_speedUp_19 : decode cX6_speedUp 19 = .ok (.ireturn, 1) := by decide +kernel
theorem dX6_speedUp_20 : decode cX6_speedUp 20 = .ok (.aload_n 0, 1) := by decide +kernel
theorem dX6_speedUp_21 : decode cX6_speedUp 21 = .ok (.getfield 7, 3) := by decide +kernel
theorem dX6_speedUp_24 : decode cX6_speedUp 24 = .ok (.iconst 0, 1) := by decide +kernel
theorem dX6_speedUp_25 : decode cX6_speedUp 25 = .ok (.iaload, 1) := by decide +kernel
theorem dX6_speedUp_26 : decode cX6_speedUp 26 = .ok (.ifCond .ne 9, 3) := by decide +kernel
theorem dX6_speedUp_29 : decode cX6_speedUp 29 = .ok (.aload_n 0, 1) := by decide +kernel
theorem dX6_speedUp_30 : decode cX6_speedUp 30 = .ok (.iconst 2, 1) := by decide +kernel
theorem dX6_speedUp_31 : decode cX6_speedUp 31 = .ok (.invokevirtual 83, 3) := by decide +kernel
theorem dX6_speedUp_34 : decode cX6_speedUp 34 = .ok (.ireturn, 1) := by decide +kernel
theorem dX6_speedUp_35 : decode cX6_speedUp 35 = .ok (.aload_n 0, 1) := by decide +kernel
theorem dX6_speedUp_36 : decode cX6_speedUp 36 = .ok (.invokevirtual 186, 3) := by decide +kernel
theorem dX6_speedUp_39 : decode cX6_speedUp 39 = .ok (.aload_n 0, 1) := by decide +kernel
theorem dX6_speedUp_40 : decode cX6_speedUp 40 = .ok (.getfield 7, 3) := by decide +kernel
theorem dX6_speedUp_43 : decode cX6_speedUp 43 = .ok (.iconst 2, 1) := by decide +kernel
theorem dX6_speedUp_44 : decode cX6_speedUp 44 = .ok (.iaload, 1) := by decide +kernel
theorem dX6_speedUp_45 : decode cX6_speedUp 45 = .ok (.imul, 1) := by decide +kernel
theorem dX6_speedUp_46 : decode cX6_speedUp 46 = .ok (.istore_n 2, 1) := by decide +kernel
theorem dX6_speedUp_47 : decode cX6_speedUp 47 = .ok (.aload_n 0, 1) := by decide +kernel
theorem dX6_speedUp_48 : decode cX6_speedUp 48 = .ok (.invokevirtual 180, 3) := by decide +kernel
theorem dX6_speedUp_51 : decode cX6_speedUp 51 = .ok (.istore_n 3, 1) := by decide +kernel
theorem dX6_speedUp_52 : decode cX6_speedUp 52 = .ok (.iload_n 1, 1) := by decide +kernel
theorem dX6_speedUp_53 : decode cX6_speedUp 53 = .ok (.ifCond .ne 7, 3) := by decide +kernel
theorem dX6_speedUp_56 : decode cX6_speedUp 56 = .ok (.iload_n 2, 1) := by decide +kernel
theorem dX6_speedUp_57 : decode cX6_speedUp 57 = .ok (.goto 4, 3) := by decide +kernel
theorem dX6_speedUp_60 : decode cX6_speedUp 60 = .ok (.iload_n 3, 1) := by decide +kernel
theorem dX6_speedUp_61 : decode cX6_speedUp 61 = .ok (.iload_n 2, 1) := by decide +kernel
theorem dX6_speedUp_62 : decode cX6_speedUp 62 = .ok (.iload_n 3, 1) := by decide +kernel
theorem dX6_speedUp_63 : decode cX6_speedUp 63 = .ok (.invokestatic 189, 3) := by decide +kernel
theorem dX6_speedUp_66 : decode cX6_speedUp 66 = .ok (.idiv, 1) := by decide +kernel
theorem dX6_speedUp_67 : decode cX6_speedUp 67 = .ok (.ireturn, 1) := by decide +kernel
set_option maxRecDepth 20000 in
theorem ggX6_bestProcessors_X6_runs : GoodIn wsX6_bestProcessors wsX6_runs := goodIn_r _ [7, 8, 9, 10, 11, 12, 2, 13, 14, 15, 16, 17, 6, 18, 19, 20, 21, 22, 23, 24, 25, 26, 27, 28, 29, 30, 31, 32, 33, 34, 35, 36, 37, 38, 39, 40, 41, 42, 43, 44, 45, 46, 47, 48, 49, 50, 51, 52, 53, 54, 55, 56, 57, 58, 59, 60, 61, 62, 63, 64, 65, 66, 67, 68, 69, 70, 71, 72, 73] (by decide +kernel) (by decide +kernel)
set_option maxRecDepth 20000 in
theorem gX6_bestProcessors_X6_runs : GoodIn wsX6_bestProcessors (wsV RX6 180 RX6 yX6_runs wsX6_runs) := goodIn_app (goodIn_of _ (by decide +kernel)) ggX6_bestProcessors_X6_runs
theorem dX6_bestProcessors_0 : decode cX6_bestProcessors 0 = .ok (.aload_n 0, 1) := by decide +kernel
theorem dX6_bestProcessors_1 : decode cX6_bestProcessors 1 = .ok (.iconst 0, 1) := by decide +kernel
theorem dX6_bestProcessors_2 : decode cX6_bestProcessors 2 = .ok (.putfield 53, 3) := by decide +kernel
theorem dX6_bestProcessors_5 : decode cX6_bestProcessors 5 = .ok (.aload_n 0, 1) := by decide +kernel
theorem dX6_bestProcessors_6 : decode cX6_bestProcessors 6 = .ok (.getfield 7, 3) := by decide +kernel
theorem dX6_bestProcessors_9 : decode cX6_bestProcessors 9 = .ok (.iconst 4, 1) := by decide +kernel
theorem dX6_bestProcessors_10 : decode cX6_bestProcessors 10 = .ok (.iaload, 1) := by decide +kernel
theorem dX6_bestProcessors_11 : decode cX6_bestProcessors 11 = .ok (.istore_n 1, 1) := by decide +kernel
theorem dX6_bestProcessors_12 : decode cX6_bestProcessors 12 = .ok (.iconst 0, 1) := by decide +kernel
theorem dX6_bestProcessors_13 : decode cX6_bestProcessors 13 = .ok (.istore_n 2, 1) := by decide +kernel
theorem dX6_bestProcessors_14 : decode cX6_bestProcessors 14 = .ok (.iconst 0, 1) := by decide +kernel
theorem dX6_bestProcessors_15 : decode cX6_bestProcessors 15 = .ok (.istore_n 3, 1) := by decide +kernel
theorem dX6_bestProcessors_16 : decode cX6_bestProcessors 16 = .ok (.iconst 1, 1) := by decide +kernel
theorem dX6_bestProcessors_17 : decode cX6_bestProcessors 17 = .ok (.istore 4, 2) := by decide +kernel
theorem dX6_bestProcessors_19 : decode cX6_bestProcessors 19 = .ok (.iload 4, 2) := by decide +kernel
theorem dX6_bestProcessors_21 : decode cX6_bestProcessors 21 = .ok (.bipush 7, 2) := by decide +kernel
theorem dX6_bestProcessors_23 : decode cX6_bestProcessors 23 = .ok (.if_icmp .ge 39, 3) := by decide +kernel
theorem dX6_bestProcessors_26 : decode cX6_bestProcessors 26 = .ok (.aload_n 0, 1) := by decide +kernel
theorem dX6_bestProcessors_27 : decode cX6_bestProcessors 27 = .ok (.getfield 7, 3) := by decide +kernel
theorem dX6_bestProcessors_30 : decode cX6_bestProcessors 30 = .ok (.iconst 4, 1) := by decide +kernel
theorem dX6_bestProcessors_31 : decode cX6_bestProcessors 31 = .ok (.iload 4, 2) := by decide +kernel
theorem dX6_bestProcessors_33 : decode cX6_bestProcessors 33 = .ok (.iastore, 1) := by decide +kernel
theorem dX6_bestProcessors_34 : decode cX6_bestProcessors 34 = .ok (.aload_n 0, 1) := by decide +kernel
theorem dX6_bestProcessors_35 : decode cX6_bestProcessors 35 = .ok (.invokevirtual 180, 3) := by decide +kernel
theorem dX6_bestProcessors_38 : decode cX6_bestProcessors 38 = .ok (.istore 5, 2) := by decide +kernel
theorem dX6_bestProcessors_40 : decode cX6_bestProcessors 40 = .ok (.iload_n 2, 1) := by decide +kernel
theorem dX6_bestProcessors_41 : decode cX6_bestProcessors 41 = .ok (.ifCond .eq 9, 3) := by decide +kernel
theorem dX6_bestProcessors_44 : decode cX6_bestProcessors 44 = .ok (.iload 5, 2) := by decide +kernel
theorem dX6_bestProcessors_46 : decode cX6_bestProcessors 46 = .ok (.iload_n 3, 1) := by decide +kernel
theorem dX6_bestProcessors_47 : decode cX6_bestProcessors 47 = .ok (.if_icmp .ge 9, 3) := by decide +kernel
theorem dX6_bestProcessors_50 : decode cX6_bestProcessors 50 = .ok (.iload 4, 2) := by decide +kernel
theorem dX6_bestProcessors_52 : decode cX6_bestProcessors 52 = .ok (.istore_n 2, 1) := by decide +kernel
theorem dX6_bestProcessors_53 : decode cX6_bestProcessors 53 = .ok (.iload 5, 2) := by decide +kernel
theorem dX6_bestProcessors_55 : decode cX6_bestProcessors 55 = .ok (.istore_n 3, 1) := by decide +kernel
theorem dX6_bestProcessors_56 : decode cX6_bestProcessors 56 = .ok (.iinc 4 1, 3) := by decide +kernel
theorem dX6_bestProcessors_59 : decode cX6_bestProcessors 59 = .ok (.goto (-40), 3) := by decide +kernel
theorem dX6_bestProcessors_62 : decode cX6_bestProcessors 62 = .ok (.aload_n 0, 1) := by decide +kernel
theorem dX6_bestProcessors_63 : decode cX6_bestProcessors 63 = .ok (.getfield 7, 3) := by decide +kernel
theorem dX6_bestProcessors_66 : decode cX6_bestProcessors 66 = .ok (.iconst 4, 1) := by decide +kernel
theorem dX6_bestProcessors_67 : decode cX6_bestProcessors 67 = .ok (.iload_n 1, 1) := by decide +kernel
theorem dX6_bestProcessors_68 : decode cX6_bestProcessors 68 = .ok (.iastore, 1) := by decide +kernel
theorem dX6_bestProcessors_69 : decode cX6_bestProcessors 69 = .ok (.iload_n 2, 1) := by decide +kernel
theorem dX6_bestProcessors_70 : decode cX6_bestProcessors 70 = .ok (.ireturn, 1) := by decide +kernel
set_option maxRecDepth 20000 in
theorem ggX6_signals_X6_isSignal : GoodIn wsX6_signals wsX6_isSignal := goodIn_r _ [7, 2, 8, 9, 6, 10, 11, 12, 13, 14, 15, 16, 17, 18, 19, 20, 21, 22, 23, 24, 25, 26, 27, 28, 29, 30, 31, 32, 33, 34] (by decide +kernel) (by decide +kernel)
set_option maxRecDepth 20000 in
theorem gX6_signals_X6_isSignal : GoodIn wsX6_signals (wsV RX6 147 RX6 yX6_isSignal wsX6_isSignal) := goodIn_app (goodIn_of _ (by decide +kernel)) ggX6_signals_X6_isSignal
set_option maxRecDepth 20000 in
theorem ggX6_signals_X6_far : GoodIn wsX6_signals wsX6_far := goodIn_r _ [14, 2, 8, 9, 6, 10, 15, 16, 17, 18, 19, 20, 21, 22, 23, 24, 25, 26, 27, 28, 29, 30, 31, 32, 33, 34] (by decide +kernel) (by decide +kernel)
set_option maxRecDepth 20000 in
theorem gX6_signals_X6_far : GoodIn wsX6_signals (wsV RX6 64 RX6 yX6_far wsX6_far) := goodIn_app (goodIn_of _ (by decide +kernel)) ggX6_signals_X6_far
theorem dX6_signals_0 : decode cX6_signals 0 = .ok (.aload_n 0, 1) := by decide +kernel
theorem dX6_signals_1 : decode cX6_signals 1 = .ok (.iconst 0, 1) := by decide +kernel
theorem dX6_signals_2 : decode cX6_signals 2 = .ok (.putfield 53, 3) := by decide +kernel
theorem dX6_signals_5 : decode cX6_signals 5 = .ok (.iconst 0, 1) := by decide +kernel
theorem dX6_signals_6 : decode cX6_signals 6 = .ok (.istore_n 1, 1) := by decide +kernel
theorem dX6_signals_7 : decode cX6_signals 7 = .ok (.iconst 0, 1) := by decide +kernel
theorem dX6_signals_8 : decode cX6_signals 8 = .ok (.istore_n 2, 1) := by decide +kernel
theorem dX6_signals_9 : decode cX6_signals 9 = .ok (.iload_n 2, 1) := by decide +kernel
theorem dX6_signals_10 : decode cX6_signals 10 = .ok (.aload_n 0, 1) := by decide +kernel
theorem dX6_signals_11 : decode cX6_signals 11 = .ok (.getfield 7, 3) := by decide +kernel
theorem dX6_signals_14 : decode cX6_signals 14 = .ok (.iconst 1, 1) := by decide +kernel
theorem dX6_signals_15 : decode cX6_signals 15 = .ok (.iaload, 1) := by decide +kernel
theorem dX6_signals_16 : decode cX6_signals 16 = .ok (.if_icmp .ge 50, 3) := by decide +kernel
theorem dX6_signals_19 : decode cX6_signals 19 = .ok (.iload_n 1, 1) := by decide +kernel
theorem dX6_signals_20 : decode cX6_signals 20 = .ok (.aload_n 0, 1) := by decide +kernel
theorem dX6_signals_21 : decode cX6_signals 21 = .ok (.iload_n 2, 1) := by decide +kernel
theorem dX6_signals_22 : decode cX6_signals 22 = .ok (.invokevirtual 147, 3) := by decide +kernel
theorem dX6_signals_25 : decode cX6_signals 25 = .ok (.ifCond .eq 32, 3) := by decide +kernel
theorem dX6_signals_28 : decode cX6_signals 28 = .ok (.aload_n 0, 1) := by decide +kernel
theorem dX6_signals_29 : decode cX6_signals 29 = .ok (.getfield 7, 3) := by decide +kernel
theorem dX6_signals_32 : decode cX6_signals 32 = .ok (.iconst 2, 1) := by decide +kernel
theorem dX6_signals_33 : decode cX6_signals 33 = .ok (.iaload, 1) := by decide +kernel
theorem dX6_signals_34 : decode cX6_signals 34 = .ok (.aload_n 0, 1) := by decide +kernel
theorem dX6_signals_35 : decode cX6_signals 35 = .ok (.iload_n 2, 1) := by decide +kernel
theorem dX6_signals_36 : decode cX6_signals 36 = .ok (.invokevirtual 64, 3) := by decide +kernel
theorem dX6_signals_39 : decode cX6_signals 39 = .ok (.if_icmp .le 18, 3) := by decide +kernel
theorem dX6_signals_42 : decode cX6_signals 42 = .ok (.aload_n 0, 1) := by decide +kernel
theorem dX6_signals_43 : decode cX6_signals 43 = .ok (.getfield 7, 3) := by decide +kernel
theorem dX6_signals_46 : decode cX6_signals 46 = .ok (.iconst 2, 1) := by decide +kernel
theorem dX6_signals_47 : decode cX6_signals 47 = .ok (.iaload, 1) := by decide +kernel
theorem dX6_signals_48 : decode cX6_signals 48 = .ok (.aload_n 0, 1) := by decide +kernel
theorem dX6_signals_49 : decode cX6_signals 49 = .ok (.iload_n 2, 1) := by decide +kernel
theorem dX6_signals_50 : decode cX6_signals 50 = .ok (.invokevirtual 64, 3) := by decide +kernel
theorem dX6_signals_53 : decode cX6_signals 53 = .ok (.isub, 1) := by decide +kernel
theorem dX6_signals_54 : decode cX6_signals 54 = .ok (.goto 4, 3) := by decide +kernel
theorem dX6_signals_57 : decode cX6_signals 57 = .ok (.iconst 0, 1) := by decide +kernel
theorem dX6_signals_58 : decode cX6_signals 58 = .ok (.iadd, 1) := by decide +kernel
theorem dX6_signals_59 : decode cX6_signals 59 = .ok (.istore_n 1, 1) := by decide +kernel
theorem dX6_signals_60 : decode cX6_signals 60 = .ok (.iinc 2 1, 3) := by decide +kernel
theorem dX6_signals_63 : decode cX6_signals 63 = .ok (.goto (-54), 3) := by decide +kernel
theorem dX6_signals_66 : decode cX6_signals 66 = .ok (.iload_n 1, 1) := by decide +kernel
theorem dX6_signals_67 : decode cX6_signals 67 = .ok (.ireturn, 1) := by decide +kernel
set_option maxRecDepth 20000 in
theorem ggX6_isViolated_X6_far : GoodIn wsX6_isViolated wsX6_far := goodIn_r _ [7, 1, 8, 9, 6, 10, 31, 32, 33, 34, 35, 36, 37, 38, 39, 40, 41, 42, 43, 44, 45, 46, 47, 48, 49, 50] (by decide +kernel) (by decide +kernel)
set_option maxRecDepth 20000 in
theorem gX6_isViolated_X6_far : GoodIn wsX6_isViolated (wsV RX6 64 RX6 yX6_far wsX6_far) := goodIn_app (goodIn_of _ (by decide +kernel)) ggX6_isViolated_X6_far
set_option maxRecDepth 20000 in
theorem ggX6_isViolated_X6_bare : GoodIn wsX6_isViolated wsX6_bare := goodIn_r _ [14, 1, 15, 16, 17, 6, 18, 8, 9, 10, 19, 20, 21, 22, 23, 24, 25, 26, 31, 32, 33, 34, 35, 36, 37, 38, 39, 40, 41, 42, 43, 44, 45, 46, 47, 48, 49, 50] (by decide +kernel) (by decide +kernel)
set_option maxRecDepth 20000 in
theorem gX6_isViolated_X6_bare : GoodIn wsX6_isViolated (wsV RX6 77 RX6 yX6_bare wsX6_bare) := goodIn_app (goodIn_of _ (by decide +kernel)) ggX6_isViolated_X6_bare
set_option maxRecDepth 20000 in
theorem ggX6_isViolated_X6_lag : GoodIn wsX6_isViolated wsX6_lag := goodIn_r _ [30, 1, 11, 12, 13, 6, 14, 15, 16, 17, 18, 8, 9, 10, 19, 20, 21, 22, 23, 24, 25, 26, 31, 32, 33, 34, 35, 36, 37, 38, 39, 40, 41, 42, 43, 44, 45, 46, 47, 48, 49, 50] (by decide +kernel) (by decide +kernel)
set_option maxRecDepth 20000 in
theorem gX6_isViolated_X6_lag : GoodIn wsX6_isViolated (wsV RX6 140 RX6 yX6_lag wsX6_lag) := goodIn_app (goodIn_of _ (by decide +kernel)) ggX6_isViolated_X6_lag
set_option maxRecDepth 20000 in
theorem ggX6_isViolated_X6_target : GoodIn wsX6_isViolated wsX6_target := goodIn_r _ [26, 1, 8, 9, 6, 10, 31, 32, 33, 34, 35, 36, 37, 38, 39, 40, 41, 42, 43, 44, 45, 46, 47, 48, 49, 50] (by decide +kernel) (by decide +kernel)
set_option maxRecDepth 20000 in
theorem gX6_isViolated_X6_target : GoodIn wsX6_isViolated (wsV RX6 74 RX6 yX6_target wsX6_target) := goodIn_app (goodIn_of _ (by decide +kernel)) ggX6_isViolated_X6_target
set_option maxRecDepth 20000 in
theorem ggX6_isViolated_X6_source : GoodIn wsX6_isViolated wsX6_source := goodIn_r _ [18, 1, 8, 9, 6, 10, 31, 32, 33, 34, 35, 36, 37, 38, 39, 40, 41, 42, 43, 44, 45, 46, 47, 48, 49, 50] (by decide +kernel) (by decide +kernel)
set_option maxRecDepth 20000 in
theorem gX6_isViolated_X6_source : GoodIn wsX6_isViolated (wsV RX6 71 RX6 yX6_source wsX6_source) := goodIn_app (goodIn_of _ (by decide +kernel)) ggX6_isViolated_X6_source
theorem dX6_isViolated_0 : decode cX6_isViolated 0 = .ok (.aload_n 0, 1) := by decide +kernel
theorem dX6_isViolated_1 : decode cX6_isViolated 1 = .ok (.iload_n 1, 1) := by decide +kernel
theorem dX6_isViolated_2 : decode cX6_isViolated 2 = .ok (.invokevirtual 64, 3) := by decide +kernel
theorem dX6_isViolated_5 : decode cX6_isViolated 5 = .ok (.ifCond .ne 11, 3) := by decide +kernel
theorem dX6_isViolated_8 : decode cX6_isViolated 8 = .ok (.aload_n 0, 1) := by decide +kernel
theorem dX6_isViolated_9 : decode cX6_isViolated 9 = .ok (.iload_n 1, 1) := by decide +kernel
theorem dX6_isViolated_10 : decode cX6_isViolated 10 = .ok (.invokevirtual 77, 3) := by decide +kernel
theorem dX6_isViolated_13 : decode cX6_isViolated 13 = .ok (.goto 8, 3) := by decide +kernel
theorem dX6_isViolated_16 : decode cX6_isViolated 16 = .ok (.aload_n 0, 1) := by decide +kernel
theorem dX6_isViolated_17 : decode cX6_isViolated 17 = .ok (.iload_n 1, 1) := by decide +kernel
theorem dX6_isViolated_18 : decode cX6_isViolated 18 = .ok (.invokevirtual 140, 3) := by decide +kernel
theorem dX6_isViolated_21 : decode cX6_isViolated 21 = .ok (.istore_n 2, 1) := by decide +kernel
theorem dX6_isViolated_22 : decode cX6_isViolated 22 = .ok (.iconst 0, 1) := by decide +kernel
theorem dX6_isViolated_23 : decode cX6_isViolated 23 = .ok (.istore_n 3, 1) := by decide +kernel
theorem dX6_isViolated_24 : decode cX6_isViolated 24 = .ok (.iload_n 3, 1) := by decide +kernel
theorem dX6_isViolated_25 : decode cX6_isViolated 25 = .ok (.aload_n 0, 1) := by decide +kernel
theorem dX6_isViolated_26 : decode cX6_isViolated 26 = .ok (.iload_n 1, 1) := by decide +kernel
theorem dX6_isViolated_27 : decode cX6_isViolated 27 = .ok (.invokevirtual 64, 3) := by decide +kernel
theorem dX6_isViolated_30 : decode cX6_isViolated 30 = .ok (.iadd, 1) := by decide +kernel
theorem dX6_isViolated_31 : decode cX6_isViolated 31 = .ok (.aload_n 0, 1) := by decide +kernel
theorem dX6_isViolated_32 : decode cX6_isViolated 32 = .ok (.getfield 7, 3) := by decide +kernel
theorem dX6_isViolated_35 : decode cX6_isViolated 35 = .ok (.iconst 2, 1) := by decide +kernel
theorem dX6_isViolated_36 : decode cX6_isViolated 36 = .ok (.iaload, 1) := by decide +kernel
theorem dX6_isViolated_37 : decode cX6_isViolated 37 = .ok (.if_icmp .ge 52, 3) := by decide +kernel
theorem dX6_isViolated_40 : decode cX6_isViolated 40 = .ok (.aload_n 0, 1) := by decide +kernel
theorem dX6_isViolated_41 : decode cX6_isViolated 41 = .ok (.getfield 32, 3) := by decide +kernel
theorem dX6_isViolated_44 : decode cX6_isViolated 44 = .ok (.bipush 40, 2) := by decide +kernel
theorem dX6_isViolated_46 : decode cX6_isViolated 46 = .ok (.aload_n 0, 1) := by decide +kernel
theorem dX6_isViolated_47 : decode cX6_isViolated 47 = .ok (.iload_n 1, 1) := by decide +kernel
theorem dX6_isViolated_48 : decode cX6_isViolated 48 = .ok (.invokevirtual 74, 3) := by decide +kernel
theorem dX6_isViolated_51 : decode cX6_isViolated 51 = .ok (.imul, 1) := by decide +kernel
theorem dX6_isViolated_52 : decode cX6_isViolated 52 = .ok (.iload_n 3, 1) := by decide +kernel
theorem dX6_isViolated_53 : decode cX6_isViolated 53 = .ok (.iadd, 1) := by decide +kernel
theorem dX6_isViolated_54 : decode cX6_isViolated 54 = .ok (.aload_n 0, 1) := by decide +kernel
theorem dX6_isViolated_55 : decode cX6_isViolated 55 = .ok (.iload_n 1, 1) := by decide +kernel
theorem dX6_isViolated_56 : decode cX6_isViolated 56 = .ok (.invokevirtual 64, 3) := by decide +kernel
theorem dX6_isViolated_59 : decode cX6_isViolated 59 = .ok (.iadd, 1) := by decide +kernel
theorem dX6_isViolated_60 : decode cX6_isViolated 60 = .ok (.iaload, 1) := by decide +kernel
theorem dX6_isViolated_61 : decode cX6_isViolated 61 = .ok (.aload_n 0, 1) := by decide +kernel
theorem dX6_isViolated_62 : decode cX6_isViolated 62 = .ok (.getfield 32, 3) := by decide +kernel
theorem dX6_isViolated_65 : decode cX6_isViolated 65 = .ok (.bipush 40, 2) := by decide +kernel
theorem dX6_isViolated_67 : decode cX6_isViolated 67 = .ok (.aload_n 0, 1) := by decide +kernel
theorem dX6_isViolated_68 : decode cX6_isViolated 68 = .ok (.iload_n 1, 1) := by decide +kernel
theorem dX6_isViolated_69 : decode cX6_isViolated 69 = .ok (.invokevirtual 71, 3) := by decide +kernel
theorem dX6_isViolated_72 : decode cX6_isViolated 72 = .ok (.imul, 1) := by decide +kernel
theorem dX6_isViolated_73 : decode cX6_isViolated 73 = .ok (.iload_n 3, 1) := by decide +kernel
theorem dX6_isViolated_74 : decode cX6_isViolated 74 = .ok (.iadd, 1) := by decide +kernel
theorem dX6_isViolated_75 : decode cX6_isViolated 75 = .ok (.iaload, 1) := by decide +kernel
theorem dX6_isViolated_76 : decode cX6_isViolated 76 = .ok (.iload_n 2, 1) := by decide +kernel
theorem dX6_isViolated_77 : decode cX6_isViolated 77 = .ok (.iadd, 1) := by decide +kernel
theorem dX6_isViolated_78 : decode cX6_isViolated 78 = .ok (.if_icmp .ge 5, 3) := by decide +kernel
theorem dX6_isViolated_81 : decode cX6_isViolated 81 = .ok (.iconst 1, 1) := by decide +kernel
theorem dX6_isViolated_82 : decode cX6_isViolated 82 = .ok (.ireturn, 1) := by decide +kernel
theorem dX6_isViolated_83 : decode cX6_isViolated 83 = .ok (.iinc 3 1, 3) := by decide +kernel
theorem dX6_isViolated_86 : decode cX6_isViolated 86 = .ok (.goto (-62), 3) := by decide +kernel
theorem dX6_isViolated_89 : decode cX6_isViolated 89 = .ok (.iconst 0, 1) := by decide +kernel
theorem dX6_isViolated_90 : decode cX6_isViolated 90 = .ok (.ireturn, 1) := by decide +kernel
set_option maxRecDepth 20000 in
theorem ggX6_violated_X6_runs : GoodIn wsX6_violated wsX6_runs := goodIn_r _ [7, 8, 9, 10, 11, 12, 2, 13, 14, 15, 16, 17, 6, 18, 19, 20, 21, 22, 23, 24, 25, 26, 27, 28, 29, 30, 31, 32, 33, 34, 35, 36, 37, 38, 39, 40, 41, 42, 43, 44, 45, 46, 47, 48, 49, 50, 51, 52, 53, 58, 59, 60, 61, 62, 63, 64, 65, 66, 67, 68, 69, 70, 71, 72, 73, 74, 75, 76, 77] (by decide +kernel) (by decide +kernel)
set_option maxRecDepth 20000 in
theorem gX6_violated_X6_runs : GoodIn wsX6_violated (wsV RX6 180 RX6 yX6_runs wsX6_runs) := goodIn_app (goodIn_of _ (by decide +kernel)) ggX6_violated_X6_runs
set_option maxRecDepth 20000 in
theorem ggX6_violated_X6_isViolated : GoodIn wsX6_violated wsX6_isViolated := goodIn_r _ [57, 2, 14, 30, 31, 32, 6, 33, 27, 28, 29, 46, 47, 48, 49, 38, 39, 40, 41, 50, 51, 52, 53, 34, 35, 36, 37, 42, 43, 44, 45, 58, 59, 60, 61, 62, 63, 64, 65, 66, 67, 68, 69, 70, 71, 72, 73, 74, 75, 76, 77] (by decide +kernel) (by decide +kernel)
set_option maxRecDepth 20000 in
theorem gX6_violated_X6_isViolated : GoodIn wsX6_violated (wsV RX6 192 RX6 yX6_isViolated wsX6_isViolated) := goodIn_app (goodIn_of _ (by decide +kernel)) ggX6_violated_X6_isViolated
theorem dX6_violated_0 : decode cX6_violated 0 = .ok (.aload_n 0, 1) := by decide +kernel
theorem dX6_violated_1 : decode cX6_violated 1 = .ok (.iconst 0, 1) := by decide +kernel
theorem dX6_violated_2 : decode cX6_violated 2 = .ok (.putfield 53, 3) := by decide +kernel
theorem dX6_violated_5 : decode cX6_violated 5 = .ok (.aload_n 0, 1) := by decide +kernel
theorem dX6_violated_6 : decode cX6_violated 6 = .ok (.invokevirtual 180, 3) := by decide +kernel
theorem dX6_violated_9 : decode cX6_violated 9 = .ok (.pop, 1) := by decide +kernel
theorem dX6_violated_10 : decode cX6_violated 10 = .ok (.iconst 0, 1) := by decide +kernel
theorem dX6_violated_11 : decode cX6_violated 11 = .ok (.istore_n 1, 1) := by decide +kernel
theorem dX6_violated_12 : decode cX6_violated 12 = .ok (.iload_n 1, 1) := by decide +kernel
theorem dX6_violated_13 : decode cX6_violated 13 = .ok (.aload_n 0, 1) := by decide +kernel
theorem dX6_violated_14 : decode cX6_violated 14 = .ok (.getfield 7, 3) := by decide +kernel
theorem dX6_violated_17 : decode cX6_violated 17 = .ok (.iconst 1, 1) := by decide +kernel
theorem dX6_violated_18 : decode cX6_violated 18 = .ok (.iaload, 1) := by decide +kernel
theorem dX6_violated_19 : decode cX6_violated 19 = .ok (.if_icmp .ge 19, 3) := by decide +kernel
theorem dX6_violated_22 : decode cX6_violated 22 = .ok (.aload_n 0, 1) := by decide +kernel
theorem dX6_violated_23 : decode cX6_violated 23 = .ok (.iload_n 1, 1) := by decide +kernel
theorem dX6_violated_24 : decode cX6_violated 24 = .ok (.invokevirtual 192, 3) := by decide +kernel
theorem dX6_violated_27 : decode cX6_violated 27 = .ok (.ifCond .eq 5, 3) := by decide +kernel
theorem dX6_violated_30 : decode cX6_violated 30 = .ok (.iload_n 1, 1) := by decide +kernel
theorem dX6_violated_31 : decode cX6_violated 31 = .ok (.ireturn, 1) := by decide +kernel
theorem dX6_violated_32 : decode cX6_violated 32 = .ok (.iinc 1 1, 3) := by decide +kernel
theorem dX6_violated_35 : decode cX6_violated 35 = .ok (.goto (-23), 3) := by decide +kernel
theorem dX6_violated_38 : decode cX6_violated 38 = .ok (.iconst (-1), 1) := by decide +kernel
theorem dX6_violated_39 : decode cX6_violated 39 = .ok (.ireturn, 1) := by decide +kernel
theorem dX6_save_0 : decode cX6_save 0 = .ok (.aload_n 0, 1) := by decide +kernel
theorem dX6_save_1 : decode cX6_save 1 = .ok (.iconst 0, 1) := by decide +kernel
theorem dX6_save_2 : decode cX6_save 2 = .ok (.putfield 53, 3) := by decide +kernel
theorem dX6_save_5 : decode cX6_save 5 = .ok (.aload_n 0, 1) := by decide +kernel
theorem dX6_save_6 : decode cX6_save 6 = .ok (.iconst 1, 1) := by decide +kernel
theorem dX6_save_7 : decode cX6_save 7 = .ok (.putfield 195, 3) := by decide +kernel
theorem dX6_save_10 : decode cX6_save 10 = .ok (.iconst 0, 1) := by decide +kernel
theorem dX6_save_11 : decode cX6_save 11 = .ok (.istore_n 1, 1) := by decide +kernel
theorem dX6_save_12 : decode cX6_save 12 = .ok (.iload_n 1, 1) := by decide +kernel
theorem dX6_save_13 : decode cX6_save 13 = .ok (.bipush 110, 2) := by decide +kernel
theorem dX6_save_15 : decode cX6_save 15 = .ok (.if_icmp .ge 21, 3) := by decide +kernel
theorem dX6_save_18 : decode cX6_save 18 = .ok (.aload_n 0, 1) := by decide +kernel
theorem dX6_save_19 : decode cX6_save 19 = .ok (.getfield 13, 3) := by decide +kernel
theorem dX6_save_22 : decode cX6_save 22 = .ok (.iload_n 1, 1) := by decide +kernel
theorem dX6_save_23 : decode cX6_save 23 = .ok (.aload_n 0, 1) := by decide +kernel
theorem dX6_save_24 : decode cX6_save 24 = .ok (.getfield 7, 3) := by decide +kernel
theorem dX6_save_27 : decode cX6_save 27 = .ok (.iload_n 1, 1) := by decide +kernel
theorem dX6_save_28 : decode cX6_save 28 = .ok (.iaload, 1) := by decide +kernel
theorem dX6_save_29 : decode cX6_save 29 = .ok (.iastore, 1) := by decide +kernel
theorem dX6_save_30 : decode cX6_save 30 = .ok (.iinc 1 1, 3) := by decide +kernel
theorem dX6_save_33 : decode cX6_save 33 = .ok (.goto (-21), 3) := by decide +kernel
theorem dX6_save_36 : decode cX6_save 36 = .ok (.aload_n 0, 1) := by decide +kernel
theorem dX6_save_37 : decode cX6_save 37 = .ok (.getfield 7, 3) := by decide +kernel
theorem dX6_save_40 : decode cX6_save 40 = .ok (.iconst 1, 1) := by decide +kernel
theorem dX6_save_41 : decode cX6_save 41 = .ok (.iaload, 1) := by decide +kernel
theorem dX6_save_42 : decode cX6_save 42 = .ok (.ireturn, 1) := by decide +kernel
set_option maxRecDepth 20000 in
theorem ggX6_restore_X6_fails : GoodIn wsX6_restore wsX6_fails := goodIn_r _ [9, 1, 10, 11, 12, 13, 14, 15, 16, 17, 18, 19, 20, 21, 22, 23, 24, 25, 26, 27, 28, 29] (by decide +kernel) (by decide +kernel)
set_option maxRecDepth 20000 in
theorem gX6_restore_X6_fails : GoodIn wsX6_restore (wsV RX6 83 RX6 yX6_fails wsX6_fails) := goodIn_app (goodIn_of _ (by decide +kernel)) ggX6_restore_X6_fails
theorem dX6_restore_0 : decode cX6_restore 0 = .ok (.aload_n 0, 1) := by decide +kernel
theorem dX6_restore_1 : decode cX6_restore 1 = .ok (.iconst 0, 1) := by decide +kernel
theorem dX6_restore_2 : decode cX6_restore 2 = .ok (.putfield 53, 3) := by decide +kernel
theorem dX6_restore_5 : decode cX6_restore 5 = .ok (.aload_n 0, 1) := by decide +kernel
theorem dX6_restore_6 : decode cX6_restore 6 = .ok (.getfield 195, 3) := by decide +kernel
theorem dX6_restore_9 : decode cX6_restore 9 = .ok (.ifCond .ne 9, 3) := by decide +kernel
theorem dX6_restore_12 : decode cX6_restore 12 = .ok (.aload_n 0, 1) := by decide +kernel
theorem dX6_restore_13 : decode cX6_restore 13 = .ok (.iconst 1, 1) := by decide +kernel
theorem dX6_restore_14 : decode cX6_restore 14 = .ok (.invokevirtual 83, 3) := by decide +kernel
theorem dX6_restore_17 : decode cX6_restore 17 = .ok (.ireturn, 1) := by decide +kernel
theorem dX6_restore_18 : decode cX6_restore 18 = .ok (.iconst 0, 1) := by decide +kernel
theorem dX6_restore_19 : decode cX6_restore 19 = .ok (.istore_n 1, 1) := by decide +kernel
theorem dX6_restore_20 : decode cX6_restore 20 = .ok (.iload_n 1, 1) := by decide +kernel
theorem dX6_restore_21 : decode cX6_restore 21 = .ok (.bipush 110, 2) := by decide +kernel
theorem dX6_restore_23 : decode cX6_restore 23 = .ok (.if_icmp .ge 21, 3) := by decide +kernel
theorem dX6_restore_26 : decode cX6_restore 26 = .ok (.aload_n 0, 1) := by decide +kernel
theorem dX6_restore_27 : decode cX6_restore 27 = .ok (.getfield 7, 3) := by decide +kernel
theorem dX6_restore_30 : decode cX6_restore 30 = .ok (.iload_n 1, 1) := by decide +kernel
theorem dX6_restore_31 : decode cX6_restore 31 = .ok (.aload_n 0, 1) := by decide +kernel
theorem dX6_restore_32 : decode cX6_restore 32 = .ok (.getfield 13, 3) := by decide +kernel
theorem dX6_restore_35 : decode cX6_restore 35 = .ok (.iload_n 1, 1) := by decide +kernel
theorem dX6_restore_36 : decode cX6_restore 36 = .ok (.iaload, 1) := by decide +kernel
theorem dX6_restore_37 : decode cX6_restore 37 = .ok (.iastore, 1) := by decide +kernel
theorem dX6_restore_38 : decode cX6_restore 38 = .ok (.iinc 1 1, 3) := by decide +kernel
theorem dX6_restore_41 : decode cX6_restore 41 = .ok (.goto (-21), 3) := by decide +kernel
theorem dX6_restore_44 : decode cX6_restore 44 = .ok (.aload_n 0, 1) := by decide +kernel
theorem dX6_restore_45 : decode cX6_restore 45 = .ok (.getfield 7, 3) := by decide +kernel
theorem dX6_restore_48 : decode cX6_restore 48 = .ok (.iconst 1, 1) := by decide +kernel
theorem dX6_restore_49 : decode cX6_restore 49 = .ok (.iaload, 1) := by decide +kernel
theorem dX6_restore_50 : decode cX6_restore 50 = .ok (.ireturn, 1) := by decide +kernel
set_option maxRecDepth 20000 in
theorem ggX6_signalsKept_X6_isSignal : GoodIn wsX6_signalsKept wsX6_isSignal := goodIn_r _ [6, 1, 7, 8, 5, 9, 10, 11, 12, 13, 14, 15, 16, 17, 18, 19, 20, 21, 22, 23, 24, 25, 26, 27, 28, 29, 30, 31, 32, 33] (by decide +kernel) (by decide +kernel)
set_option maxRecDepth 20000 in
theorem gX6_signalsKept_X6_isSignal : GoodIn wsX6_signalsKept (wsV RX6 147 RX6 yX6_isSignal wsX6_isSignal) := goodIn_app (goodIn_of _ (by decide +kernel)) ggX6_signalsKept_X6_isSignal
theorem dX6_signalsKept_0 : decode cX6_signalsKept 0 = .ok (.iconst 0, 1) := by decide +kernel
theorem dX6_signalsKept_1 : decode cX6_signalsKept 1 = .ok (.istore_n 1, 1) := by decide +kernel
theorem dX6_signalsKept_2 : decode cX6_signalsKept 2 = .ok (.iconst 0, 1) := by decide +kernel
theorem dX6_signalsKept_3 : decode cX6_signalsKept 3 = .ok (.istore_n 2, 1) := by decide +kernel
theorem dX6_signalsKept_4 : decode cX6_signalsKept 4 = .ok (.iload_n 2, 1) := by decide +kernel
theorem dX6_signalsKept_5 : decode cX6_signalsKept 5 = .ok (.aload_n 0, 1) := by decide +kernel
theorem dX6_signalsKept_6 : decode cX6_signalsKept 6 = .ok (.getfield 7, 3) := by decide +kernel
theorem dX6_signalsKept_9 : decode cX6_signalsKept 9 = .ok (.iconst 1, 1) := by decide +kernel
theorem dX6_signalsKept_10 : decode cX6_signalsKept 10 = .ok (.iaload, 1) := by decide +kernel
theorem dX6_signalsKept_11 : decode cX6_signalsKept 11 = .ok (.if_icmp .ge 25, 3) := by decide +kernel
theorem dX6_signalsKept_14 : decode cX6_signalsKept 14 = .ok (.iload_n 1, 1) := by decide +kernel
theorem dX6_signalsKept_15 : decode cX6_signalsKept 15 = .ok (.aload_n 0, 1) := by decide +kernel
theorem dX6_signalsKept_16 : decode cX6_signalsKept 16 = .ok (.iload_n 2, 1) := by decide +kernel
theorem dX6_signalsKept_17 : decode cX6_signalsKept 17 = .ok (.invokevirtual 147, 3) := by decide +kernel
theorem dX6_signalsKept_20 : decode cX6_signalsKept 20 = .ok (.ifCond .eq 7, 3) := by decide +kernel
theorem dX6_signalsKept_23 : decode cX6_signalsKept 23 = .ok (.iconst 1, 1) := by decide +kernel
theorem dX6_signalsKept_24 : decode cX6_signalsKept 24 = .ok (.goto 4, 3) := by decide +kernel
theorem dX6_signalsKept_27 : decode cX6_signalsKept 27 = .ok (.iconst 0, 1) := by decide +kernel
theorem dX6_signalsKept_28 : decode cX6_signalsKept 28 = .ok (.iadd, 1) := by decide +kernel
theorem dX6_signalsKept_29 : decode cX6_signalsKept 29 = .ok (.istore_n 1, 1) := by decide +kernel
theorem dX6_signalsKept_30 : decode cX6_signalsKept 30 = .ok (.iinc 2 1, 3) := by decide +kernel
theorem dX6_signalsKept_33 : decode cX6_signalsKept 33 = .ok (.goto (-29), 3) := by decide +kernel
theorem dX6_signalsKept_36 : decode cX6_signalsKept 36 = .ok (.iload_n 1, 1) := by decide +kernel
theorem dX6_signalsKept_37 : decode cX6_signalsKept 37 = .ok (.ireturn, 1) := by decide +kernel
set_option maxRecDepth 20000 in
theorem ggX6_count_X6_signalsKept : GoodIn wsX6_count wsX6_signalsKept := goodIn_r _ [8, 2, 9, 10, 11, 7, 12, 13, 14, 15, 16, 17, 18, 19, 32, 33, 34, 35, 36, 37, 38, 39, 40, 41, 42, 43, 44, 45, 46, 47, 48, 49, 50, 51] (by decide +kernel) (by decide +kernel)
set_option maxRecDepth 20000 in
theorem gX6_count_X6_signalsKept : GoodIn wsX6_count (wsV RX6 199 RX6 yX6_signalsKept wsX6_signalsKept) := goodIn_app (goodIn_of _ (by decide +kernel)) ggX6_count_X6_signalsKept
set_option maxRecDepth 20000 in
theorem ggX6_count_X6_allCosts : GoodIn wsX6_count wsX6_allCosts := goodIn_r _ [23, 2, 24, 25, 26, 7, 27, 32, 33, 34, 35, 36, 37, 38, 39, 40, 41, 42, 43, 44, 45, 46, 47, 48, 49, 50, 51] (by decide +kernel) (by decide +kernel)
set_option maxRecDepth 20000 in
theorem gX6_count_X6_allCosts : GoodIn wsX6_count (wsV RX6 186 RX6 yX6_allCosts wsX6_allCosts) := goodIn_app (goodIn_of _ (by decide +kernel)) ggX6_count_X6_allCosts
set_option maxRecDepth 20000 in
theorem ggX6_count_X6_fails : GoodIn wsX6_count wsX6_fails := goodIn_r _ [31, 1, 32, 33, 34, 35, 36, 37, 38, 39, 40, 41, 42, 43, 44, 45, 46, 47, 48, 49, 50, 51] (by decide +kernel) (by decide +kernel)
set_option maxRecDepth 20000 in
theorem gX6_count_X6_fails : GoodIn wsX6_count (wsV RX6 83 RX6 yX6_fails wsX6_fails) := goodIn_app (goodIn_of _ (by decide +kernel)) ggX6_count_X6_fails
theorem dX6_count_0 : decode cX6_count 0 = .ok (.aload_n 0, 1) := by decide +kernel
theorem dX6_count_1 : decode cX6_count 1 = .ok (.iconst 0, 1) := by decide +kernel
theorem dX6_count_2 : decode cX6_count 2 = .ok (.putfield 53, 3) := by decide +kernel
theorem dX6_count_5 : decode cX6_count 5 = .ok (.iload_n 1, 1) := by decide +kernel
theorem dX6_count_6 : decode cX6_count 6 = .ok (.tableswitch 111 0 13 #[70, 77, 84, 89, 94, 111, 111, 111, 111, 111, 99, 99, 99, 99], 70) := by decide +kernel
theorem dX6_count_76 : decode cX6_count 76 = .ok (.aload_n 0, 1) := by decide +kernel
theorem dX6_count_77 : decode cX6_count 77 = .ok (.getfield 7, 3) := by decide +kernel
theorem dX6_count_80 : decode cX6_count 80 = .ok (.iconst 0, 1) := by decide +kernel
theorem dX6_count_81 : decode cX6_count 81 = .ok (.iaload, 1) := by decide +kernel
theorem dX6_count_82 : decode cX6_count 82 = .ok (.ireturn, 1) := by decide +kernel
theorem dX6_count_83 : decode cX6_count 83 = .ok (.aload_n 0, 1) := by decide +kernel
theorem dX6_count_84 : decode cX6_count 84 = .ok (.getfield 7, 3) := by decide +kernel
theorem dX6_count_87 : decode cX6_count 87 = .ok (.iconst 1, 1) := by decide +kernel
theorem dX6_count_88 : decode cX6_count 88 = .ok (.iaload, 1) := by decide +kernel
theorem dX6_count_89 : decode cX6_count 89 = .ok (.ireturn, 1) := by decide +kernel
theorem dX6_count_90 : decode cX6_count 90 = .ok (.aload_n 0, 1) := by decide +kernel
theorem dX6_count_91 : decode cX6_count 91 = .ok (.invokevirtual 199, 3) := by decide +kernel
theorem dX6_count_94 : decode cX6_count 94 = .ok (.ireturn, 1) := by decide +kernel
theorem dX6_count_95 : decode cX6_count 95 = .ok (.aload_n 0, 1) := by decide +kernel
theorem dX6_count_96 : decode cX6_count 96 = .ok (.getfield 86, 3) := by decide +kernel
theorem dX6_count_99 : decode cX6_count 99 = .ok (.ireturn, 1) := by decide +kernel
theorem dX6_count_100 : decode cX6_count 100 = .ok (.aload_n 0, 1) := by decide +kernel
theorem dX6_count_101 : decode cX6_count 101 = .ok (.invokevirtual 186, 3) := by decide +kernel
theorem dX6_count_104 : decode cX6_count 104 = .ok (.ireturn, 1) := by decide +kernel
theorem dX6_count_105 : decode cX6_count 105 = .ok (.aload_n 0, 1) := by decide +kernel
theorem dX6_count_106 : decode cX6_count 106 = .ok (.getfield 7, 3) := by decide +kernel
theorem dX6_count_109 : decode cX6_count 109 = .ok (.iconst 2, 1) := by decide +kernel
theorem dX6_count_110 : decode cX6_count 110 = .ok (.iload_n 1, 1) := by decide +kernel
theorem dX6_count_111 : decode cX6_count 111 = .ok (.iadd, 1) := by decide +kernel
theorem dX6_count_112 : decode cX6_count 112 = .ok (.bipush 10, 2) := by decide +kernel
theorem dX6_count_114 : decode cX6_count 114 = .ok (.isub, 1) := by decide +kernel
theorem dX6_count_115 : decode cX6_count 115 = .ok (.iaload, 1) := by decide +kernel
theorem dX6_count_116 : decode cX6_count 116 = .ok (.ireturn, 1) := by decide +kernel
theorem dX6_count_117 : decode cX6_count 117 = .ok (.aload_n 0, 1) := by decide +kernel
theorem dX6_count_118 : decode cX6_count 118 = .ok (.iconst 1, 1) := by decide +kernel
theorem dX6_count_119 : decode cX6_count 119 = .ok (.invokevirtual 83, 3) := by decide +kernel
theorem dX6_count_122 : decode cX6_count 122 = .ok (.ireturn, 1) := by decide +kernel
theorem dJ9_max_7cf53_0 : decode cJ9_max_7cf53 0 = .ok (.iload_n 0, 1) := by decide +kernel
theorem dJ9_max_7cf53_1 : decode cJ9_max_7cf53 1 = .ok (.iload_n 1, 1) := by decide +kernel
theorem dJ9_max_7cf53_2 : decode cJ9_max_7cf53 2 = .ok (.if_icmp .lt 7, 3) := by decide +kernel
theorem dJ9_max_7cf53_5 : decode cJ9_max_7cf53 5 = .ok (.iload_n 0, 1) := by decide +kernel
theorem dJ9_max_7cf53_6 : decode cJ9_max_7cf53 6 = .ok (.goto 4, 3) := by decide +kernel
theorem dJ9_max_7cf53_9 : decode cJ9_max_7cf53 9 = .ok (.iload_n 1, 1) := by decide +kernel
theorem dJ9_max_7cf53_10 : decode cJ9_max_7cf53 10 = .ok (.ireturn, 1) := by decide +kernel
theorem dJ9_min_7cf53_0 : decode cJ9_min_7cf53 0 = .ok (.iload_n 0, 1) := by decide +kernel
theorem dJ9_min_7cf53_1 : decode cJ9_min_7cf53 1 = .ok (.iload_n 1, 1) := by decide +kernel
theorem dJ9_min_7cf53_2 : decode cJ9_min_7cf53 2 = .ok (.if_icmp .gt 7, 3) := by decide +kernel
theorem dJ9_min_7cf53_5 : decode cJ9_min_7cf53 5 = .ok (.iload_n 0, 1) := by decide +kernel
theorem dJ9_min_7cf53_6 : decode cJ9_min_7cf53 6 = .ok (.goto 4, 3) := by decide +kernel
theorem dJ9_min_7cf53_9 : decode cJ9_min_7cf53 9 = .ok (.iload_n 1, 1) := by decide +kernel
theorem dJ9_min_7cf53_10 : decode cJ9_min_7cf53 10 = .ok (.ireturn, 1) := by decide +kernel
