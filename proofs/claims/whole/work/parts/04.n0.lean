theorem dX0_init_0 : decode cX0_init 0 = .ok (.aload_n 0, 1) := by decide +kernel
theorem dX0_init_1 : decode cX0_init 1 = .ok (.invokespecial 3, 3) := by decide +kernel
theorem dX0_init_4 : decode cX0_init 4 = .ok (.aload_n 0, 1) := by decide +kernel
theorem dX0_init_5 : decode cX0_init 5 = .ok (.bipush 8, 2) := by decide +kernel
theorem dX0_init_7 : decode cX0_init 7 = .ok (.newarray .int, 2) := by decide +kernel
theorem dX0_init_9 : decode cX0_init 9 = .ok (.putfield 9, 3) := by decide +kernel
theorem dX0_init_12 : decode cX0_init 12 = .ok (.aload_n 0, 1) := by decide +kernel
theorem dX0_init_13 : decode cX0_init 13 = .ok (.bipush 8, 2) := by decide +kernel
theorem dX0_init_15 : decode cX0_init 15 = .ok (.newarray .int, 2) := by decide +kernel
theorem dX0_init_17 : decode cX0_init 17 = .ok (.putfield 15, 3) := by decide +kernel
theorem dX0_init_20 : decode cX0_init 20 = .ok (.aload_n 0, 1) := by decide +kernel
theorem dX0_init_21 : decode cX0_init 21 = .ok (.bipush 8, 2) := by decide +kernel
theorem dX0_init_23 : decode cX0_init 23 = .ok (.newarray .int, 2) := by decide +kernel
theorem dX0_init_25 : decode cX0_init 25 = .ok (.putfield 18, 3) := by decide +kernel
theorem dX0_init_28 : decode cX0_init 28 = .ok (.aload_n 0, 1) := by decide +kernel
theorem dX0_init_29 : decode cX0_init 29 = .ok (.bipush 8, 2) := by decide +kernel
theorem dX0_init_31 : decode cX0_init 31 = .ok (.newarray .int, 2) := by decide +kernel
theorem dX0_init_33 : decode cX0_init 33 = .ok (.putfield 21, 3) := by decide +kernel
theorem dX0_init_36 : decode cX0_init 36 = .ok (.aload_n 0, 1) := by decide +kernel
theorem dX0_init_37 : decode cX0_init 37 = .ok (.bipush 16, 2) := by decide +kernel
theorem dX0_init_39 : decode cX0_init 39 = .ok (.newarray .int, 2) := by decide +kernel
theorem dX0_init_41 : decode cX0_init 41 = .ok (.putfield 24, 3) := by decide +kernel
theorem dX0_init_44 : decode cX0_init 44 = .ok (.aload_n 0, 1) := by decide +kernel
theorem dX0_init_45 : decode cX0_init 45 = .ok (.bipush 16, 2) := by decide +kernel
theorem dX0_init_47 : decode cX0_init 47 = .ok (.newarray .int, 2) := by decide +kernel
theorem dX0_init_49 : decode cX0_init 49 = .ok (.putfield 27, 3) := by decide +kernel
theorem dX0_init_52 : decode cX0_init 52 = .ok (.aload_n 0, 1) := by decide +kernel
theorem dX0_init_53 : decode cX0_init 53 = .ok (.bipush 16, 2) := by decide +kernel
theorem dX0_init_55 : decode cX0_init 55 = .ok (.newarray .int, 2) := by decide +kernel
theorem dX0_init_57 : decode cX0_init 57 = .ok (.putfield 30, 3) := by decide +kernel
theorem dX0_init_60 : decode cX0_init 60 = .ok (.aload_n 0, 1) := by decide +kernel
theorem dX0_init_61 : decode cX0_init 61 = .ok (.bipush 16, 2) := by decide +kernel
theorem dX0_init_63 : decode cX0_init 63 = .ok (.newarray .int, 2) := by decide +kernel
theorem dX0_init_65 : decode cX0_init 65 = .ok (.putfield 33, 3) := by decide +kernel
theorem dX0_init_68 : decode cX0_init 68 = .ok (.aload_n 0, 1) := by decide +kernel
theorem dX0_init_69 : decode cX0_init 69 = .ok (.bipush 16, 2) := by decide +kernel
theorem dX0_init_71 : decode cX0_init 71 = .ok (.newarray .boolean, 2) := by decide +kernel
theorem dX0_init_73 : decode cX0_init 73 = .ok (.putfield 36, 3) := by decide +kernel
theorem dX0_init_76 : decode cX0_init 76 = .ok (.aload_n 0, 1) := by decide +kernel
theorem dX0_init_77 : decode cX0_init 77 = .ok (.iconst 4, 1) := by decide +kernel
theorem dX0_init_78 : decode cX0_init 78 = .ok (.newarray .int, 2) := by decide +kernel
theorem dX0_init_80 : decode cX0_init 80 = .ok (.putfield 40, 3) := by decide +kernel
theorem dX0_init_83 : decode cX0_init 83 = .ok (.iconst 0, 1) := by decide +kernel
theorem dX0_init_84 : decode cX0_init 84 = .ok (.istore_n 1, 1) := by decide +kernel
theorem dX0_init_85 : decode cX0_init 85 = .ok (.iload_n 1, 1) := by decide +kernel
theorem dX0_init_86 : decode cX0_init 86 = .ok (.iconst 4, 1) := by decide +kernel
theorem dX0_init_87 : decode cX0_init 87 = .ok (.if_icmp .ge 20, 3) := by decide +kernel
theorem dX0_init_90 : decode cX0_init 90 = .ok (.aload_n 0, 1) := by decide +kernel
theorem dX0_init_91 : decode cX0_init 91 = .ok (.getfield 40, 3) := by decide +kernel
theorem dX0_init_94 : decode cX0_init 94 = .ok (.iload_n 1, 1) := by decide +kernel
theorem dX0_init_95 : decode cX0_init 95 = .ok (.getstatic 43, 3) := by decide +kernel
theorem dX0_init_98 : decode cX0_init 98 = .ok (.iload_n 1, 1) := by decide +kernel
theorem dX0_init_99 : decode cX0_init 99 = .ok (.iaload, 1) := by decide +kernel
theorem dX0_init_100 : decode cX0_init 100 = .ok (.iastore, 1) := by decide +kernel
theorem dX0_init_101 : decode cX0_init 101 = .ok (.iinc 1 1, 3) := by decide +kernel
theorem dX0_init_104 : decode cX0_init 104 = .ok (.goto (-19), 3) := by decide +kernel
theorem dX0_init_107 : decode cX0_init 107 = .ok (.return_, 1) := by decide +kernel
set_option maxRecDepth 20000 in
theorem ggX0_copyFrom_X0_copyDependence : GoodIn wsX0_copyFrom wsX0_copyDependence := goodIn_r _ [11, 12, 13, 14, 15, 16, 17, 18, 19, 20, 21, 22, 23, 24, 25, 26, 27, 28] (by decide +kernel) (by decide +kernel)
set_option maxRecDepth 20000 in
theorem gX0_copyFrom_X0_copyDependence : GoodIn wsX0_copyFrom (wsV RX0 53 RX0 yX0_copyDependence wsX0_copyDependence) := goodIn_app (goodIn_of _ (by decide +kernel)) ggX0_copyFrom_X0_copyDependence
theorem dX0_copyFrom_0 : decode cX0_copyFrom 0 = .ok (.aload_n 0, 1) := by decide +kernel
theorem dX0_copyFrom_1 : decode cX0_copyFrom 1 = .ok (.aload_n 1, 1) := by decide +kernel
theorem dX0_copyFrom_2 : decode cX0_copyFrom 2 = .ok (.getfield 46, 3) := by decide +kernel
theorem dX0_copyFrom_5 : decode cX0_copyFrom 5 = .ok (.putfield 46, 3) := by decide +kernel
theorem dX0_copyFrom_8 : decode cX0_copyFrom 8 = .ok (.iconst 0, 1) := by decide +kernel
theorem dX0_copyFrom_9 : decode cX0_copyFrom 9 = .ok (.istore_n 2, 1) := by decide +kernel
theorem dX0_copyFrom_10 : decode cX0_copyFrom 10 = .ok (.iload_n 2, 1) := by decide +kernel
theorem dX0_copyFrom_11 : decode cX0_copyFrom 11 = .ok (.bipush 8, 2) := by decide +kernel
theorem dX0_copyFrom_13 : decode cX0_copyFrom 13 = .ok (.if_icmp .ge 45, 3) := by decide +kernel
theorem dX0_copyFrom_16 : decode cX0_copyFrom 16 = .ok (.aload_n 0, 1) := by decide +kernel
theorem dX0_copyFrom_17 : decode cX0_copyFrom 17 = .ok (.getfield 9, 3) := by decide +kernel
theorem dX0_copyFrom_20 : decode cX0_copyFrom 20 = .ok (.iload_n 2, 1) := by decide +kernel
theorem dX0_copyFrom_21 : decode cX0_copyFrom 21 = .ok (.aload_n 1, 1) := by decide +kernel
theorem dX0_copyFrom_22 : decode cX0_copyFrom 22 = .ok (.getfield 9, 3) := by decide +kernel
theorem dX0_copyFrom_25 : decode cX0_copyFrom 25 = .ok (.iload_n 2, 1) := by decide +kernel
theorem dX0_copyFrom_26 : decode cX0_copyFrom 26 = .ok (.iaload, 1) := by decide +kernel
theorem dX0_copyFrom_27 : decode cX0_copyFrom 27 = .ok (.iastore, 1) := by decide +kernel
theorem dX0_copyFrom_28 : decode cX0_copyFrom 28 = .ok (.aload_n 0, 1) := by decide +kernel
theorem dX0_copyFrom_29 : decode cX0_copyFrom 29 = .ok (.getfield 15, 3) := by decide +kernel
theorem dX0_copyFrom_32 : decode cX0_copyFrom 32 = .ok (.iload_n 2, 1) := by decide +kernel
theorem dX0_copyFrom_33 : decode cX0_copyFrom 33 = .ok (.aload_n 1, 1) := by decide +kernel
theorem dX0_copyFrom_34 : decode cX0_copyFrom 34 = .ok (.getfield 15, 3) := by decide +kernel
theorem dX0_copyFrom_37 : decode cX0_copyFrom 37 = .ok (.iload_n 2, 1) := by decide +kernel
theorem dX0_copyFrom_38 : decode cX0_copyFrom 38 = .ok (.iaload, 1) := by decide +kernel
theorem dX0_copyFrom_39 : decode cX0_copyFrom 39 = .ok (.iastore, 1) := by decide +kernel
theorem dX0_copyFrom_40 : decode cX0_copyFrom 40 = .ok (.aload_n 0, 1) := by decide +kernel
theorem dX0_copyFrom_41 : decode cX0_copyFrom 41 = .ok (.getfield 18, 3) := by decide +kernel
theorem dX0_copyFrom_44 : decode cX0_copyFrom 44 = .ok (.iload_n 2, 1) := by decide +kernel
theorem dX0_copyFrom_45 : decode cX0_copyFrom 45 = .ok (.aload_n 1, 1) := by decide +kernel
theorem dX0_copyFrom_46 : decode cX0_copyFrom 46 = .ok (.getfield 18, 3) := by decide +kernel
theorem dX0_copyFrom_49 : decode cX0_copyFrom 49 = .ok (.iload_n 2, 1) := by decide +kernel
theorem dX0_copyFrom_50 : decode cX0_copyFrom 50 = .ok (.iaload, 1) := by decide +kernel
theorem dX0_copyFrom_51 : decode cX0_copyFrom 51 = .ok (.iastore, 1) := by decide +kernel
theorem dX0_copyFrom_52 : decode cX0_copyFrom 52 = .ok (.iinc 2 1, 3) := by decide +kernel
theorem dX0_copyFrom_55 : decode cX0_copyFrom 55 = .ok (.goto (-45), 3) := by decide +kernel
theorem dX0_copyFrom_58 : decode cX0_copyFrom 58 = .ok (.aload_n 0, 1) := by decide +kernel
theorem dX0_copyFrom_59 : decode cX0_copyFrom 59 = .ok (.aload_n 1, 1) := by decide +kernel
theorem dX0_copyFrom_60 : decode cX0_copyFrom 60 = .ok (.getfield 50, 3) := by decide +kernel
theorem dX0_copyFrom_63 : decode cX0_copyFrom 63 = .ok (.putfield 50, 3) := by decide +kernel
theorem dX0_copyFrom_66 : decode cX0_copyFrom 66 = .ok (.iconst 0, 1) := by decide +kernel
theorem dX0_copyFrom_67 : decode cX0_copyFrom 67 = .ok (.istore_n 2, 1) := by decide +kernel
theorem dX0_copyFrom_68 : decode cX0_copyFrom 68 = .ok (.iload_n 2, 1) := by decide +kernel
theorem dX0_copyFrom_69 : decode cX0_copyFrom 69 = .ok (.bipush 16, 2) := by decide +kernel
theorem dX0_copyFrom_71 : decode cX0_copyFrom 71 = .ok (.if_icmp .ge 16, 3) := by decide +kernel
theorem dX0_copyFrom_74 : decode cX0_copyFrom 74 = .ok (.aload_n 0, 1) := by decide +kernel
theorem dX0_copyFrom_75 : decode cX0_copyFrom 75 = .ok (.aload_n 1, 1) := by decide +kernel
theorem dX0_copyFrom_76 : decode cX0_copyFrom 76 = .ok (.iload_n 2, 1) := by decide +kernel
theorem dX0_copyFrom_77 : decode cX0_copyFrom 77 = .ok (.iload_n 2, 1) := by decide +kernel
theorem dX0_copyFrom_78 : decode cX0_copyFrom 78 = .ok (.invokevirtual 53, 3) := by decide +kernel
theorem dX0_copyFrom_81 : decode cX0_copyFrom 81 = .ok (.iinc 2 1, 3) := by decide +kernel
theorem dX0_copyFrom_84 : decode cX0_copyFrom 84 = .ok (.goto (-16), 3) := by decide +kernel
theorem dX0_copyFrom_87 : decode cX0_copyFrom 87 = .ok (.iconst 0, 1) := by decide +kernel
theorem dX0_copyFrom_88 : decode cX0_copyFrom 88 = .ok (.istore_n 2, 1) := by decide +kernel
theorem dX0_copyFrom_89 : decode cX0_copyFrom 89 = .ok (.iload_n 2, 1) := by decide +kernel
theorem dX0_copyFrom_90 : decode cX0_copyFrom 90 = .ok (.iconst 4, 1) := by decide +kernel
theorem dX0_copyFrom_91 : decode cX0_copyFrom 91 = .ok (.if_icmp .ge 21, 3) := by decide +kernel
theorem dX0_copyFrom_94 : decode cX0_copyFrom 94 = .ok (.aload_n 0, 1) := by decide +kernel
theorem dX0_copyFrom_95 : decode cX0_copyFrom 95 = .ok (.getfield 40, 3) := by decide +kernel
theorem dX0_copyFrom_98 : decode cX0_copyFrom 98 = .ok (.iload_n 2, 1) := by decide +kernel
theorem dX0_copyFrom_99 : decode cX0_copyFrom 99 = .ok (.aload_n 1, 1) := by decide +kernel
theorem dX0_copyFrom_100 : decode cX0_copyFrom 100 = .ok (.getfield 40, 3) := by decide +kernel
theorem dX0_copyFrom_103 : decode cX0_copyFrom 103 = .ok (.iload_n 2, 1) := by decide +kernel
theorem dX0_copyFrom_104 : decode cX0_copyFrom 104 = .ok (.iaload, 1) := by decide +kernel
theorem dX0_copyFrom_105 : decode cX0_copyFrom 105 = .ok (.iastore, 1) := by decide +kernel
theorem dX0_copyFrom_106 : decode cX0_copyFrom 106 = .ok (.iinc 2 1, 3) := by decide +kernel
theorem dX0_copyFrom_109 : decode cX0_copyFrom 109 = .ok (.goto (-20), 3) := by decide +kernel
theorem dX0_copyFrom_112 : decode cX0_copyFrom 112 = .ok (.return_, 1) := by decide +kernel
theorem dX0_hasStatement_0 : decode cX0_hasStatement 0 = .ok (.iload_n 1, 1) := by decide +kernel
theorem dX0_hasStatement_1 : decode cX0_hasStatement 1 = .ok (.ifCond .lt 15, 3) := by decide +kernel
theorem dX0_hasStatement_4 : decode cX0_hasStatement 4 = .ok (.iload_n 1, 1) := by decide +kernel
theorem dX0_hasStatement_5 : decode cX0_hasStatement 5 = .ok (.aload_n 0, 1) := by decide +kernel
theorem dX0_hasStatement_6 : decode cX0_hasStatement 6 = .ok (.getfield 46, 3) := by decide +kernel
theorem dX0_hasStatement_9 : decode cX0_hasStatement 9 = .ok (.if_icmp .ge 7, 3) := by decide +kernel
theorem dX0_hasStatement_12 : decode cX0_hasStatement 12 = .ok (.iconst 1, 1) := by decide +kernel
theorem dX0_hasStatement_13 : decode cX0_hasStatement 13 = .ok (.goto 4, 3) := by decide +kernel
theorem dX0_hasStatement_16 : decode cX0_hasStatement 16 = .ok (.iconst 0, 1) := by decide +kernel
theorem dX0_hasStatement_17 : decode cX0_hasStatement 17 = .ok (.ireturn, 1) := by decide +kernel
theorem dX0_hasPosition_0 : decode cX0_hasPosition 0 = .ok (.iload_n 1, 1) := by decide +kernel
theorem dX0_hasPosition_1 : decode cX0_hasPosition 1 = .ok (.ifCond .lt 15, 3) := by decide +kernel
theorem dX0_hasPosition_4 : decode cX0_hasPosition 4 = .ok (.iload_n 1, 1) := by decide +kernel
theorem dX0_hasPosition_5 : decode cX0_hasPosition 5 = .ok (.aload_n 0, 1) := by decide +kernel
theorem dX0_hasPosition_6 : decode cX0_hasPosition 6 = .ok (.getfield 46, 3) := by decide +kernel
theorem dX0_hasPosition_9 : decode cX0_hasPosition 9 = .ok (.if_icmp .ge 7, 3) := by decide +kernel
theorem dX0_hasPosition_12 : decode cX0_hasPosition 12 = .ok (.iconst 1, 1) := by decide +kernel
theorem dX0_hasPosition_13 : decode cX0_hasPosition 13 = .ok (.goto 4, 3) := by decide +kernel
theorem dX0_hasPosition_16 : decode cX0_hasPosition 16 = .ok (.iconst 0, 1) := by decide +kernel
theorem dX0_hasPosition_17 : decode cX0_hasPosition 17 = .ok (.ireturn, 1) := by decide +kernel
theorem dX0_hasDependence_0 : decode cX0_hasDependence 0 = .ok (.iload_n 1, 1) := by decide +kernel
theorem dX0_hasDependence_1 : decode cX0_hasDependence 1 = .ok (.ifCond .lt 15, 3) := by decide +kernel
theorem dX0_hasDependence_4 : decode cX0_hasDependence 4 = .ok (.iload_n 1, 1) := by decide +kernel
theorem dX0_hasDependence_5 : decode cX0_hasDependence 5 = .ok (.aload_n 0, 1) := by decide +kernel
theorem dX0_hasDependence_6 : decode cX0_hasDependence 6 = .ok (.getfield 50, 3) := by decide +kernel
theorem dX0_hasDependence_9 : decode cX0_hasDependence 9 = .ok (.if_icmp .ge 7, 3) := by decide +kernel
theorem dX0_hasDependence_12 : decode cX0_hasDependence 12 = .ok (.iconst 1, 1) := by decide +kernel
theorem dX0_hasDependence_13 : decode cX0_hasDependence 13 = .ok (.goto 4, 3) := by decide +kernel
theorem dX0_hasDependence_16 : decode cX0_hasDependence 16 = .ok (.iconst 0, 1) := by decide +kernel
theorem dX0_hasDependence_17 : decode cX0_hasDependence 17 = .ok (.ireturn, 1) := by decide +kernel
theorem dX0_hasIteration_0 : decode cX0_hasIteration 0 = .ok (.iload_n 1, 1) := by decide +kernel
theorem dX0_hasIteration_1 : decode cX0_hasIteration 1 = .ok (.ifCond .lt 17, 3) := by decide +kernel
theorem dX0_hasIteration_4 : decode cX0_hasIteration 4 = .ok (.iload_n 1, 1) := by decide +kernel
theorem dX0_hasIteration_5 : decode cX0_hasIteration 5 = .ok (.aload_n 0, 1) := by decide +kernel
theorem dX0_hasIteration_6 : decode cX0_hasIteration 6 = .ok (.getfield 40, 3) := by decide +kernel
theorem dX0_hasIteration_9 : decode cX0_hasIteration 9 = .ok (.iconst 0, 1) := by decide +kernel
theorem dX0_hasIteration_10 : decode cX0_hasIteration 10 = .ok (.iaload, 1) := by decide +kernel
theorem dX0_hasIteration_11 : decode cX0_hasIteration 11 = .ok (.if_icmp .ge 7, 3) := by decide +kernel
theorem dX0_hasIteration_14 : decode cX0_hasIteration 14 = .ok (.iconst 1, 1) := by decide +kernel
theorem dX0_hasIteration_15 : decode cX0_hasIteration 15 = .ok (.goto 4, 3) := by decide +kernel
theorem dX0_hasIteration_18 : decode cX0_hasIteration 18 = .ok (.iconst 0, 1) := by decide +kernel
theorem dX0_hasIteration_19 : decode cX0_hasIteration 19 = .ok (.ireturn, 1) := by decide +kernel
theorem dX0_costOf_0 : decode cX0_costOf 0 = .ok (.iload_n 1, 1) := by decide +kernel
theorem dX0_costOf_1 : decode cX0_costOf 1 = .ok (.ifCond .lt 21, 3) := by decide +kernel
theorem dX0_costOf_4 : decode cX0_costOf 4 = .ok (.iload_n 1, 1) := by decide +kernel
theorem dX0_costOf_5 : decode cX0_costOf 5 = .ok (.aload_n 0, 1) := by decide +kernel
theorem dX0_costOf_6 : decode cX0_costOf 6 = .ok (.getfield 9, 3) := by decide +kernel
theorem dX0_costOf_9 : decode cX0_costOf 9 = .ok (.arraylength, 1) := by decide +kernel
theorem dX0_costOf_10 : decode cX0_costOf 10 = .ok (.if_icmp .ge 12, 3) := by decide +kernel
theorem dX0_costOf_13 : decode cX0_costOf 13 = .ok (.aload_n 0, 1) := by decide +kernel
theorem dX0_costOf_14 : decode cX0_costOf 14 = .ok (.getfield 9, 3) := by decide +kernel
theorem dX0_costOf_17 : decode cX0_costOf 17 = .ok (.iload_n 1, 1) := by decide +kernel
theorem dX0_costOf_18 : decode cX0_costOf 18 = .ok (.iaload, 1) := by decide +kernel
theorem dX0_costOf_19 : decode cX0_costOf 19 = .ok (.goto 4, 3) := by decide +kernel
theorem dX0_costOf_22 : decode cX0_costOf 22 = .ok (.iconst 0, 1) := by decide +kernel
theorem dX0_costOf_23 : decode cX0_costOf 23 = .ok (.ireturn, 1) := by decide +kernel
theorem dX0_positionOf_0 : decode cX0_positionOf 0 = .ok (.iload_n 1, 1) := by decide +kernel
theorem dX0_positionOf_1 : decode cX0_positionOf 1 = .ok (.ifCond .lt 21, 3) := by decide +kernel
theorem dX0_positionOf_4 : decode cX0_positionOf 4 = .ok (.iload_n 1, 1) := by decide +kernel
theorem dX0_positionOf_5 : decode cX0_positionOf 5 = .ok (.aload_n 0, 1) := by decide +kernel
theorem dX0_positionOf_6 : decode cX0_positionOf 6 = .ok (.getfield 15, 3) := by decide +kernel
theorem dX0_positionOf_9 : decode cX0_positionOf 9 = .ok (.arraylength, 1) := by decide +kernel
theorem dX0_positionOf_10 : decode cX0_positionOf 10 = .ok (.if_icmp .ge 12, 3) := by decide +kernel
theorem dX0_positionOf_13 : decode cX0_positionOf 13 = .ok (.aload_n 0, 1) := by decide +kernel
theorem dX0_positionOf_14 : decode cX0_positionOf 14 = .ok (.getfield 15, 3) := by decide +kernel
theorem dX0_positionOf_17 : decode cX0_positionOf 17 = .ok (.iload_n 1, 1) := by decide +kernel
theorem dX0_positionOf_18 : decode cX0_positionOf 18 = .ok (.iaload, 1) := by decide +kernel
theorem dX0_positionOf_19 : decode cX0_positionOf 19 = .ok (.goto 4, 3) := by decide +kernel
theorem dX0_positionOf_22 : decode cX0_positionOf 22 = .ok (.iconst 0, 1) := by decide +kernel
theorem dX0_positionOf_23 : decode cX0_positionOf 23 = .ok (.ireturn, 1) := by decide +kernel
theorem dX0_statementAt_0 : decode cX0_statementAt 0 = .ok (.iload_n 1, 1) := by decide +kernel
theorem dX0_statementAt_1 : decode cX0_statementAt 1 = .ok (.ifCond .lt 21, 3) := by decide +kernel
theorem dX0_statementAt_4 : decode cX0_statementAt 4 = .ok (.iload_n 1, 1) := by decide +kernel
theorem dX0_statementAt_5 : decode cX0_statementAt 5 = .ok (.aload_n 0, 1) := by decide +kernel
theorem dX0_statementAt_6 : decode cX0_statementAt 6 = .ok (.getfield 18, 3) := by decide +kernel
theorem dX0_statementAt_9 : decode cX0_statementAt 9 = .ok (.arraylength, 1) := by decide +kernel
theorem dX0_statementAt_10 : decode cX0_statementAt 10 = .ok (.if_icmp .ge 12, 3) := by decide +kernel
theorem dX0_statementAt_13 : decode cX0_statementAt 13 = .ok (.aload_n 0, 1) := by decide +kernel
theorem dX0_statementAt_14 : decode cX0_statementAt 14 = .ok (.getfield 18, 3) := by decide +kernel
theorem dX0_statementAt_17 : decode cX0_statementAt 17 = .ok (.iload_n 1, 1) := by decide +kernel
theorem dX0_statementAt_18 : decode cX0_statementAt 18 = .ok (.iaload, 1) := by decide +kernel
theorem dX0_statementAt_19 : decode cX0_statementAt 19 = .ok (.goto 4, 3) := by decide +kernel
theorem dX0_statementAt_22 : decode cX0_statementAt 22 = .ok (.iconst 0, 1) := by decide +kernel
theorem dX0_statementAt_23 : decode cX0_statementAt 23 = .ok (.ireturn, 1) := by decide +kernel
theorem dX0_offsetOf_0 : decode cX0_offsetOf 0 = .ok (.iload_n 1, 1) := by decide +kernel
theorem dX0_offsetOf_1 : decode cX0_offsetOf 1 = .ok (.ifCond .lt 21, 3) := by decide +kernel
theorem dX0_offsetOf_4 : decode cX0_offsetOf 4 = .ok (.iload_n 1, 1) := by decide +kernel
theorem dX0_offsetOf_5 : decode cX0_offsetOf 5 = .ok (.aload_n 0, 1) := by decide +kernel
theorem dX0_offsetOf_6 : decode cX0_offsetOf 6 = .ok (.getfield 21, 3) := by decide +kernel
theorem dX0_offsetOf_9 : decode cX0_offsetOf 9 = .ok (.arraylength, 1) := by decide +kernel
theorem dX0_offsetOf_10 : decode cX0_offsetOf 10 = .ok (.if_icmp .ge 12, 3) := by decide +kernel
theorem dX0_offsetOf_13 : decode cX0_offsetOf 13 = .ok (.aload_n 0, 1) := by decide +kernel
theorem dX0_offsetOf_14 : decode cX0_offsetOf 14 = .ok (.getfield 21, 3) := by decide +kernel
theorem dX0_offsetOf_17 : decode cX0_offsetOf 17 = .ok (.iload_n 1, 1) := by decide +kernel
theorem dX0_offsetOf_18 : decode cX0_offsetOf 18 = .ok (.iaload, 1) := by decide +kernel
theorem dX0_offsetOf_19 : decode cX0_offsetOf 19 = .ok (.goto 4, 3) := by decide +kernel
theorem dX0_offsetOf_22 : decode cX0_offsetOf 22 = .ok (.iconst 0, 1) := by decide +kernel
theorem dX0_offsetOf_23 : decode cX0_offsetOf 23 = .ok (.ireturn, 1) := by decide +kernel
set_option maxRecDepth 20000 in
theorem ggX0_measureOffsets_X0_hasStatement : GoodIn wsX0_measureOffsets wsX0_hasStatement := goodIn_r _ [9, 1, 10, 11, 12, 13, 14, 15, 16, 17, 18, 19, 20, 21] (by decide +kernel) (by decide +kernel)
set_option maxRecDepth 20000 in
theorem gX0_measureOffsets_X0_hasStatement : GoodIn wsX0_measureOffsets (wsV RX0 57 RX0 yX0_hasStatement wsX0_hasStatement) := goodIn_app (goodIn_of _ (by decide +kernel)) ggX0_measureOffsets_X0_hasStatement
theorem dX0_measureOffsets_0 : decode cX0_measureOffsets 0 = .ok (.iconst 0, 1) := by decide +kernel
theorem dX0_measureOffsets_1 : decode cX0_measureOffsets 1 = .ok (.istore_n 1, 1) := by decide +kernel
theorem dX0_measureOffsets_2 : decode cX0_measureOffsets 2 = .ok (.iconst 0, 1) := by decide +kernel
theorem dX0_measureOffsets_3 : decode cX0_measureOffsets 3 = .ok (.istore_n 2, 1) := by decide +kernel
theorem dX0_measureOffsets_4 : decode cX0_measureOffsets 4 = .ok (.iload_n 2, 1) := by decide +kernel
theorem dX0_measureOffsets_5 : decode cX0_measureOffsets 5 = .ok (.aload_n 0, 1) := by decide +kernel
theorem dX0_measureOffsets_6 : decode cX0_measureOffsets 6 = .ok (.getfield 46, 3) := by decide +kernel
theorem dX0_measureOffsets_9 : decode cX0_measureOffsets 9 = .ok (.if_icmp .ge 40, 3) := by decide +kernel
theorem dX0_measureOffsets_12 : decode cX0_measureOffsets 12 = .ok (.aload_n 0, 1) := by decide +kernel
theorem dX0_measureOffsets_13 : decode cX0_measureOffsets 13 = .ok (.getfield 18, 3) := by decide +kernel
theorem dX0_measureOffsets_16 : decode cX0_measureOffsets 16 = .ok (.iload_n 2, 1) := by decide +kernel
theorem dX0_measureOffsets_17 : decode cX0_measureOffsets 17 = .ok (.iaload, 1) := by decide +kernel
theorem dX0_measureOffsets_18 : decode cX0_measureOffsets 18 = .ok (.istore_n 3, 1) := by decide +kernel
theorem dX0_measureOffsets_19 : decode cX0_measureOffsets 19 = .ok (.aload_n 0, 1) := by decide +kernel
theorem dX0_measureOffsets_20 : decode cX0_measureOffsets 20 = .ok (.iload_n 3, 1) := by decide +kernel
theorem dX0_measureOffsets_21 : decode cX0_measureOffsets 21 = .ok (.invokevirtual 57, 3) := by decide +kernel
theorem dX0_measureOffsets_24 : decode cX0_measureOffsets 24 = .ok (.ifCond .eq 19, 3) := by decide +kernel
theorem dX0_measureOffsets_27 : decode cX0_measureOffsets 27 = .ok (.aload_n 0, 1) := by decide +kernel
theorem dX0_measureOffsets_28 : decode cX0_measureOffsets 28 = .ok (.getfield 21, 3) := by decide +kernel
theorem dX0_measureOffsets_31 : decode cX0_measureOffsets 31 = .ok (.iload_n 3, 1) := by decide +kernel
theorem dX0_measureOffsets_32 : decode cX0_measureOffsets 32 = .ok (.iload_n 1, 1) := by decide +kernel
theorem dX0_measureOffsets_33 : decode cX0_measureOffsets 33 = .ok (.iastore, 1) := by decide +kernel
theorem dX0_measureOffsets_34 : decode cX0_measureOffsets 34 = .ok (.iload_n 1, 1) := by decide +kernel
theorem dX0_measureOffsets_35 : decode cX0_measureOffsets 35 = .ok (.aload_n 0, 1) := by decide +kernel
theorem dX0_measureOffsets_36 : decode cX0_measureOffsets 36 = .ok (.getfield 9, 3) := by decide +kernel
theorem dX0_measureOffsets_39 : decode cX0_measureOffsets 39 = .ok (.iload_n 3, 1) := by decide +kernel
theorem dX0_measureOffsets_40 : decode cX0_measureOffsets 40 = .ok (.iaload, 1) := by decide +kernel
theorem dX0_measureOffsets_41 : decode cX0_measureOffsets 41 = .ok (.iadd, 1) := by decide +kernel
theorem dX0_measureOffsets_42 : decode cX0_measureOffsets 42 = .ok (.istore_n 1, 1) := by decide +kernel
theorem dX0_measureOffsets_43 : decode cX0_measureOffsets 43 = .ok (.iinc 2 1, 3) := by decide +kernel
theorem dX0_measureOffsets_46 : decode cX0_measureOffsets 46 = .ok (.goto (-42), 3) := by decide +kernel
theorem dX0_measureOffsets_49 : decode cX0_measureOffsets 49 = .ok (.return_, 1) := by decide +kernel
theorem dX0_sumOfCosts_0 : decode cX0_sumOfCosts 0 = .ok (.iconst 0, 1) := by decide +kernel
theorem dX0_sumOfCosts_1 : decode cX0_sumOfCosts 1 = .ok (.istore_n 1, 1) := by decide +kernel
theorem dX0_sumOfCosts_2 : decode cX0_sumOfCosts 2 = .ok (.iconst 0, 1) := by decide +kernel
theorem dX0_sumOfCosts_3 : decode cX0_sumOfCosts 3 = .ok (.istore_n 2, 1) := by decide +kernel
theorem dX0_sumOfCosts_4 : decode cX0_sumOfCosts 4 = .ok (.iload_n 2, 1) := by decide +kernel
theorem dX0_sumOfCosts_5 : decode cX0_sumOfCosts 5 = .ok (.aload_n 0, 1) := by decide +kernel
theorem dX0_sumOfCosts_6 : decode cX0_sumOfCosts 6 = .ok (.getfield 46, 3) := by decide +kernel
theorem dX0_sumOfCosts_9 : decode cX0_sumOfCosts 9 = .ok (.if_icmp .ge 18, 3) := by decide +kernel
theorem dX0_sumOfCosts_12 : decode cX0_sumOfCosts 12 = .ok (.iload_n 1, 1) := by decide +kernel
theorem dX0_sumOfCosts_13 : decode cX0_sumOfCosts 13 = .ok (.aload_n 0, 1) := by decide +kernel
theorem dX0_sumOfCosts_14 : decode cX0_sumOfCosts 14 = .ok (.getfield 9, 3) := by decide +kernel
theorem dX0_sumOfCosts_17 : decode cX0_sumOfCosts 17 = .ok (.iload_n 2, 1) := by decide +kernel
theorem dX0_sumOfCosts_18 : decode cX0_sumOfCosts 18 = .ok (.iaload, 1) := by decide +kernel
theorem dX0_sumOfCosts_19 : decode cX0_sumOfCosts 19 = .ok (.iadd, 1) := by decide +kernel
theorem dX0_sumOfCosts_20 : decode cX0_sumOfCosts 20 = .ok (.istore_n 1, 1) := by decide +kernel
theorem dX0_sumOfCosts_21 : decode cX0_sumOfCosts 21 = .ok (.iinc 2 1, 3) := by decide +kernel
theorem dX0_sumOfCosts_24 : decode cX0_sumOfCosts 24 = .ok (.goto (-20), 3) := by decide +kernel
theorem dX0_sumOfCosts_27 : decode cX0_sumOfCosts 27 = .ok (.iload_n 1, 1) := by decide +kernel
theorem dX0_sumOfCosts_28 : decode cX0_sumOfCosts 28 = .ok (.ireturn, 1) := by decide +kernel
theorem dX0_addStatement_0 : decode cX0_addStatement 0 = .ok (.aload_n 0, 1) := by decide +kernel
theorem dX0_addStatement_1 : decode cX0_addStatement 1 = .ok (.getfield 46, 3) := by decide +kernel
theorem dX0_addStatement_4 : decode cX0_addStatement 4 = .ok (.bipush 8, 2) := by decide +kernel
theorem dX0_addStatement_6 : decode cX0_addStatement 6 = .ok (.if_icmp .ge 49, 3) := by decide +kernel
theorem dX0_addStatement_9 : decode cX0_addStatement 9 = .ok (.aload_n 0, 1) := by decide +kernel
theorem dX0_addStatement_10 : decode cX0_addStatement 10 = .ok (.getfield 9, 3) := by decide +kernel
theorem dX0_addStatement_13 : decode cX0_addStatement 13 = .ok (.aload_n 0, 1) := by decide +kernel
theorem dX0_addStatement_14 : decode cX0_addStatement 14 = .ok (.getfield 46, 3) := by decide +kernel
theorem dX0_addStatement_17 : decode cX0_addStatement 17 = .ok (.iload_n 1, 1) := by decide +kernel
theorem dX0_addStatement_18 : decode cX0_addStatement 18 = .ok (.iastore, 1) := by decide +kernel
theorem dX0_addStatement_19 : decode cX0_addStatement 19 = .ok (.aload_n 0, 1) := by decide +kernel
theorem dX0_addStatement_20 : decode cX0_addStatement 20 = .ok (.getfield 15, 3) := by decide +kernel
theorem dX0_addStatement_23 : decode cX0_addStatement 23 = .ok (.aload_n 0, 1) := by decide +kernel
theorem dX0_addStatement_24 : decode cX0_addStatement 24 = .ok (.getfield 46, 3) := by decide +kernel
theorem dX0_addStatement_27 : decode cX0_addStatement 27 = .ok (.aload_n 0, 1) := by decide +kernel
theorem dX0_addStatement_28 : decode cX0_addStatement 28 = .ok (.getfield 46, 3) := by decide +kernel
theorem dX0_addStatement_31 : decode cX0_addStatement 31 = .ok (.iastore, 1) := by decide +kernel
theorem dX0_addStatement_32 : decode cX0_addStatement 32 = .ok (.aload_n 0, 1) := by decide +kernel
theorem dX0_addStatement_33 : decode cX0_addStatement 33 = .ok (.getfield 18, 3) := by decide +kernel
theorem dX0_addStatement_36 : decode cX0_addStatement 36 = .ok (.aload_n 0, 1) := by decide +kernel
theorem dX0_addStatement_37 : decode cX0_addStatement 37 = .ok (.getfield 46, 3) := by decide +kernel
theorem dX0_addStatement_40 : decode cX0_addStatement 40 = .ok (.aload_n 0, 1) := by decide +kernel
theorem dX0_addStatement_41 : decode cX0_addStatement 41 = .ok (.getfield 46, 3) := by decide +kernel
theorem dX0_addStatement_44 : decode cX0_addStatement 44 = .ok (.iastore, 1) := by decide +kernel
theorem dX0_addStatement_45 : decode cX0_addStatement 45 = .ok (.aload_n 0, 1) := by decide +kernel
theorem dX0_addStatement_46 : decode cX0_addStatement 46 = .ok (.dup, 1) := by decide +kernel
theorem dX0_addStatement_47 : decode cX0_addStatement 47 = .ok (.getfield 46, 3) := by decide +kernel
theorem dX0_addStatement_50 : decode cX0_addStatement 50 = .ok (.iconst 1, 1) := by decide +kernel
theorem dX0_addStatement_51 : decode cX0_addStatement 51 = .ok (.iadd, 1) := by decide +kernel
theorem dX0_addStatement_52 : decode cX0_addStatement 52 = .ok (.putfield 46, 3) := by decide +kernel
theorem dX0_addStatement_55 : decode cX0_addStatement 55 = .ok (.return_, 1) := by decide +kernel
theorem dX0_addDependence_0 : decode cX0_addDependence 0 = .ok (.aload_n 0, 1) := by decide +kernel
theorem dX0_addDependence_1 : decode cX0_addDependence 1 = .ok (.getfield 50, 3) := by decide +kernel
theorem dX0_addDependence_4 : decode cX0_addDependence 4 = .ok (.bipush 16, 2) := by decide +kernel
theorem dX0_addDependence_6 : decode cX0_addDependence 6 = .ok (.if_icmp .ge 64, 3) := by decide +kernel
theorem dX0_addDependence_9 : decode cX0_addDependence 9 = .ok (.aload_n 0, 1) := by decide +kernel
theorem dX0_addDependence_10 : decode cX0_addDependence 10 = .ok (.getfield 24, 3) := by decide +kernel
theorem dX0_addDependence_13 : decode cX0_addDependence 13 = .ok (.aload_n 0, 1) := by decide +kernel
theorem dX0_addDependence_14 : decode cX0_addDependence 14 = .ok (.getfield 50, 3) := by decide +kernel
theorem dX0_addDependence_17 : decode cX0_addDependence 17 = .ok (.iload_n 1, 1) := by decide +kernel
theorem dX0_addDependence_18 : decode cX0_addDependence 18 = .ok (.iastore, 1) := by decide +kernel
theorem dX0_addDependence_19 : decode cX0_addDependence 19 = .ok (.aload_n 0, 1) := by decide +kernel
theorem dX0_addDependence_20 : decode cX0_addDependence 20 = .ok (.getfield 27, 3) := by decide +kernel
theorem dX0_addDependence_23 : decode cX0_addDependence 23 = .ok (.aload_n 0, 1) := by decide +kernel
theorem dX0_addDependence_24 : decode cX0_addDependence 24 = .ok (.getfield 50, 3) := by decide +kernel
theorem dX0_addDependence_27 : decode cX0_addDependence 27 = .ok (.iload_n 2, 1) := by decide +kernel
theorem dX0_addDependence_28 : decode cX0_addDependence 28 = .ok (.iastore, 1) := by decide +kernel
theorem dX0_addDependence_29 : decode cX0_addDependence 29 = .ok (.aload_n 0, 1) := by decide +kernel
theorem dX0_addDependence_30 : decode cX0_addDependence 30 = .ok (.getfield 30, 3) := by decide +kernel
theorem dX0_addDependence_33 : decode cX0_addDependence 33 = .ok (.aload_n 0, 1) := by decide +kernel
theorem dX0_addDependence_34 : decode cX0_addDependence 34 = .ok (.getfield 50, 3) := by decide +kernel
theorem dX0_addDependence_37 : decode cX0_addDependence 37 = .ok (.iload_n 3, 1) := by decide +kernel
theorem dX0_addDependence_38 : decode cX0_addDependence 38 = .ok (.iastore, 1) := by decide +kernel
theorem dX0_addDependence_39 : decode cX0_addDependence 39 = .ok (.aload_n 0, 1) := by decide +kernel
theorem dX0_addDependence_40 : decode cX0_addDependence 40 = .ok (.getfield 33, 3) := by decide +kernel
theorem dX0_addDependence_43 : decode cX0_addDependence 43 = .ok (.aload_n 0, 1) := by decide +kernel
theorem dX0_addDependence_44 : decode cX0_addDependence 44 = .ok (.getfield 50, 3) := by decide +kernel
theorem dX0_addDependence_47 : decode cX0_addDependence 47 = .ok (.iload 4, 2) := by decide +kernel
theorem dX0_addDependence_49 : decode cX0_addDependence 49 = .ok (.iastore, 1) := by decide +kernel
theorem dX0_addDependence_50 : decode cX0_addDependence 50 = .ok (.aload_n 0, 1) := by decide +kernel
theorem dX0_addDependence_51 : decode cX0_addDependence 51 = .ok (.getfield 36, 3) := by decide +kernel
theorem dX0_addDependence_54 : decode cX0_addDependence 54 = .ok (.aload_n 0, 1) := by decide +kernel
theorem dX0_addDependence_55 : decode cX0_addDependence 55 = .ok (.getfield 50, 3) := by decide +kernel
theorem dX0_addDependence_58 : decode cX0_addDependence 58 = .ok (.iconst 1, 1) := by decide +kernel
theorem dX0_addDependence_59 : decode cX0_addDependence 59 = .ok (.bastore, 1) := by decide +kernel
theorem dX0_addDependence_60 : decode cX0_addDependence 60 = .ok (.aload_n 0, 1) := by decide +kernel
theorem dX0_addDependence_61 : decode cX0_addDependence 61 = .ok (.dup, 1) := by decide +kernel
theorem dX0_addDependence_62 : decode cX0_addDependence 62 = .ok (.getfield 50, 3) := by decide +kernel
theorem dX0_addDependence_65 : decode cX0_addDependence 65 = .ok (.iconst 1, 1) := by decide +kernel
theorem dX0_addDependence_66 : decode cX0_addDependence 66 = .ok (.iadd, 1) := by decide +kernel
theorem dX0_addDependence_67 : decode cX0_addDependence 67 = .ok (.putfield 50, 3) := by decide +kernel
theorem dX0_addDependence_70 : decode cX0_addDependence 70 = .ok (.return_, 1) := by decide +kernel
set_option maxRecDepth 20000 in
theorem ggX0_dropDependence_X0_hasDependence : GoodIn wsX0_dropDependence wsX0_hasDependence := goodIn_r _ [6, 1, 16, 17, 18, 19, 20, 21, 22, 23, 24, 25, 26, 27] (by decide +kernel) (by decide +kernel)
set_option maxRecDepth 20000 in
theorem gX0_dropDependence_X0_hasDependence : GoodIn wsX0_dropDependence (wsV RX0 61 RX0 yX0_hasDependence wsX0_hasDependence) := goodIn_app (goodIn_of _ (by decide +kernel)) ggX0_dropDependence_X0_hasDependence
set_option maxRecDepth 20000 in
theorem ggX0_dropDependence_X0_copyDependence : GoodIn wsX0_dropDependence wsX0_copyDependence := goodIn_r _ [10, 11, 12, 13, 14, 15, 16, 17, 18, 19, 20, 21, 22, 23, 24, 25, 26, 27] (by decide +kernel) (by decide +kernel)
set_option maxRecDepth 20000 in
theorem gX0_dropDependence_X0_copyDependence : GoodIn wsX0_dropDependence (wsV RX0 53 RX0 yX0_copyDependence wsX0_copyDependence) := goodIn_app (goodIn_of _ (by decide +kernel)) ggX0_dropDependence_X0_copyDependence
theorem dX0_dropDependence_0 : decode cX0_dropDependence 0 = .ok (.aload_n 0, 1) := by decide +kernel
theorem dX0_dropDependence_1 : decode cX0_dropDependence 1 = .ok (.iload_n 1, 1) := by decide +kernel
theorem dX0_dropDependence_2 : decode cX0_dropDependence 2 = .ok (.invokevirtual 61, 3) := by decide +kernel
theorem dX0_dropDependence_5 : decode cX0_dropDependence 5 = .ok (.ifCond .eq 38, 3) := by decide +kernel
theorem dX0_dropDependence_8 : decode cX0_dropDependence 8 = .ok (.aload_n 0, 1) := by decide +kernel
theorem dX0_dropDependence_9 : decode cX0_dropDependence 9 = .ok (.dup, 1) := by decide +kernel
theorem dX0_dropDependence_10 : decode cX0_dropDependence 10 = .ok (.getfield 50, 3) := by decide +kernel
theorem dX0_dropDependence_13 : decode cX0_dropDependence 13 = .ok (.iconst 1, 1) := by decide +kernel
theorem dX0_dropDependence_14 : decode cX0_dropDependence 14 = .ok (.isub, 1) := by decide +kernel
theorem dX0_dropDependence_15 : decode cX0_dropDependence 15 = .ok (.putfield 50, 3) := by decide +kernel
theorem dX0_dropDependence_18 : decode cX0_dropDependence 18 = .ok (.iload_n 1, 1) := by decide +kernel
theorem dX0_dropDependence_19 : decode cX0_dropDependence 19 = .ok (.istore_n 2, 1) := by decide +kernel
theorem dX0_dropDependence_20 : decode cX0_dropDependence 20 = .ok (.iload_n 2, 1) := by decide +kernel
theorem dX0_dropDependence_21 : decode cX0_dropDependence 21 = .ok (.aload_n 0, 1) := by decide +kernel
theorem dX0_dropDependence_22 : decode cX0_dropDependence 22 = .ok (.getfield 50, 3) := by decide +kernel
theorem dX0_dropDependence_25 : decode cX0_dropDependence 25 = .ok (.if_icmp .ge 18, 3) := by decide +kernel
theorem dX0_dropDependence_28 : decode cX0_dropDependence 28 = .ok (.aload_n 0, 1) := by decide +kernel
theorem dX0_dropDependence_29 : decode cX0_dropDependence 29 = .ok (.aload_n 0, 1) := by decide +kernel
theorem dX0_dropDependence_30 : decode cX0_dropDependence 30 = .ok (.iload_n 2, 1) := by decide +kernel
theorem dX0_dropDependence_31 : decode cX0_dropDependence 31 = .ok (.iconst 1, 1) := by decide +kernel
theorem dX0_dropDependence_32 : decode cX0_dropDependence 32 = .ok (.iadd, 1) := by decide +kernel
theorem dX0_dropDependence_33 : decode cX0_dropDependence 33 = .ok (.iload_n 2, 1) := by decide +kernel
theorem dX0_dropDependence_34 : decode cX0_dropDependence 34 = .ok (.invokevirtual 53, 3) := by decide +kernel
theorem dX0_dropDependence_37 : decode cX0_dropDependence 37 = .ok (.iinc 2 1, 3) := by decide +kernel
theorem dX0_dropDependence_40 : decode cX0_dropDependence 40 = .ok (.goto (-20), 3) := by decide +kernel
theorem dX0_dropDependence_43 : decode cX0_dropDependence 43 = .ok (.return_, 1) := by decide +kernel
theorem dX0_copyDependence_0 : decode cX0_copyDependence 0 = .ok (.iload_n 2, 1) := by decide +kernel
theorem dX0_copyDependence_1 : decode cX0_copyDependence 1 = .ok (.ifCond .lt 79, 3) := by decide +kernel
theorem dX0_copyDependence_4 : decode cX0_copyDependence 4 = .ok (.iload_n 2, 1) := by decide +kernel
theorem dX0_copyDependence_5 : decode cX0_copyDependence 5 = .ok (.bipush 16, 2) := by decide +kernel
theorem dX0_copyDependence_7 : decode cX0_copyDependence 7 = .ok (.if_icmp .ge 73, 3) := by decide +kernel
theorem dX0_copyDependence_10 : decode cX0_copyDependence 10 = .ok (.iload_n 3, 1) := by decide +kernel
theorem dX0_copyDependence_11 : decode cX0_copyDependence 11 = .ok (.ifCond .lt 69, 3) := by decide +kernel
theorem dX0_copyDependence_14 : decode cX0_copyDependence 14 = .ok (.iload_n 3, 1) := by decide +kernel
theorem dX0_copyDependence_15 : decode cX0_copyDependence 15 = .ok (.bipush 16, 2) := by decide +kernel
theorem dX0_copyDependence_17 : decode cX0_copyDependence 17 = .ok (.if_icmp .ge 63, 3) := by decide +kernel
theorem dX0_copyDependence_20 : decode cX0_copyDependence 20 = .ok (.aload_n 0, 1) := by decide +kernel
theorem dX0_copyDependence_21 : decode cX0_copyDependence 21 = .ok (.getfield 24, 3) := by decide +kernel
theorem dX0_copyDependence_24 : decode cX0_copyDependence 24 = .ok (.iload_n 3, 1) := by decide +kernel
theorem dX0_copyDependence_25 : decode cX0_copyDependence 25 = .ok (.aload_n 1, 1) := by decide +kernel
theorem dX0_copyDependence_26 : decode cX0_copyDependence 26 = .ok (.getfield 24, 3) := by decide +kernel
theorem dX0_copyDependence_29 : decode cX0_copyDependence 29 = .ok (.iload_n 2, 1) := by decide +kernel
theorem dX0_copyDependence_30 : decode cX0_copyDependence 30 = .ok (.iaload, 1) := by decide +kernel
theorem dX0_copyDependence_31 : decode cX0_copyDependence 31 = .ok (.iastore, 1) := by decide +kernel
theorem dX0_copyDependence_32 : decode cX0_copyDependence 32 = .ok (.aload_n 0, 1) := by decide +kernel
theorem dX0_copyDependence_33 : decode cX0_copyDependence 33 = .ok (.getfield 27, 3) := by decide +kernel
theorem dX0_copyDependence_36 : decode cX0_copyDependence 36 = .ok (.iload_n 3, 1) := by decide +kernel
theorem dX0_copyDependence_37 : decode cX0_copyDependence 37 = .ok (.aload_n 1, 1) := by decide +kernel
theorem dX0_copyDependence_38 : decode cX0_copyDependence 38 = .ok (.getfield 27, 3) := by decide +kernel
theorem dX0_copyDependence_41 : decode cX0_copyDependence 41 = .ok (.iload_n 2, 1) := by decide +kernel
theorem dX0_copyDependence_42 : decode cX0_copyDependence 42 = .ok (.iaload, 1) := by decide +kernel
theorem dX0_copyDependence_43 : decode cX0_copyDependence 43 = .ok (.iastore, 1) := by decide +kernel
theorem dX0_copyDependence_44 : decode cX0_copyDependence 44 = .ok (.aload_n 0, 1) := by decide +kernel
theorem dX0_copyDependence_45 : decode cX0_copyDependence 45 = .ok (.getfield 30, 3) := by decide +kernel
theorem dX0_copyDependence_48 : decode cX0_copyDependence 48 = .ok (.iload_n 3, 1) := by decide +kernel
theorem dX0_copyDependence_49 : decode cX0_copyDependence 49 = .ok (.aload_n 1, 1) := by decide +kernel
theorem dX0_copyDependence_50 : decode cX0_copyDependence 50 = .ok (.getfield 30, 3) := by decide +kernel
theorem dX0_copyDependence_53 : decode cX0_copyDependence 53 = .ok (.iload_n 2, 1) := by decide +kernel
theorem dX0_copyDependence_54 : decode cX0_copyDependence 54 = .ok (.iaload, 1) := by decide +kernel
theorem dX0_copyDependence_55 : decode cX0_copyDependence 55 = .ok (.iastore, 1) := by decide +kernel
theorem dX0_copyDependence_56 : decode cX0_copyDependence 56 = .ok (.aload_n 0, 1) := by decide +kernel
theorem dX0_copyDependence_57 : decode cX0_copyDependence 57 = .ok (.getfield 33, 3) := by decide +kernel
theorem dX0_copyDependence_60 : decode cX0_copyDependence 60 = .ok (.iload_n 3, 1) := by decide +kernel
theorem dX0_copyDependence_61 : decode cX0_copyDependence 61 = .ok (.aload_n 1, 1) := by decide +kernel
theorem dX0_copyDependence_62 : decode cX0_copyDependence 62 = .ok (.getfield 33, 3) := by decide +kernel
theorem dX0_copyDependence_65 : decode cX0_copyDependence 65 = .ok (.iload_n 2, 1) := by decide +kernel
theorem dX0_copyDependence_66 : decode cX0_copyDependence 66 = .ok (.iaload, 1) := by decide +kernel
theorem dX0_copyDependence_67 : decode cX0_copyDependence 67 = .ok (.iastore, 1) := by decide +kernel
theorem dX0_copyDependence_68 : decode cX0_copyDependence 68 = .ok (.aload_n 0, 1) := by decide +kernel
theorem dX0_copyDependence_69 : decode cX0_copyDependence 69 = .ok (.getfield 36, 3) := by decide +kernel
theorem dX0_copyDependence_72 : decode cX0_copyDependence 72 = .ok (.iload_n 3, 1) := by decide +kernel
theorem dX0_copyDependence_73 : decode cX0_copyDependence 73 = .ok (.aload_n 1, 1) := by decide +kernel
theorem dX0_copyDependence_74 : decode cX0_copyDependence 74 = .ok (.getfield 36, 3) := by decide +kernel
theorem dX0_copyDependence_77 : decode cX0_copyDependence 77 = .ok (.iload_n 2, 1) := by decide +kernel
theorem dX0_copyDependence_78 : decode cX0_copyDependence 78 = .ok (.baload, 1) := by decide +kernel
theorem dX0_copyDependence_79 : decode cX0_copyDependence 79 = .ok (.bastore, 1) := by decide +kernel
theorem dX0_copyDependence_80 : decode cX0_copyDependence 80 = .ok (.return_, 1) := by decide +kernel
set_option maxRecDepth 20000 in
theorem ggX0_place_X0_hasStatement : GoodIn wsX0_place wsX0_hasStatement := goodIn_r _ [7, 8, 13, 14, 15, 16, 17, 18, 19, 20, 21, 22, 23, 24] (by decide +kernel) (by decide +kernel)
set_option maxRecDepth 20000 in
theorem gX0_place_X0_hasStatement : GoodIn wsX0_place (wsV RX0 57 RX0 yX0_hasStatement wsX0_hasStatement) := goodIn_app (goodIn_of _ (by decide +kernel)) ggX0_place_X0_hasStatement
set_option maxRecDepth 20000 in
theorem ggX0_place_X0_hasPosition : GoodIn wsX0_place wsX0_hasPosition := goodIn_r _ [12, 8, 13, 14, 15, 16, 17, 18, 19, 20, 21, 22, 23, 24] (by decide +kernel) (by decide +kernel)
set_option maxRecDepth 20000 in
theorem gX0_place_X0_hasPosition : GoodIn wsX0_place (wsV RX0 64 RX0 yX0_hasPosition wsX0_hasPosition) := goodIn_app (goodIn_of _ (by decide +kernel)) ggX0_place_X0_hasPosition
theorem dX0_place_0 : decode cX0_place 0 = .ok (.aload_n 0, 1) := by decide +kernel
theorem dX0_place_1 : decode cX0_place 1 = .ok (.iload_n 1, 1) := by decide +kernel
theorem dX0_place_2 : decode cX0_place 2 = .ok (.invokevirtual 57, 3) := by decide +kernel
theorem dX0_place_5 : decode cX0_place 5 = .ok (.ifCond .eq 25, 3) := by decide +kernel
theorem dX0_place_8 : decode cX0_place 8 = .ok (.aload_n 0, 1) := by decide +kernel
theorem dX0_place_9 : decode cX0_place 9 = .ok (.iload_n 2, 1) := by decide +kernel
theorem dX0_place_10 : decode cX0_place 10 = .ok (.invokevirtual 64, 3) := by decide +kernel
theorem dX0_place_13 : decode cX0_place 13 = .ok (.ifCond .eq 17, 3) := by decide +kernel
theorem dX0_place_16 : decode cX0_place 16 = .ok (.aload_n 0, 1) := by decide +kernel
theorem dX0_place_17 : decode cX0_place 17 = .ok (.getfield 18, 3) := by decide +kernel
theorem dX0_place_20 : decode cX0_place 20 = .ok (.iload_n 2, 1) := by decide +kernel
theorem dX0_place_21 : decode cX0_place 21 = .ok (.iload_n 1, 1) := by decide +kernel
theorem dX0_place_22 : decode cX0_place 22 = .ok (.iastore, 1) := by decide +kernel
theorem dX0_place_23 : decode cX0_place 23 = .ok (.aload_n 0, 1) := by decide +kernel
theorem dX0_place_24 : decode cX0_place 24 = .ok (.getfield 15, 3) := by decide +kernel
theorem dX0_place_27 : decode cX0_place 27 = .ok (.iload_n 1, 1) := by decide +kernel
theorem dX0_place_28 : decode cX0_place 28 = .ok (.iload_n 2, 1) := by decide +kernel
theorem dX0_place_29 : decode cX0_place 29 = .ok (.iastore, 1) := by decide +kernel
theorem dX0_place_30 : decode cX0_place 30 = .ok (.return_, 1) := by decide +kernel
set_option maxRecDepth 20000 in
theorem ggX0_swap_X0_statementAt : GoodIn wsX0_swap wsX0_statementAt := goodIn_r _ [5, 6, 21, 22, 23, 24, 25, 26, 27, 28, 29, 30, 31, 32] (by decide +kernel) (by decide +kernel)
set_option maxRecDepth 20000 in
theorem gX0_swap_X0_statementAt : GoodIn wsX0_swap (wsV RX0 67 RX0 yX0_statementAt wsX0_statementAt) := goodIn_app (goodIn_of _ (by decide +kernel)) ggX0_swap_X0_statementAt
set_option maxRecDepth 20000 in
theorem ggX0_swap_X0_place : GoodIn wsX0_swap wsX0_place := goodIn_r _ [10, 6, 11, 12, 13, 14, 4, 15, 16, 17, 18, 19, 20, 21, 22, 23, 24, 25, 26, 27, 28, 29, 30, 31, 32] (by decide +kernel) (by decide +kernel)
set_option maxRecDepth 20000 in
theorem gX0_swap_X0_place : GoodIn wsX0_swap (wsV RX0 71 RX0 yX0_place wsX0_place) := goodIn_app (goodIn_of _ (by decide +kernel)) ggX0_swap_X0_place
theorem dX0_swap_0 : decode cX0_swap 0 = .ok (.aload_n 0, 1) := by decide +kernel
theorem dX0_swap_1 : decode cX0_swap 1 = .ok (.iload_n 1, 1) := by decide +kernel
theorem dX0_swap_2 : decode cX0_swap 2 = .ok (.invokevirtual 67, 3) := by decide +kernel
theorem dX0_swap_5 : decode cX0_swap 5 = .ok (.istore_n 3, 1) := by decide +kernel
theorem dX0_swap_6 : decode cX0_swap 6 = .ok (.aload_n 0, 1) := by decide +kernel
theorem dX0_swap_7 : decode cX0_swap 7 = .ok (.iload_n 2, 1) := by decide +kernel
theorem dX0_swap_8 : decode cX0_swap 8 = .ok (.invokevirtual 67, 3) := by decide +kernel
theorem dX0_swap_11 : decode cX0_swap 11 = .ok (.istore 4, 2) := by decide +kernel
theorem dX0_swap_13 : decode cX0_swap 13 = .ok (.aload_n 0, 1) := by decide +kernel
theorem dX0_swap_14 : decode cX0_swap 14 = .ok (.iload 4, 2) := by decide +kernel
theorem dX0_swap_16 : decode cX0_swap 16 = .ok (.iload_n 1, 1) := by decide +kernel
theorem dX0_swap_17 : decode cX0_swap 17 = .ok (.invokevirtual 71, 3) := by decide +kernel
theorem dX0_swap_20 : decode cX0_swap 20 = .ok (.aload_n 0, 1) := by decide +kernel
theorem dX0_swap_21 : decode cX0_swap 21 = .ok (.iload_n 3, 1) := by decide +kernel
theorem dX0_swap_22 : decode cX0_swap 22 = .ok (.iload_n 2, 1) := by decide +kernel
theorem dX0_swap_23 : decode cX0_swap 23 = .ok (.invokevirtual 71, 3) := by decide +kernel
theorem dX0_swap_26 : decode cX0_swap 26 = .ok (.return_, 1) := by decide +kernel
theorem dX0_isOrdered_0 : decode cX0_isOrdered 0 = .ok (.iconst 0, 1) := by decide +kernel
theorem dX0_isOrdered_1 : decode cX0_isOrdered 1 = .ok (.istore_n 3, 1) := by decide +kernel
theorem dX0_isOrdered_2 : decode cX0_isOrdered 2 = .ok (.iload_n 3, 1) := by decide +kernel
theorem dX0_isOrdered_3 : decode cX0_isOrdered 3 = .ok (.aload_n 0, 1) := by decide +kernel
theorem dX0_isOrdered_4 : decode cX0_isOrdered 4 = .ok (.getfield 50, 3) := by decide +kernel
theorem dX0_isOrdered_7 : decode cX0_isOrdered 7 = .ok (.if_icmp .ge 40, 3) := by decide +kernel
theorem dX0_isOrdered_10 : decode cX0_isOrdered 10 = .ok (.aload_n 0, 1) := by decide +kernel
theorem dX0_isOrdered_11 : decode cX0_isOrdered 11 = .ok (.getfield 33, 3) := by decide +kernel
theorem dX0_isOrdered_14 : decode cX0_isOrdered 14 = .ok (.iload_n 3, 1) := by decide +kernel
theorem dX0_isOrdered_15 : decode cX0_isOrdered 15 = .ok (.iaload, 1) := by decide +kernel
theorem dX0_isOrdered_16 : decode cX0_isOrdered 16 = .ok (.ifCond .ne 25, 3) := by decide +kernel
theorem dX0_isOrdered_19 : decode cX0_isOrdered 19 = .ok (.aload_n 0, 1) := by decide +kernel
theorem dX0_isOrdered_20 : decode cX0_isOrdered 20 = .ok (.getfield 27, 3) := by decide +kernel
theorem dX0_isOrdered_23 : decode cX0_isOrdered 23 = .ok (.iload_n 3, 1) := by decide +kernel
theorem dX0_isOrdered_24 : decode cX0_isOrdered 24 = .ok (.iaload, 1) := by decide +kernel
theorem dX0_isOrdered_25 : decode cX0_isOrdered 25 = .ok (.iload_n 1, 1) := by decide +kernel
theorem dX0_isOrdered_26 : decode cX0_isOrdered 26 = .ok (.if_icmp .ne 15, 3) := by decide +kernel
theorem dX0_isOrdered_29 : decode cX0_isOrdered 29 = .ok (.aload_n 0, 1) := by decide +kernel
theorem dX0_isOrdered_30 : decode cX0_isOrdered 30 = .ok (.getfield 30, 3) := by decide +kernel
theorem dX0_isOrdered_33 : decode cX0_isOrdered 33 = .ok (.iload_n 3, 1) := by decide +kernel
theorem dX0_isOrdered_34 : decode cX0_isOrdered 34 = .ok (.iaload, 1) := by decide +kernel
theorem dX0_isOrdered_35 : decode cX0_isOrdered 35 = .ok (.iload_n 2, 1) := by decide +kernel
theorem dX0_isOrdered_36 : decode cX0_isOrdered 36 = .ok (.if_icmp .ne 5, 3) := by decide +kernel
theorem dX0_isOrdered_39 : decode cX0_isOrdered 39 = .ok (.iconst 1, 1) := by decide +kernel
theorem dX0_isOrdered_40 : decode cX0_isOrdered 40 = .ok (.ireturn, 1) := by decide +kernel
theorem dX0_isOrdered_41 : decode cX0_isOrdered 41 = .ok (.iinc 3 1, 3) := by decide +kernel
theorem dX0_isOrdered_44 : decode cX0_isOrdered 44 = .ok (.goto (-42), 3) := by decide +kernel
theorem dX0_isOrdered_47 : decode cX0_isOrdered 47 = .ok (.iconst 0, 1) := by decide +kernel
theorem dX0_isOrdered_48 : decode cX0_isOrdered 48 = .ok (.ireturn, 1) := by decide +kernel
set_option maxRecDepth 20000 in
theorem ggX0_isLegalOrder_X0_positionOf : GoodIn wsX0_isLegalOrder wsX0_positionOf := goodIn_r _ [9, 10, 11, 12, 13, 14, 15, 16, 17, 18, 19, 20, 21, 22] (by decide +kernel) (by decide +kernel)
set_option maxRecDepth 20000 in
theorem gX0_isLegalOrder_X0_positionOf : GoodIn wsX0_isLegalOrder (wsV RX0 75 RX0 yX0_positionOf wsX0_positionOf) := goodIn_app (goodIn_of _ (by decide +kernel)) ggX0_isLegalOrder_X0_positionOf
theorem dX0_isLegalOrder_0 : decode cX0_isLegalOrder 0 = .ok (.iconst 0, 1) := by decide +kernel
theorem dX0_isLegalOrder_1 : decode cX0_isLegalOrder 1 = .ok (.istore_n 1, 1) := by decide +kernel
theorem dX0_isLegalOrder_2 : decode cX0_isLegalOrder 2 = .ok (.iload_n 1, 1) := by decide +kernel
theorem dX0_isLegalOrder_3 : decode cX0_isLegalOrder 3 = .ok (.aload_n 0, 1) := by decide +kernel
theorem dX0_isLegalOrder_4 : decode cX0_isLegalOrder 4 = .ok (.getfield 50, 3) := by decide +kernel
theorem dX0_isLegalOrder_7 : decode cX0_isLegalOrder 7 = .ok (.if_icmp .ge 43, 3) := by decide +kernel
theorem dX0_isLegalOrder_10 : decode cX0_isLegalOrder 10 = .ok (.aload_n 0, 1) := by decide +kernel
theorem dX0_isLegalOrder_11 : decode cX0_isLegalOrder 11 = .ok (.getfield 33, 3) := by decide +kernel
theorem dX0_isLegalOrder_14 : decode cX0_isLegalOrder 14 = .ok (.iload_n 1, 1) := by decide +kernel
theorem dX0_isLegalOrder_15 : decode cX0_isLegalOrder 15 = .ok (.iaload, 1) := by decide +kernel
theorem dX0_isLegalOrder_16 : decode cX0_isLegalOrder 16 = .ok (.ifCond .ne 28, 3) := by decide +kernel
theorem dX0_isLegalOrder_19 : decode cX0_isLegalOrder 19 = .ok (.aload_n 0, 1) := by decide +kernel
theorem dX0_isLegalOrder_20 : decode cX0_isLegalOrder 20 = .ok (.aload_n 0, 1) := by decide +kernel
theorem dX0_isLegalOrder_21 : decode cX0_isLegalOrder 21 = .ok (.getfield 27, 3) := by decide +kernel
theorem dX0_isLegalOrder_24 : decode cX0_isLegalOrder 24 = .ok (.iload_n 1, 1) := by decide +kernel
theorem dX0_isLegalOrder_25 : decode cX0_isLegalOrder 25 = .ok (.iaload, 1) := by decide +kernel
theorem dX0_isLegalOrder_26 : decode cX0_isLegalOrder 26 = .ok (.invokevirtual 75, 3) := by decide +kernel
theorem dX0_isLegalOrder_29 : decode cX0_isLegalOrder 29 = .ok (.aload_n 0, 1) := by decide +kernel
theorem dX0_isLegalOrder_30 : decode cX0_isLegalOrder 30 = .ok (.aload_n 0, 1) := by decide +kernel
theorem dX0_isLegalOrder_31 : decode cX0_isLegalOrder 31 = .ok (.getfield 30, 3) := by decide +kernel
theorem dX0_isLegalOrder_34 : decode cX0_isLegalOrder 34 = .ok (.iload_n 1, 1) := by decide +kernel
theorem dX0_isLegalOrder_35 : decode cX0_isLegalOrder 35 = .ok (.iaload, 1) := by decide +kernel
theorem dX0_isLegalOrder_36 : decode cX0_isLegalOrder 36 = .ok (.invokevirtual 75, 3) := by decide +kernel
theorem dX0_isLegalOrder_39 : decode cX0_isLegalOrder 39 = .ok (.if_icmp .lt 5, 3) := by decide +kernel
theorem dX0_isLegalOrder_42 : decode cX0_isLegalOrder 42 = .ok (.iconst 0, 1) := by decide +kernel
theorem dX0_isLegalOrder_43 : decode cX0_isLegalOrder 43 = .ok (.ireturn, 1) := by decide +kernel
theorem dX0_isLegalOrder_44 : decode cX0_isLegalOrder 44 = .ok (.iinc 1 1, 3) := by decide +kernel
theorem dX0_isLegalOrder_47 : decode cX0_isLegalOrder 47 = .ok (.goto (-45), 3) := by decide +kernel
theorem dX0_isLegalOrder_50 : decode cX0_isLegalOrder 50 = .ok (.iconst 1, 1) := by decide +kernel
theorem dX0_isLegalOrder_51 : decode cX0_isLegalOrder 51 = .ok (.ireturn, 1) := by decide +kernel
set_option maxRecDepth 20000 in
theorem ggX0_followersOf_X0_positionOf : GoodIn wsX0_followersOf wsX0_positionOf := goodIn_r _ [6, 7, 21, 22, 23, 24, 25, 26, 27, 28, 29, 30, 31, 32] (by decide +kernel) (by decide +kernel)
set_option maxRecDepth 20000 in
theorem gX0_followersOf_X0_positionOf : GoodIn wsX0_followersOf (wsV RX0 75 RX0 yX0_positionOf wsX0_positionOf) := goodIn_app (goodIn_of _ (by decide +kernel)) ggX0_followersOf_X0_positionOf
set_option maxRecDepth 20000 in
theorem ggX0_followersOf_X0_statementAt : GoodIn wsX0_followersOf wsX0_statementAt := goodIn_r _ [11, 12, 21, 22, 23, 24, 25, 26, 27, 28, 29, 30, 31, 32] (by decide +kernel) (by decide +kernel)
set_option maxRecDepth 20000 in
theorem gX0_followersOf_X0_statementAt : GoodIn wsX0_followersOf (wsV RX0 67 RX0 yX0_statementAt wsX0_statementAt) := goodIn_app (goodIn_of _ (by decide +kernel)) ggX0_followersOf_X0_statementAt
set_option maxRecDepth 20000 in
theorem ggX0_followersOf_X0_nextOf : GoodIn wsX0_followersOf wsX0_nextOf := goodIn_r _ [16, 17, 18, 19, 20, 21, 22, 23, 24, 25, 26, 27, 28, 29, 30, 31, 32] (by decide +kernel) (by decide +kernel)
set_option maxRecDepth 20000 in
theorem gX0_followersOf_X0_nextOf : GoodIn wsX0_followersOf (wsV RX0 78 RX0 yX0_nextOf wsX0_nextOf) := goodIn_app (goodIn_of _ (by decide +kernel)) ggX0_followersOf_X0_nextOf
theorem dX0_followersOf_0 : decode cX0_followersOf 0 = .ok (.iconst 0, 1) := by decide +kernel
theorem dX0_followersOf_1 : decode cX0_followersOf 1 = .ok (.istore_n 2, 1) := by decide +kernel
theorem dX0_followersOf_2 : decode cX0_followersOf 2 = .ok (.aload_n 0, 1) := by decide +kernel
theorem dX0_followersOf_3 : decode cX0_followersOf 3 = .ok (.iload_n 1, 1) := by decide +kernel
theorem dX0_followersOf_4 : decode cX0_followersOf 4 = .ok (.invokevirtual 75, 3) := by decide +kernel
theorem dX0_followersOf_7 : decode cX0_followersOf 7 = .ok (.istore_n 3, 1) := by decide +kernel
theorem dX0_followersOf_8 : decode cX0_followersOf 8 = .ok (.iload_n 3, 1) := by decide +kernel
theorem dX0_followersOf_9 : decode cX0_followersOf 9 = .ok (.aload_n 0, 1) := by decide +kernel
theorem dX0_followersOf_10 : decode cX0_followersOf 10 = .ok (.getfield 46, 3) := by decide +kernel
theorem dX0_followersOf_13 : decode cX0_followersOf 13 = .ok (.if_icmp .ge 41, 3) := by decide +kernel
theorem dX0_followersOf_16 : decode cX0_followersOf 16 = .ok (.aload_n 0, 1) := by decide +kernel
theorem dX0_followersOf_17 : decode cX0_followersOf 17 = .ok (.iload_n 3, 1) := by decide +kernel
theorem dX0_followersOf_18 : decode cX0_followersOf 18 = .ok (.invokevirtual 67, 3) := by decide +kernel
theorem dX0_followersOf_21 : decode cX0_followersOf 21 = .ok (.istore 4, 2) := by decide +kernel
theorem dX0_followersOf_23 : decode cX0_followersOf 23 = .ok (.iload 4, 2) := by decide +kernel
theorem dX0_followersOf_25 : decode cX0_followersOf 25 = .ok (.iload_n 1, 1) := by decide +kernel
theorem dX0_followersOf_26 : decode cX0_followersOf 26 = .ok (.if_icmp .eq 13, 3) := by decide +kernel
theorem dX0_followersOf_29 : decode cX0_followersOf 29 = .ok (.iload_n 2, 1) := by decide +kernel
theorem dX0_followersOf_30 : decode cX0_followersOf 30 = .ok (.iload 4, 2) := by decide +kernel
theorem dX0_followersOf_32 : decode cX0_followersOf 32 = .ok (.ishr, 1) := by decide +kernel
theorem dX0_followersOf_33 : decode cX0_followersOf 33 = .ok (.iconst 1, 1) := by decide +kernel
theorem dX0_followersOf_34 : decode cX0_followersOf 34 = .ok (.iand, 1) := by decide +kernel
theorem dX0_followersOf_35 : decode cX0_followersOf 35 = .ok (.iconst 1, 1) := by decide +kernel
theorem dX0_followersOf_36 : decode cX0_followersOf 36 = .ok (.if_icmp .ne 12, 3) := by decide +kernel
theorem dX0_followersOf_39 : decode cX0_followersOf 39 = .ok (.iload_n 2, 1) := by decide +kernel
theorem dX0_followersOf_40 : decode cX0_followersOf 40 = .ok (.aload_n 0, 1) := by decide +kernel
theorem dX0_followersOf_41 : decode cX0_followersOf 41 = .ok (.iload 4, 2) := by decide +kernel
theorem dX0_followersOf_43 : decode cX0_followersOf 43 = .ok (.invokevirtual 78, 3) := by decide +kernel
theorem dX0_followersOf_46 : decode cX0_followersOf 46 = .ok (.ior, 1) := by decide +kernel
theorem dX0_followersOf_47 : decode cX0_followersOf 47 = .ok (.istore_n 2, 1) := by decide +kernel
theorem dX0_followersOf_48 : decode cX0_followersOf 48 = .ok (.iinc 3 1, 3) := by decide +kernel
theorem dX0_followersOf_51 : decode cX0_followersOf 51 = .ok (.goto (-43), 3) := by decide +kernel
theorem dX0_followersOf_54 : decode cX0_followersOf 54 = .ok (.iload_n 2, 1) := by decide +kernel
theorem dX0_followersOf_55 : decode cX0_followersOf 55 = .ok (.ireturn, 1) := by decide +kernel
theorem dX0_nextOf_0 : decode cX0_nextOf 0 = .ok (.iconst 0, 1) := by decide +kernel
theorem dX0_nextOf_1 : decode cX0_nextOf 1 = .ok (.istore_n 2, 1) := by decide +kernel
theorem dX0_nextOf_2 : decode cX0_nextOf 2 = .ok (.iconst 0, 1) := by decide +kernel
theorem dX0_nextOf_3 : decode cX0_nextOf 3 = .ok (.istore_n 3, 1) := by decide +kernel
theorem dX0_nextOf_4 : decode cX0_nextOf 4 = .ok (.iload_n 3, 1) := by decide +kernel
theorem dX0_nextOf_5 : decode cX0_nextOf 5 = .ok (.aload_n 0, 1) := by decide +kernel
theorem dX0_nextOf_6 : decode cX0_nextOf 6 = .ok (.getfield 50, 3) := by decide +kernel
theorem dX0_nextOf_9 : decode cX0_nextOf 9 = .ok (.if_icmp .ge 39, 3) := by decide +kernel
theorem dX0_nextOf_12 : decode cX0_nextOf 12 = .ok (.aload_n 0, 1) := by decide +kernel
theorem dX0_nextOf_13 : decode cX0_nextOf 13 = .ok (.getfield 33, 3) := by decide +kernel
theorem dX0_nextOf_16 : decode cX0_nextOf 16 = .ok (.iload_n 3, 1) := by decide +kernel
theorem dX0_nextOf_17 : decode cX0_nextOf 17 = .ok (.iaload, 1) := by decide +kernel
theorem dX0_nextOf_18 : decode cX0_nextOf 18 = .ok (.ifCond .ne 24, 3) := by decide +kernel
theorem dX0_nextOf_21 : decode cX0_nextOf 21 = .ok (.aload_n 0, 1) := by decide +kernel
theorem dX0_nextOf_22 : decode cX0_nextOf 22 = .ok (.getfield 27, 3) := by decide +kernel
theorem dX0_nextOf_25 : decode cX0_nextOf 25 = .ok (.iload_n 3, 1) := by decide +kernel
theorem dX0_nextOf_26 : decode cX0_nextOf 26 = .ok (.iaload, 1) := by decide +kernel
theorem dX0_nextOf_27 : decode cX0_nextOf 27 = .ok (.iload_n 1, 1) := by decide +kernel
theorem dX0_nextOf_28 : decode cX0_nextOf 28 = .ok (.if_icmp .ne 14, 3) := by decide +kernel
theorem dX0_nextOf_31 : decode cX0_nextOf 31 = .ok (.iload_n 2, 1) := by decide +kernel
theorem dX0_nextOf_32 : decode cX0_nextOf 32 = .ok (.iconst 1, 1) := by decide +kernel
theorem dX0_nextOf_33 : decode cX0_nextOf 33 = .ok (.aload_n 0, 1) := by decide +kernel
theorem dX0_nextOf_34 : decode cX0_nextOf 34 = .ok (.getfield 30, 3) := by decide +kernel
theorem dX0_nextOf_37 : decode cX0_nextOf 37 = .ok (.iload_n 3, 1) := by decide +kernel
theorem dX0_nextOf_38 : decode cX0_nextOf 38 = .ok (.iaload, 1) := by decide +kernel
theorem dX0_nextOf_39 : decode cX0_nextOf 39 = .ok (.ishl, 1) := by decide +kernel
theorem dX0_nextOf_40 : decode cX0_nextOf 40 = .ok (.ior, 1) := by decide +kernel
theorem dX0_nextOf_41 : decode cX0_nextOf 41 = .ok (.istore_n 2, 1) := by decide +kernel
theorem dX0_nextOf_42 : decode cX0_nextOf 42 = .ok (.iinc 3 1, 3) := by decide +kernel
theorem dX0_nextOf_45 : decode cX0_nextOf 45 = .ok (.goto (-41), 3) := by decide +kernel
theorem dX0_nextOf_48 : decode cX0_nextOf 48 = .ok (.iload_n 2, 1) := by decide +kernel
theorem dX0_nextOf_49 : decode cX0_nextOf 49 = .ok (.ireturn, 1) := by decide +kernel
set_option maxRecDepth 20000 in
theorem ggX0_isSignalled_X0_hasDependence : GoodIn wsX0_isSignalled wsX0_hasDependence := goodIn_r _ [7, 8, 9, 10, 11, 12, 13, 14, 15, 16, 17, 18, 19, 20] (by decide +kernel) (by decide +kernel)
set_option maxRecDepth 20000 in
theorem gX0_isSignalled_X0_hasDependence : GoodIn wsX0_isSignalled (wsV RX0 61 RX0 yX0_hasDependence wsX0_hasDependence) := goodIn_app (goodIn_of _ (by decide +kernel)) ggX0_isSignalled_X0_hasDependence
theorem dX0_isSignalled_0 : decode cX0_isSignalled 0 = .ok (.aload_n 0, 1) := by decide +kernel
theorem dX0_isSignalled_1 : decode cX0_isSignalled 1 = .ok (.iload_n 1, 1) := by decide +kernel
theorem dX0_isSignalled_2 : decode cX0_isSignalled 2 = .ok (.invokevirtual 61, 3) := by decide +kernel
theorem dX0_isSignalled_5 : decode cX0_isSignalled 5 = .ok (.ifCond .eq 25, 3) := by decide +kernel
theorem dX0_isSignalled_8 : decode cX0_isSignalled 8 = .ok (.aload_n 0, 1) := by decide +kernel
theorem dX0_isSignalled_9 : decode cX0_isSignalled 9 = .ok (.getfield 36, 3) := by decide +kernel
theorem dX0_isSignalled_12 : decode cX0_isSignalled 12 = .ok (.iload_n 1, 1) := by decide +kernel
theorem dX0_isSignalled_13 : decode cX0_isSignalled 13 = .ok (.baload, 1) := by decide +kernel
theorem dX0_isSignalled_14 : decode cX0_isSignalled 14 = .ok (.ifCond .eq 16, 3) := by decide +kernel
theorem dX0_isSignalled_17 : decode cX0_isSignalled 17 = .ok (.aload_n 0, 1) := by decide +kernel
theorem dX0_isSignalled_18 : decode cX0_isSignalled 18 = .ok (.getfield 33, 3) := by decide +kernel
theorem dX0_isSignalled_21 : decode cX0_isSignalled 21 = .ok (.iload_n 1, 1) := by decide +kernel
theorem dX0_isSignalled_22 : decode cX0_isSignalled 22 = .ok (.iaload, 1) := by decide +kernel
theorem dX0_isSignalled_23 : decode cX0_isSignalled 23 = .ok (.ifCond .le 7, 3) := by decide +kernel
theorem dX0_isSignalled_26 : decode cX0_isSignalled 26 = .ok (.iconst 1, 1) := by decide +kernel
theorem dX0_isSignalled_27 : decode cX0_isSignalled 27 = .ok (.goto 4, 3) := by decide +kernel
theorem dX0_isSignalled_30 : decode cX0_isSignalled 30 = .ok (.iconst 0, 1) := by decide +kernel
theorem dX0_isSignalled_31 : decode cX0_isSignalled 31 = .ok (.ireturn, 1) := by decide +kernel
set_option maxRecDepth 20000 in
theorem ggX0_signalledDependences_X0_isSignalled : GoodIn wsX0_signalledDependences wsX0_isSignalled := goodIn_r _ [6, 7, 8, 9, 10, 11, 5, 12, 1, 13, 14, 15, 16, 17, 18, 19, 20, 21, 22, 23, 24] (by decide +kernel) (by decide +kernel)
set_option maxRecDepth 20000 in
theorem gX0_signalledDependences_X0_isSignalled : GoodIn wsX0_signalledDependences (wsV RX0 81 RX0 yX0_isSignalled wsX0_isSignalled) := goodIn_app (goodIn_of _ (by decide +kernel)) ggX0_signalledDependences_X0_isSignalled
theorem dX0_signalledDependences_0 : decode cX0_signalledDependences 0 = .ok (.iconst 0, 1) := by decide +kernel
theorem dX0_signalledDependences_1 : decode cX0_signalledDependences 1 = .ok (.istore_n 1, 1) := by decide +kernel
theorem dX0_signalledDependences_2 : decode cX0_signalledDependences 2 = .ok (.iconst 0, 1) := by decide +kernel
theorem dX0_signalledDependences_3 : decode cX0_signalledDependences 3 = .ok (.istore_n 2, 1) := by decide +kernel
theorem dX0_signalledDependences_4 : decode cX0_signalledDependences 4 = .ok (.iload_n 2, 1) := by decide +kernel
theorem dX0_signalledDependences_5 : decode cX0_signalledDependences 5 = .ok (.aload_n 0, 1) := by decide +kernel
theorem dX0_signalledDependences_6 : decode cX0_signalledDependences 6 = .ok (.getfield 50, 3) := by decide +kernel
theorem dX0_signalledDependences_9 : decode cX0_signalledDependences 9 = .ok (.if_icmp .ge 20, 3) := by decide +kernel
theorem dX0_signalledDependences_12 : decode cX0_signalledDependences 12 = .ok (.aload_n 0, 1) := by decide +kernel
theorem dX0_signalledDependences_13 : decode cX0_signalledDependences 13 = .ok (.iload_n 2, 1) := by decide +kernel
theorem dX0_signalledDependences_14 : decode cX0_signalledDependences 14 = .ok (.invokevirtual 81, 3) := by decide +kernel
theorem dX0_signalledDependences_17 : decode cX0_signalledDependences 17 = .ok (.ifCond .eq 6, 3) := by decide +kernel
theorem dX0_signalledDependences_20 : decode cX0_signalledDependences 20 = .ok (.iinc 1 1, 3) := by decide +kernel
theorem dX0_signalledDependences_23 : decode cX0_signalledDependences 23 = .ok (.iinc 2 1, 3) := by decide +kernel
theorem dX0_signalledDependences_26 : decode cX0_signalledDependences 26 = .ok (.goto (-22), 3) := by decide +kernel
theorem dX0_signalledDependences_29 : decode cX0_signalledDependences 29 = .ok (.iload_n 1, 1) := by decide +kernel
theorem dX0_signalledDependences_30 : decode cX0_signalledDependences 30 = .ok (.ireturn, 1) := by decide +kernel
set_option maxRecDepth 20000 in
theorem ggX0_lagOf_X0_hasDependence : GoodIn wsX0_lagOf wsX0_hasDependence := goodIn_r _ [13, 14, 20, 21, 22, 23, 24, 25, 26, 27, 28, 29, 30, 31] (by decide +kernel) (by decide +kernel)
set_option maxRecDepth 20000 in
theorem gX0_lagOf_X0_hasDependence : GoodIn wsX0_lagOf (wsV RX0 61 RX0 yX0_hasDependence wsX0_hasDependence) := goodIn_app (goodIn_of _ (by decide +kernel)) ggX0_lagOf_X0_hasDependence
set_option maxRecDepth 20000 in
theorem ggX0_lagOf_X0_costOf : GoodIn wsX0_lagOf wsX0_costOf := goodIn_r _ [18, 19, 20, 21, 22, 23, 24, 25, 26, 27, 28, 29, 30, 31] (by decide +kernel) (by decide +kernel)
set_option maxRecDepth 20000 in
theorem gX0_lagOf_X0_costOf : GoodIn wsX0_lagOf (wsV RX0 84 RX0 yX0_costOf wsX0_costOf) := goodIn_app (goodIn_of _ (by decide +kernel)) ggX0_lagOf_X0_costOf
theorem dX0_lagOf_0 : decode cX0_lagOf 0 = .ok (.aload_n 0, 1) := by decide +kernel
theorem dX0_lagOf_1 : decode cX0_lagOf 1 = .ok (.getfield 40, 3) := by decide +kernel
theorem dX0_lagOf_4 : decode cX0_lagOf 4 = .ok (.iconst 1, 1) := by decide +kernel
theorem dX0_lagOf_5 : decode cX0_lagOf 5 = .ok (.iaload, 1) := by decide +kernel
theorem dX0_lagOf_6 : decode cX0_lagOf 6 = .ok (.istore_n 2, 1) := by decide +kernel
theorem dX0_lagOf_7 : decode cX0_lagOf 7 = .ok (.aload_n 0, 1) := by decide +kernel
theorem dX0_lagOf_8 : decode cX0_lagOf 8 = .ok (.iload_n 1, 1) := by decide +kernel
theorem dX0_lagOf_9 : decode cX0_lagOf 9 = .ok (.invokevirtual 61, 3) := by decide +kernel
theorem dX0_lagOf_12 : decode cX0_lagOf 12 = .ok (.ifCond .ne 5, 3) := by decide +kernel
theorem dX0_lagOf_15 : decode cX0_lagOf 15 = .ok (.iload_n 2, 1) := by decide +kernel
theorem dX0_lagOf_16 : decode cX0_lagOf 16 = .ok (.ireturn, 1) := by decide +kernel
theorem dX0_lagOf_17 : decode cX0_lagOf 17 = .ok (.aload_n 0, 1) := by decide +kernel
theorem dX0_lagOf_18 : decode cX0_lagOf 18 = .ok (.getfield 24, 3) := by decide +kernel
theorem dX0_lagOf_21 : decode cX0_lagOf 21 = .ok (.iload_n 1, 1) := by decide +kernel
theorem dX0_lagOf_22 : decode cX0_lagOf 22 = .ok (.iaload, 1) := by decide +kernel
theorem dX0_lagOf_23 : decode cX0_lagOf 23 = .ok (.lookupswitch 68 #[(0, 25), (2, 38)], 25) := by decide +kernel
theorem dX0_lagOf_48 : decode cX0_lagOf 48 = .ok (.aload_n 0, 1) := by decide +kernel
theorem dX0_lagOf_49 : decode cX0_lagOf 49 = .ok (.aload_n 0, 1) := by decide +kernel
theorem dX0_lagOf_50 : decode cX0_lagOf 50 = .ok (.getfield 27, 3) := by decide +kernel
theorem dX0_lagOf_53 : decode cX0_lagOf 53 = .ok (.iload_n 1, 1) := by decide +kernel
theorem dX0_lagOf_54 : decode cX0_lagOf 54 = .ok (.iaload, 1) := by decide +kernel
theorem dX0_lagOf_55 : decode cX0_lagOf 55 = .ok (.invokevirtual 84, 3) := by decide +kernel
theorem dX0_lagOf_58 : decode cX0_lagOf 58 = .ok (.iload_n 2, 1) := by decide +kernel
theorem dX0_lagOf_59 : decode cX0_lagOf 59 = .ok (.iadd, 1) := by decide +kernel
theorem dX0_lagOf_60 : decode cX0_lagOf 60 = .ok (.ireturn, 1) := by decide +kernel
theorem dX0_lagOf_61 : decode cX0_lagOf 61 = .ok (.iconst 1, 1) := by decide +kernel
theorem dX0_lagOf_62 : decode cX0_lagOf 62 = .ok (.aload_n 0, 1) := by decide +kernel
theorem dX0_lagOf_63 : decode cX0_lagOf 63 = .ok (.aload_n 0, 1) := by decide +kernel
theorem dX0_lagOf_64 : decode cX0_lagOf 64 = .ok (.getfield 27, 3) := by decide +kernel
theorem dX0_lagOf_67 : decode cX0_lagOf 67 = .ok (.iload_n 1, 1) := by decide +kernel
theorem dX0_lagOf_68 : decode cX0_lagOf 68 = .ok (.iaload, 1) := by decide +kernel
theorem dX0_lagOf_69 : decode cX0_lagOf 69 = .ok (.invokevirtual 84, 3) := by decide +kernel
theorem dX0_lagOf_72 : decode cX0_lagOf 72 = .ok (.aload_n 0, 1) := by decide +kernel
theorem dX0_lagOf_73 : decode cX0_lagOf 73 = .ok (.aload_n 0, 1) := by decide +kernel
theorem dX0_lagOf_74 : decode cX0_lagOf 74 = .ok (.getfield 30, 3) := by decide +kernel
theorem dX0_lagOf_77 : decode cX0_lagOf 77 = .ok (.iload_n 1, 1) := by decide +kernel
theorem dX0_lagOf_78 : decode cX0_lagOf 78 = .ok (.iaload, 1) := by decide +kernel
theorem dX0_lagOf_79 : decode cX0_lagOf 79 = .ok (.invokevirtual 84, 3) := by decide +kernel
theorem dX0_lagOf_82 : decode cX0_lagOf 82 = .ok (.isub, 1) := by decide +kernel
theorem dX0_lagOf_83 : decode cX0_lagOf 83 = .ok (.iconst 1, 1) := by decide +kernel
theorem dX0_lagOf_84 : decode cX0_lagOf 84 = .ok (.iadd, 1) := by decide +kernel
theorem dX0_lagOf_85 : decode cX0_lagOf 85 = .ok (.invokestatic 87, 3) := by decide +kernel
theorem dX0_lagOf_88 : decode cX0_lagOf 88 = .ok (.iload_n 2, 1) := by decide +kernel
theorem dX0_lagOf_89 : decode cX0_lagOf 89 = .ok (.iadd, 1) := by decide +kernel
theorem dX0_lagOf_90 : decode cX0_lagOf 90 = .ok (.ireturn, 1) := by decide +kernel
theorem dX0_lagOf_91 : decode cX0_lagOf 91 = .ok (.iconst 1, 1) := by decide +kernel
theorem dX0_lagOf_92 : decode cX0_lagOf 92 = .ok (.iload_n 2, 1) := by decide +kernel
theorem dX0_lagOf_93 : decode cX0_lagOf 93 = .ok (.iadd, 1) := by decide +kernel
theorem dX0_lagOf_94 : decode cX0_lagOf 94 = .ok (.ireturn, 1) := by decide +kernel
set_option maxRecDepth 20000 in
theorem ggX0_delayWithout_X0_measureOffsets : GoodIn wsX0_delayWithout wsX0_measureOffsets := goodIn_r _ [10, 11, 12, 13, 14, 15, 16, 17, 9, 18, 49, 50, 51, 52, 53, 54, 55, 56, 57, 58, 59, 60] (by decide +kernel) (by decide +kernel)
set_option maxRecDepth 20000 in
theorem gX0_delayWithout_X0_measureOffsets : GoodIn wsX0_delayWithout (wsV RX0 93 RX0 yX0_measureOffsets wsX0_measureOffsets) := goodIn_app (goodIn_of _ (by decide +kernel)) ggX0_delayWithout_X0_measureOffsets
set_option maxRecDepth 20000 in
theorem ggX0_delayWithout_X0_isSignalled : GoodIn wsX0_delayWithout wsX0_isSignalled := goodIn_r _ [22, 23, 24, 25, 26, 27, 9, 28, 1, 49, 50, 51, 52, 53, 54, 55, 56, 57, 58, 59, 60] (by decide +kernel) (by decide +kernel)
set_option maxRecDepth 20000 in
theorem gX0_delayWithout_X0_isSignalled : GoodIn wsX0_delayWithout (wsV RX0 81 RX0 yX0_isSignalled wsX0_isSignalled) := goodIn_app (goodIn_of _ (by decide +kernel)) ggX0_delayWithout_X0_isSignalled
set_option maxRecDepth 20000 in
theorem ggX0_delayWithout_X0_delayBy : GoodIn wsX0_delayWithout wsX0_delayBy := goodIn_r _ [32, 24, 33, 34, 25, 26, 27, 9, 28, 1, 35, 36, 37, 38, 13, 39, 40, 41, 42, 43, 44, 2, 3, 4, 5, 45, 46, 47, 48, 14, 49, 50, 51, 52, 53, 54, 55, 56, 57, 58, 59, 60] (by decide +kernel) (by decide +kernel)
set_option maxRecDepth 20000 in
theorem gX0_delayWithout_X0_delayBy : GoodIn wsX0_delayWithout (wsV RX0 96 RX0 yX0_delayBy wsX0_delayBy) := goodIn_app (goodIn_of _ (by decide +kernel)) ggX0_delayWithout_X0_delayBy
theorem dX0_delayWithout_0 : decode cX0_delayWithout 0 = .ok (.aload_n 0, 1) := by decide +kernel
theorem dX0_delayWithout_1 : decode cX0_delayWithout 1 = .ok (.invokevirtual 93, 3) := by decide +kernel
theorem dX0_delayWithout_4 : decode cX0_delayWithout 4 = .ok (.iconst 0, 1) := by decide +kernel
theorem dX0_delayWithout_5 : decode cX0_delayWithout 5 = .ok (.istore_n 2, 1) := by decide +kernel
theorem dX0_delayWithout_6 : decode cX0_delayWithout 6 = .ok (.iconst 0, 1) := by decide +kernel
theorem dX0_delayWithout_7 : decode cX0_delayWithout 7 = .ok (.istore_n 3, 1) := by decide +kernel
theorem dX0_delayWithout_8 : decode cX0_delayWithout 8 = .ok (.iload_n 3, 1) := by decide +kernel
theorem dX0_delayWithout_9 : decode cX0_delayWithout 9 = .ok (.aload_n 0, 1) := by decide +kernel
theorem dX0_delayWithout_10 : decode cX0_delayWithout 10 = .ok (.getfield 50, 3) := by decide +kernel
theorem dX0_delayWithout_13 : decode cX0_delayWithout 13 = .ok (.if_icmp .ge 32, 3) := by decide +kernel
theorem dX0_delayWithout_16 : decode cX0_delayWithout 16 = .ok (.iload_n 3, 1) := by decide +kernel
theorem dX0_delayWithout_17 : decode cX0_delayWithout 17 = .ok (.iload_n 1, 1) := by decide +kernel
theorem dX0_delayWithout_18 : decode cX0_delayWithout 18 = .ok (.if_icmp .eq 21, 3) := by decide +kernel
theorem dX0_delayWithout_21 : decode cX0_delayWithout 21 = .ok (.aload_n 0, 1) := by decide +kernel
theorem dX0_delayWithout_22 : decode cX0_delayWithout 22 = .ok (.iload_n 3, 1) := by decide +kernel
theorem dX0_delayWithout_23 : decode cX0_delayWithout 23 = .ok (.invokevirtual 81, 3) := by decide +kernel
theorem dX0_delayWithout_26 : decode cX0_delayWithout 26 = .ok (.ifCond .eq 13, 3) := by decide +kernel
theorem dX0_delayWithout_29 : decode cX0_delayWithout 29 = .ok (.iload_n 2, 1) := by decide +kernel
theorem dX0_delayWithout_30 : decode cX0_delayWithout 30 = .ok (.aload_n 0, 1) := by decide +kernel
theorem dX0_delayWithout_31 : decode cX0_delayWithout 31 = .ok (.iload_n 3, 1) := by decide +kernel
theorem dX0_delayWithout_32 : decode cX0_delayWithout 32 = .ok (.invokevirtual 96, 3) := by decide +kernel
theorem dX0_delayWithout_35 : decode cX0_delayWithout 35 = .ok (.invokestatic 87, 3) := by decide +kernel
theorem dX0_delayWithout_38 : decode cX0_delayWithout 38 = .ok (.istore_n 2, 1) := by decide +kernel
theorem dX0_delayWithout_39 : decode cX0_delayWithout 39 = .ok (.iinc 3 1, 3) := by decide +kernel
theorem dX0_delayWithout_42 : decode cX0_delayWithout 42 = .ok (.goto (-34), 3) := by decide +kernel
theorem dX0_delayWithout_45 : decode cX0_delayWithout 45 = .ok (.iload_n 2, 1) := by decide +kernel
theorem dX0_delayWithout_46 : decode cX0_delayWithout 46 = .ok (.ireturn, 1) := by decide +kernel
set_option maxRecDepth 20000 in
theorem ggX0_delayBy_X0_hasDependence : GoodIn wsX0_delayBy wsX0_hasDependence := goodIn_r _ [8, 9, 30, 31, 32, 33, 34, 35, 36, 37, 38, 39, 40, 41] (by decide +kernel) (by decide +kernel)
set_option maxRecDepth 20000 in
theorem gX0_delayBy_X0_hasDependence : GoodIn wsX0_delayBy (wsV RX0 61 RX0 yX0_hasDependence wsX0_hasDependence) := goodIn_app (goodIn_of _ (by decide +kernel)) ggX0_delayBy_X0_hasDependence
set_option maxRecDepth 20000 in
theorem ggX0_delayBy_X0_offsetOf : GoodIn wsX0_delayBy wsX0_offsetOf := goodIn_r _ [13, 14, 30, 31, 32, 33, 34, 35, 36, 37, 38, 39, 40, 41] (by decide +kernel) (by decide +kernel)
set_option maxRecDepth 20000 in
theorem gX0_delayBy_X0_offsetOf : GoodIn wsX0_delayBy (wsV RX0 99 RX0 yX0_offsetOf wsX0_offsetOf) := goodIn_app (goodIn_of _ (by decide +kernel)) ggX0_delayBy_X0_offsetOf
set_option maxRecDepth 20000 in
theorem ggX0_delayBy_X0_lagOf : GoodIn wsX0_delayBy wsX0_lagOf := goodIn_r _ [18, 19, 20, 2, 3, 21, 22, 23, 24, 4, 5, 6, 7, 8, 9, 25, 26, 27, 28, 29, 30, 31, 32, 33, 34, 35, 36, 37, 38, 39, 40, 41] (by decide +kernel) (by decide +kernel)
set_option maxRecDepth 20000 in
theorem gX0_delayBy_X0_lagOf : GoodIn wsX0_delayBy (wsV RX0 102 RX0 yX0_lagOf wsX0_lagOf) := goodIn_app (goodIn_of _ (by decide +kernel)) ggX0_delayBy_X0_lagOf
theorem dX0_delayBy_0 : decode cX0_delayBy 0 = .ok (.aload_n 0, 1) := by decide +kernel
theorem dX0_delayBy_1 : decode cX0_delayBy 1 = .ok (.iload_n 1, 1) := by decide +kernel
theorem dX0_delayBy_2 : decode cX0_delayBy 2 = .ok (.invokevirtual 61, 3) := by decide +kernel
theorem dX0_delayBy_5 : decode cX0_delayBy 5 = .ok (.ifCond .ne 5, 3) := by decide +kernel
theorem dX0_delayBy_8 : decode cX0_delayBy 8 = .ok (.iconst 0, 1) := by decide +kernel
theorem dX0_delayBy_9 : decode cX0_delayBy 9 = .ok (.ireturn, 1) := by decide +kernel
theorem dX0_delayBy_10 : decode cX0_delayBy 10 = .ok (.aload_n 0, 1) := by decide +kernel
theorem dX0_delayBy_11 : decode cX0_delayBy 11 = .ok (.getfield 33, 3) := by decide +kernel
theorem dX0_delayBy_14 : decode cX0_delayBy 14 = .ok (.iload_n 1, 1) := by decide +kernel
theorem dX0_delayBy_15 : decode cX0_delayBy 15 = .ok (.iaload, 1) := by decide +kernel
theorem dX0_delayBy_16 : decode cX0_delayBy 16 = .ok (.istore_n 2, 1) := by decide +kernel
theorem dX0_delayBy_17 : decode cX0_delayBy 17 = .ok (.aload_n 0, 1) := by decide +kernel
theorem dX0_delayBy_18 : decode cX0_delayBy 18 = .ok (.aload_n 0, 1) := by decide +kernel
theorem dX0_delayBy_19 : decode cX0_delayBy 19 = .ok (.getfield 27, 3) := by decide +kernel
theorem dX0_delayBy_22 : decode cX0_delayBy 22 = .ok (.iload_n 1, 1) := by decide +kernel
theorem dX0_delayBy_23 : decode cX0_delayBy 23 = .ok (.iaload, 1) := by decide +kernel
theorem dX0_delayBy_24 : decode cX0_delayBy 24 = .ok (.invokevirtual 99, 3) := by decide +kernel
theorem dX0_delayBy_27 : decode cX0_delayBy 27 = .ok (.aload_n 0, 1) := by decide +kernel
theorem dX0_delayBy_28 : decode cX0_delayBy 28 = .ok (.iload_n 1, 1) := by decide +kernel
theorem dX0_delayBy_29 : decode cX0_delayBy 29 = .ok (.invokevirtual 102, 3) := by decide +kernel
theorem dX0_delayBy_32 : decode cX0_delayBy 32 = .ok (.iadd, 1) := by decide +kernel
theorem dX0_delayBy_33 : decode cX0_delayBy 33 = .ok (.aload_n 0, 1) := by decide +kernel
theorem dX0_delayBy_34 : decode cX0_delayBy 34 = .ok (.aload_n 0, 1) := by decide +kernel
theorem dX0_delayBy_35 : decode cX0_delayBy 35 = .ok (.getfield 30, 3) := by decide +kernel
theorem dX0_delayBy_38 : decode cX0_delayBy 38 = .ok (.iload_n 1, 1) := by decide +kernel
theorem dX0_delayBy_39 : decode cX0_delayBy 39 = .ok (.iaload, 1) := by decide +kernel
theorem dX0_delayBy_40 : decode cX0_delayBy 40 = .ok (.invokevirtual 99, 3) := by decide +kernel
theorem dX0_delayBy_43 : decode cX0_delayBy 43 = .ok (.isub, 1) := by decide +kernel
theorem dX0_delayBy_44 : decode cX0_delayBy 44 = .ok (.istore_n 3, 1) := by decide +kernel
theorem dX0_delayBy_45 : decode cX0_delayBy 45 = .ok (.iload_n 3, 1) := by decide +kernel
theorem dX0_delayBy_46 : decode cX0_delayBy 46 = .ok (.ifCond .le 17, 3) := by decide +kernel
theorem dX0_delayBy_49 : decode cX0_delayBy 49 = .ok (.iload_n 2, 1) := by decide +kernel
theorem dX0_delayBy_50 : decode cX0_delayBy 50 = .ok (.ifCond .le 13, 3) := by decide +kernel
theorem dX0_delayBy_53 : decode cX0_delayBy 53 = .ok (.iload_n 3, 1) := by decide +kernel
theorem dX0_delayBy_54 : decode cX0_delayBy 54 = .ok (.iload_n 2, 1) := by decide +kernel
theorem dX0_delayBy_55 : decode cX0_delayBy 55 = .ok (.iadd, 1) := by decide +kernel
theorem dX0_delayBy_56 : decode cX0_delayBy 56 = .ok (.iconst 1, 1) := by decide +kernel
theorem dX0_delayBy_57 : decode cX0_delayBy 57 = .ok (.isub, 1) := by decide +kernel
theorem dX0_delayBy_58 : decode cX0_delayBy 58 = .ok (.iload_n 2, 1) := by decide +kernel
theorem dX0_delayBy_59 : decode cX0_delayBy 59 = .ok (.idiv, 1) := by decide +kernel
theorem dX0_delayBy_60 : decode cX0_delayBy 60 = .ok (.goto 4, 3) := by decide +kernel
theorem dX0_delayBy_63 : decode cX0_delayBy 63 = .ok (.iconst 0, 1) := by decide +kernel
theorem dX0_delayBy_64 : decode cX0_delayBy 64 = .ok (.ireturn, 1) := by decide +kernel
set_option maxRecDepth 20000 in
theorem ggX1_init_X0_init : GoodIn wsX1_init wsX0_init := goodIn_r _ [12, 13, 2, 3, 8, 14, 15, 16, 17, 18, 19, 20, 21, 22, 23, 24, 25, 26, 27, 28, 29, 30, 31, 32, 33, 34, 35, 36] (by decide +kernel) (by decide +kernel)
set_option maxRecDepth 20000 in
theorem gX1_init_X0_init : GoodIn wsX1_init (wsX0_init) := ggX1_init_X0_init
theorem dX1_init_0 : decode cX1_init 0 = .ok (.aload_n 0, 1) := by decide +kernel
theorem dX1_init_1 : decode cX1_init 1 = .ok (.invokespecial 3, 3) := by decide +kernel
theorem dX1_init_4 : decode cX1_init 4 = .ok (.aload_n 0, 1) := by decide +kernel
theorem dX1_init_5 : decode cX1_init 5 = .ok (.new 9, 3) := by decide +kernel
theorem dX1_init_8 : decode cX1_init 8 = .ok (.dup, 1) := by decide +kernel
theorem dX1_init_9 : decode cX1_init 9 = .ok (.invokespecial 11, 3) := by decide +kernel
theorem dX1_init_12 : decode cX1_init 12 = .ok (.putfield 12, 3) := by decide +kernel
theorem dX1_init_15 : decode cX1_init 15 = .ok (.aload_n 0, 1) := by decide +kernel
theorem dX1_init_16 : decode cX1_init 16 = .ok (.bipush 8, 2) := by decide +kernel
theorem dX1_init_18 : decode cX1_init 18 = .ok (.newarray .int, 2) := by decide +kernel
theorem dX1_init_20 : decode cX1_init 20 = .ok (.putfield 18, 3) := by decide +kernel
theorem dX1_init_23 : decode cX1_init 23 = .ok (.return_, 1) := by decide +kernel
set_option maxRecDepth 20000 in
theorem ggX1_search_X0_copyFrom : GoodIn wsX1_search wsX0_copyFrom := goodIn_r _ [7, 8, 9, 10, 11, 12, 13, 14, 15, 16, 6, 17, 18, 19, 20, 21, 22, 103, 104, 105, 106, 107, 108, 109, 110, 111, 112, 113, 114] (by decide +kernel) (by decide +kernel)
set_option maxRecDepth 20000 in
theorem gX1_search_X0_copyFrom : GoodIn wsX1_search (wsV RX1 22 RX0 yX0_copyFrom wsX0_copyFrom) := goodIn_app (goodIn_of _ (by decide +kernel)) ggX1_search_X0_copyFrom
set_option maxRecDepth 20000 in
theorem ggX1_search_X0_place : GoodIn wsX1_search wsX0_place := goodIn_r _ [26, 11, 10, 27, 28, 29, 6, 30, 8, 31, 32, 33, 34, 103, 104, 105, 106, 107, 108, 109, 110, 111, 112, 113, 114] (by decide +kernel) (by decide +kernel)
set_option maxRecDepth 20000 in
theorem gX1_search_X0_place : GoodIn wsX1_search (wsV RX1 30 RX0 yX0_place wsX0_place) := goodIn_app (goodIn_of _ (by decide +kernel)) ggX1_search_X0_place
set_option maxRecDepth 20000 in
theorem ggX1_search_X1_consider : GoodIn wsX1_search wsX1_consider := goodIn_r _ [39, 1, 2, 40, 41, 42, 43, 6, 44, 12, 21, 19, 20, 45, 46, 47, 48, 10, 49, 50, 51, 52, 53, 54, 55, 56, 57, 58, 59, 60, 8, 11, 61, 9, 27, 28, 29, 30, 62, 63, 64, 65, 22, 66, 67, 68, 69, 70, 71, 72, 73, 74, 75, 76, 77, 78, 79, 80, 81, 13, 18, 82, 83, 84, 85, 100, 101, 102, 103, 104, 105, 106, 107, 108, 109, 110, 111, 112, 113, 114] (by decide +kernel) (by decide +kernel)
set_option maxRecDepth 20000 in
theorem gX1_search_X1_consider : GoodIn wsX1_search (wsV RX1 37 RX1 yX1_consider wsX1_consider) := goodIn_app (goodIn_of _ (by decide +kernel)) ggX1_search_X1_consider
set_option maxRecDepth 20000 in
theorem ggX1_search_X1_advance : GoodIn wsX1_search wsX1_advance := goodIn_r _ [89, 1, 90, 91, 92, 6, 93, 11, 94, 95, 96, 97, 98, 99, 24, 25, 26, 10, 27, 28, 29, 30, 8, 31, 32, 33, 34, 100, 101, 102, 103, 104, 105, 106, 107, 108, 109, 110, 111, 112, 113, 114] (by decide +kernel) (by decide +kernel)
set_option maxRecDepth 20000 in
theorem gX1_search_X1_advance : GoodIn wsX1_search (wsV RX1 40 RX1 yX1_advance wsX1_advance) := goodIn_app (goodIn_of _ (by decide +kernel)) ggX1_search_X1_advance
theorem dX1_search_0 : decode cX1_search 0 = .ok (.aload_n 0, 1) := by decide +kernel
theorem dX1_search_1 : decode cX1_search 1 = .ok (.getfield 12, 3) := by decide +kernel
theorem dX1_search_4 : decode cX1_search 4 = .ok (.aload_n 1, 1) := by decide +kernel
theorem dX1_search_5 : decode cX1_search 5 = .ok (.invokevirtual 22, 3) := by decide +kernel
theorem dX1_search_8 : decode cX1_search 8 = .ok (.iconst 0, 1) := by decide +kernel
theorem dX1_search_9 : decode cX1_search 9 = .ok (.istore_n 2, 1) := by decide +kernel
theorem dX1_search_10 : decode cX1_search 10 = .ok (.iload_n 2, 1) := by decide +kernel
theorem dX1_search_11 : decode cX1_search 11 = .ok (.aload_n 0, 1) := by decide +kernel
theorem dX1_search_12 : decode cX1_search 12 = .ok (.getfield 12, 3) := by decide +kernel
theorem dX1_search_15 : decode cX1_search 15 = .ok (.getfield 26, 3) := by decide +kernel
theorem dX1_search_18 : decode cX1_search 18 = .ok (.if_icmp .ge 18, 3) := by decide +kernel
theorem dX1_search_21 : decode cX1_search 21 = .ok (.aload_n 0, 1) := by decide +kernel
theorem dX1_search_22 : decode cX1_search 22 = .ok (.getfield 12, 3) := by decide +kernel
theorem dX1_search_25 : decode cX1_search 25 = .ok (.iload_n 2, 1) := by decide +kernel
theorem dX1_search_26 : decode cX1_search 26 = .ok (.iload_n 2, 1) := by decide +kernel
theorem dX1_search_27 : decode cX1_search 27 = .ok (.invokevirtual 30, 3) := by decide +kernel
theorem dX1_search_30 : decode cX1_search 30 = .ok (.iinc 2 1, 3) := by decide +kernel
theorem dX1_search_33 : decode cX1_search 33 = .ok (.goto (-23), 3) := by decide +kernel
theorem dX1_search_36 : decode cX1_search 36 = .ok (.aload_n 0, 1) := by decide +kernel
theorem dX1_search_37 : decode cX1_search 37 = .ok (.iconst (-1), 1) := by decide +kernel
theorem dX1_search_38 : decode cX1_search 38 = .ok (.putfield 34, 3) := by decide +kernel
theorem dX1_search_41 : decode cX1_search 41 = .ok (.iconst 1, 1) := by decide +kernel
theorem dX1_search_42 : decode cX1_search 42 = .ok (.istore_n 2, 1) := by decide +kernel
theorem dX1_search_43 : decode cX1_search 43 = .ok (.iconst 0, 1) := by decide +kernel
theorem dX1_search_44 : decode cX1_search 44 = .ok (.istore_n 3, 1) := by decide +kernel
theorem dX1_search_45 : decode cX1_search 45 = .ok (.iload_n 2, 1) := by decide +kernel
theorem dX1_search_46 : decode cX1_search 46 = .ok (.ifCond .eq 25, 3) := by decide +kernel
theorem dX1_search_49 : decode cX1_search 49 = .ok (.iload_n 3, 1) := by decide +kernel
theorem dX1_search_50 : decode cX1_search 50 = .ok (.sipush 720, 3) := by decide +kernel
theorem dX1_search_53 : decode cX1_search 53 = .ok (.if_icmp .ge 18, 3) := by decide +kernel
theorem dX1_search_56 : decode cX1_search 56 = .ok (.aload_n 0, 1) := by decide +kernel
theorem dX1_search_57 : decode cX1_search 57 = .ok (.invokevirtual 37, 3) := by decide +kernel
theorem dX1_search_60 : decode cX1_search 60 = .ok (.aload_n 0, 1) := by decide +kernel
theorem dX1_search_61 : decode cX1_search 61 = .ok (.invokevirtual 40, 3) := by decide +kernel
theorem dX1_search_64 : decode cX1_search 64 = .ok (.istore_n 2, 1) := by decide +kernel
theorem dX1_search_65 : decode cX1_search 65 = .ok (.iinc 3 1, 3) := by decide +kernel
theorem dX1_search_68 : decode cX1_search 68 = .ok (.goto (-23), 3) := by decide +kernel
theorem dX1_search_71 : decode cX1_search 71 = .ok (.return_, 1) := by decide +kernel
set_option maxRecDepth 20000 in
theorem ggX1_consider_X0_isLegalOrder : GoodIn wsX1_consider wsX0_isLegalOrder := goodIn_r _ [8, 9, 10, 11, 12, 13, 14, 15, 7, 16, 17, 68, 69, 70, 71, 72, 73, 74, 75, 76, 77, 78, 79] (by decide +kernel) (by decide +kernel)
set_option maxRecDepth 20000 in
theorem gX1_consider_X0_isLegalOrder : GoodIn wsX1_consider (wsV RX1 44 RX0 yX0_isLegalOrder wsX0_isLegalOrder) := goodIn_app (goodIn_of _ (by decide +kernel)) ggX1_consider_X0_isLegalOrder
set_option maxRecDepth 20000 in
theorem ggX1_consider_X0_delayWithout : GoodIn wsX1_consider wsX0_delayWithout := goodIn_r _ [21, 9, 22, 23, 24, 25, 26, 27, 28, 7, 29, 30, 31, 32, 33, 34, 35, 36, 37, 38, 39, 40, 41, 42, 10, 43, 44, 45, 46, 47, 48, 49, 50, 11, 12, 51, 52, 53, 54, 55, 56, 57, 58, 59, 60, 61, 62, 63, 64, 68, 69, 70, 71, 72, 73, 74, 75, 76, 77, 78, 79] (by decide +kernel) (by decide +kernel)
set_option maxRecDepth 20000 in
theorem gX1_consider_X0_delayWithout : GoodIn wsX1_consider (wsV RX1 47 RX0 yX0_delayWithout wsX0_delayWithout) := goodIn_app (goodIn_of _ (by decide +kernel)) ggX1_consider_X0_delayWithout
theorem dX1_consider_0 : decode cX1_consider 0 = .ok (.aload_n 0, 1) := by decide +kernel
theorem dX1_consider_1 : decode cX1_consider 1 = .ok (.getfield 12, 3) := by decide +kernel
theorem dX1_consider_4 : decode cX1_consider 4 = .ok (.invokevirtual 44, 3) := by decide +kernel
theorem dX1_consider_7 : decode cX1_consider 7 = .ok (.ifCond .ne 4, 3) := by decide +kernel
theorem dX1_consider_10 : decode cX1_consider 10 = .ok (.return_, 1) := by decide +kernel
theorem dX1_consider_11 : decode cX1_consider 11 = .ok (.aload_n 0, 1) := by decide +kernel
theorem dX1_consider_12 : decode cX1_consider 12 = .ok (.getfield 12, 3) := by decide +kernel
theorem dX1_consider_15 : decode cX1_consider 15 = .ok (.iconst (-1), 1) := by decide +kernel
theorem dX1_consider_16 : decode cX1_consider 16 = .ok (.invokevirtual 47, 3) := by decide +kernel
theorem dX1_consider_19 : decode cX1_consider 19 = .ok (.istore_n 1, 1) := by decide +kernel
theorem dX1_consider_20 : decode cX1_consider 20 = .ok (.aload_n 0, 1) := by decide +kernel
theorem dX1_consider_21 : decode cX1_consider 21 = .ok (.getfield 34, 3) := by decide +kernel
theorem dX1_consider_24 : decode cX1_consider 24 = .ok (.iconst (-1), 1) := by decide +kernel
theorem dX1_consider_25 : decode cX1_consider 25 = .ok (.if_icmp .eq 11, 3) := by decide +kernel
theorem dX1_consider_28 : decode cX1_consider 28 = .ok (.iload_n 1, 1) := by decide +kernel
theorem dX1_consider_29 : decode cX1_consider 29 = .ok (.aload_n 0, 1) := by decide +kernel
theorem dX1_consider_30 : decode cX1_consider 30 = .ok (.getfield 34, 3) := by decide +kernel
theorem dX1_consider_33 : decode cX1_consider 33 = .ok (.if_icmp .ge 42, 3) := by decide +kernel
theorem dX1_consider_36 : decode cX1_consider 36 = .ok (.aload_n 0, 1) := by decide +kernel
theorem dX1_consider_37 : decode cX1_consider 37 = .ok (.iload_n 1, 1) := by decide +kernel
theorem dX1_consider_38 : decode cX1_consider 38 = .ok (.putfield 34, 3) := by decide +kernel
theorem dX1_consider_41 : decode cX1_consider 41 = .ok (.iconst 0, 1) := by decide +kernel
theorem dX1_consider_42 : decode cX1_consider 42 = .ok (.istore_n 2, 1) := by decide +kernel
theorem dX1_consider_43 : decode cX1_consider 43 = .ok (.iload_n 2, 1) := by decide +kernel
theorem dX1_consider_44 : decode cX1_consider 44 = .ok (.aload_n 0, 1) := by decide +kernel
theorem dX1_consider_45 : decode cX1_consider 45 = .ok (.getfield 12, 3) := by decide +kernel
theorem dX1_consider_48 : decode cX1_consider 48 = .ok (.getfield 26, 3) := by decide +kernel
theorem dX1_consider_51 : decode cX1_consider 51 = .ok (.if_icmp .ge 24, 3) := by decide +kernel
theorem dX1_consider_54 : decode cX1_consider 54 = .ok (.aload_n 0, 1) := by decide +kernel
theorem dX1_consider_55 : decode cX1_consider 55 = .ok (.getfield 18, 3) := by decide +kernel
theorem dX1_consider_58 : decode cX1_consider 58 = .ok (.iload_n 2, 1) := by decide +kernel
theorem dX1_consider_59 : decode cX1_consider 59 = .ok (.aload_n 0, 1) := by decide +kernel
theorem dX1_consider_60 : decode cX1_consider 60 = .ok (.getfield 12, 3) := by decide +kernel
theorem dX1_consider_63 : decode cX1_consider 63 = .ok (.getfield 51, 3) := by decide +kernel
theorem dX1_consider_66 : decode cX1_consider 66 = .ok (.iload_n 2, 1) := by decide +kernel
theorem dX1_consider_67 : decode cX1_consider 67 = .ok (.iaload, 1) := by decide +kernel
theorem dX1_consider_68 : decode cX1_consider 68 = .ok (.iastore, 1) := by decide +kernel
theorem dX1_consider_69 : decode cX1_consider 69 = .ok (.iinc 2 1, 3) := by decide +kernel
theorem dX1_consider_72 : decode cX1_consider 72 = .ok (.goto (-29), 3) := by decide +kernel
theorem dX1_consider_75 : decode cX1_consider 75 = .ok (.return_, 1) := by decide +kernel
set_option maxRecDepth 20000 in
theorem ggX1_advance_X0_statementAt : GoodIn wsX1_advance wsX0_statementAt := goodIn_r _ [6, 7, 30, 31, 32, 33, 34, 35, 36, 37, 38, 39, 40, 41] (by decide +kernel) (by decide +kernel)
set_option maxRecDepth 20000 in
theorem gX1_advance_X0_statementAt : GoodIn wsX1_advance (wsV RX1 54 RX0 yX0_statementAt wsX0_statementAt) := goodIn_app (goodIn_of _ (by decide +kernel)) ggX1_advance_X0_statementAt
set_option maxRecDepth 20000 in
theorem ggX1_advance_X0_swap : GoodIn wsX1_advance wsX0_swap := goodIn_r _ [11, 12, 3, 4, 5, 6, 7, 13, 14, 15, 16, 17, 18, 19, 20, 21, 22, 23, 24, 25, 26, 30, 31, 32, 33, 34, 35, 36, 37, 38, 39, 40, 41] (by decide +kernel) (by decide +kernel)
set_option maxRecDepth 20000 in
theorem gX1_advance_X0_swap : GoodIn wsX1_advance (wsV RX1 57 RX0 yX0_swap wsX0_swap) := goodIn_app (goodIn_of _ (by decide +kernel)) ggX1_advance_X0_swap
theorem dX1_advance_0 : decode cX1_advance 0 = .ok (.aload_n 0, 1) := by decide +kernel
theorem dX1_advance_1 : decode cX1_advance 1 = .ok (.getfield 12, 3) := by decide +kernel
theorem dX1_advance_4 : decode cX1_advance 4 = .ok (.getfield 26, 3) := by decide +kernel
theorem dX1_advance_7 : decode cX1_advance 7 = .ok (.iconst 1, 1) := by decide +kernel
theorem dX1_advance_8 : decode cX1_advance 8 = .ok (.isub, 1) := by decide +kernel
theorem dX1_advance_9 : decode cX1_advance 9 = .ok (.istore_n 1, 1) := by decide +kernel
theorem dX1_advance_10 : decode cX1_advance 10 = .ok (.iload_n 1, 1) := by decide +kernel
theorem dX1_advance_11 : decode cX1_advance 11 = .ok (.iconst 1, 1) := by decide +kernel
theorem dX1_advance_12 : decode cX1_advance 12 = .ok (.isub, 1) := by decide +kernel
theorem dX1_advance_13 : decode cX1_advance 13 = .ok (.istore_n 2, 1) := by decide +kernel
theorem dX1_advance_14 : decode cX1_advance 14 = .ok (.iload_n 2, 1) := by decide +kernel
theorem dX1_advance_15 : decode cX1_advance 15 = .ok (.ifCond .lt 30, 3) := by decide +kernel
theorem dX1_advance_18 : decode cX1_advance 18 = .ok (.aload_n 0, 1) := by decide +kernel
theorem dX1_advance_19 : decode cX1_advance 19 = .ok (.getfield 12, 3) := by decide +kernel
theorem dX1_advance_22 : decode cX1_advance 22 = .ok (.iload_n 2, 1) := by decide +kernel
theorem dX1_advance_23 : decode cX1_advance 23 = .ok (.invokevirtual 54, 3) := by decide +kernel
theorem dX1_advance_26 : decode cX1_advance 26 = .ok (.aload_n 0, 1) := by decide +kernel
theorem dX1_advance_27 : decode cX1_advance 27 = .ok (.getfield 12, 3) := by decide +kernel
theorem dX1_advance_30 : decode cX1_advance 30 = .ok (.iload_n 2, 1) := by decide +kernel
theorem dX1_advance_31 : decode cX1_advance 31 = .ok (.iconst 1, 1) := by decide +kernel
theorem dX1_advance_32 : decode cX1_advance 32 = .ok (.iadd, 1) := by decide +kernel
theorem dX1_advance_33 : decode cX1_advance 33 = .ok (.invokevirtual 54, 3) := by decide +kernel
theorem dX1_advance_36 : decode cX1_advance 36 = .ok (.if_icmp .le 9, 3) := by decide +kernel
theorem dX1_advance_39 : decode cX1_advance 39 = .ok (.iinc 2 (-1), 3) := by decide +kernel
theorem dX1_advance_42 : decode cX1_advance 42 = .ok (.goto (-28), 3) := by decide +kernel
theorem dX1_advance_45 : decode cX1_advance 45 = .ok (.iload_n 2, 1) := by decide +kernel
theorem dX1_advance_46 : decode cX1_advance 46 = .ok (.ifCond .ge 5, 3) := by decide +kernel
theorem dX1_advance_49 : decode cX1_advance 49 = .ok (.iconst 0, 1) := by decide +kernel
theorem dX1_advance_50 : decode cX1_advance 50 = .ok (.ireturn, 1) := by decide +kernel
theorem dX1_advance_51 : decode cX1_advance 51 = .ok (.iload_n 1, 1) := by decide +kernel
theorem dX1_advance_52 : decode cX1_advance 52 = .ok (.istore_n 3, 1) := by decide +kernel
theorem dX1_advance_53 : decode cX1_advance 53 = .ok (.iload_n 3, 1) := by decide +kernel
theorem dX1_advance_54 : decode cX1_advance 54 = .ok (.iload_n 2, 1) := by decide +kernel
theorem dX1_advance_55 : decode cX1_advance 55 = .ok (.if_icmp .le 28, 3) := by decide +kernel
theorem dX1_advance_58 : decode cX1_advance 58 = .ok (.aload_n 0, 1) := by decide +kernel
theorem dX1_advance_59 : decode cX1_advance 59 = .ok (.getfield 12, 3) := by decide +kernel
theorem dX1_advance_62 : decode cX1_advance 62 = .ok (.iload_n 3, 1) := by decide +kernel
theorem dX1_advance_63 : decode cX1_advance 63 = .ok (.invokevirtual 54, 3) := by decide +kernel
theorem dX1_advance_66 : decode cX1_advance 66 = .ok (.aload_n 0, 1) := by decide +kernel
theorem dX1_advance_67 : decode cX1_advance 67 = .ok (.getfield 12, 3) := by decide +kernel
theorem dX1_advance_70 : decode cX1_advance 70 = .ok (.iload_n 2, 1) := by decide +kernel
theorem dX1_advance_71 : decode cX1_advance 71 = .ok (.invokevirtual 54, 3) := by decide +kernel
theorem dX1_advance_74 : decode cX1_advance 74 = .ok (.if_icmp .ge 9, 3) := by decide +kernel
theorem dX1_advance_77 : decode cX1_advance 77 = .ok (.iinc 3 (-1), 3) := by decide +kernel
theorem dX1_advance_80 : decode cX1_advance 80 = .ok (.goto (-27), 3) := by decide +kernel
theorem dX1_advance_83 : decode cX1_advance 83 = .ok (.aload_n 0, 1) := by decide +kernel
theorem dX1_advance_84 : decode cX1_advance 84 = .ok (.getfield 12, 3) := by decide +kernel
theorem dX1_advance_87 : decode cX1_advance 87 = .ok (.iload_n 2, 1) := by decide +kernel
theorem dX1_advance_88 : decode cX1_advance 88 = .ok (.iload_n 3, 1) := by decide +kernel
theorem dX1_advance_89 : decode cX1_advance 89 = .ok (.invokevirtual 57, 3) := by decide +kernel
theorem dX1_advance_92 : decode cX1_advance 92 = .ok (.iload_n 2, 1) := by decide +kernel
theorem dX1_advance_93 : decode cX1_advance 93 = .ok (.iconst 1, 1) := by decide +kernel
theorem dX1_advance_94 : decode cX1_advance 94 = .ok (.iadd, 1) := by decide +kernel
theorem dX1_advance_95 : decode cX1_advance 95 = .ok (.istore 4, 2) := by decide +kernel
theorem dX1_advance_97 : decode cX1_advance 97 = .ok (.iload_n 1, 1) := by decide +kernel
theorem dX1_advance_98 : decode cX1_advance 98 = .ok (.istore 5, 2) := by decide +kernel
theorem dX1_advance_100 : decode cX1_advance 100 = .ok (.iload 4, 2) := by decide +kernel
theorem dX1_advance_102 : decode cX1_advance 102 = .ok (.iload 5, 2) := by decide +kernel
theorem dX1_advance_104 : decode cX1_advance 104 = .ok (.if_icmp .ge 23, 3) := by decide +kernel
theorem dX1_advance_107 : decode cX1_advance 107 = .ok (.aload_n 0, 1) := by decide +kernel
theorem dX1_advance_108 : decode cX1_advance 108 = .ok (.getfield 12, 3) := by decide +kernel
theorem dX1_advance_111 : decode cX1_advance 111 = .ok (.iload 4, 2) := by decide +kernel
theorem dX1_advance_113 : decode cX1_advance 113 = .ok (.iload 5, 2) := by decide +kernel
theorem dX1_advance_115 : decode cX1_advance 115 = .ok (.invokevirtual 57, 3) := by decide +kernel
theorem dX1_advance_118 : decode cX1_advance 118 = .ok (.iinc 4 1, 3) := by decide +kernel
theorem dX1_advance_121 : decode cX1_advance 121 = .ok (.iinc 5 (-1), 3) := by decide +kernel
theorem dX1_advance_124 : decode cX1_advance 124 = .ok (.goto (-24), 3) := by decide +kernel
theorem dX1_advance_127 : decode cX1_advance 127 = .ok (.iconst 1, 1) := by decide +kernel
theorem dX1_advance_128 : decode cX1_advance 128 = .ok (.ireturn, 1) := by decide +kernel
