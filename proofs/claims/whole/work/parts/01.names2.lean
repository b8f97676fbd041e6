theorem dX1_measure_0 : decode cX1_measure 0 = .ok (.iconst 1, 1) := by decide +kernel
theorem dX1_measure_1 : decode cX1_measure 1 = .ok (.istore_n 2, 1) := by decide +kernel
theorem dX1_measure_2 : decode cX1_measure 2 = .ok (.iconst 0, 1) := by decide +kernel
theorem dX1_measure_3 : decode cX1_measure 3 = .ok (.istore_n 3, 1) := by decide +kernel
theorem dX1_measure_4 : decode cX1_measure 4 = .ok (.iload_n 2, 1) := by decide +kernel
theorem dX1_measure_5 : decode cX1_measure 5 = .ok (.ifCond .eq 144, 3) := by decide +kernel
theorem dX1_measure_8 : decode cX1_measure 8 = .ok (.iload_n 3, 1) := by decide +kernel
theorem dX1_measure_9 : decode cX1_measure 9 = .ok (.bipush 8, 2) := by decide +kernel
theorem dX1_measure_11 : decode cX1_measure 11 = .ok (.if_icmp .ge 138, 3) := by decide +kernel
theorem dX1_measure_14 : decode cX1_measure 14 = .ok (.iconst 0, 1) := by decide +kernel
theorem dX1_measure_15 : decode cX1_measure 15 = .ok (.istore_n 2, 1) := by decide +kernel
theorem dX1_measure_16 : decode cX1_measure 16 = .ok (.iconst 0, 1) := by decide +kernel
theorem dX1_measure_17 : decode cX1_measure 17 = .ok (.istore 4, 2) := by decide +kernel
theorem dX1_measure_19 : decode cX1_measure 19 = .ok (.iload 4, 2) := by decide +kernel
theorem dX1_measure_21 : decode cX1_measure 21 = .ok (.iconst 2, 1) := by decide +kernel
theorem dX1_measure_22 : decode cX1_measure 22 = .ok (.aload_n 0, 1) := by decide +kernel
theorem dX1_measure_23 : decode cX1_measure 23 = .ok (.getfield 12, 3) := by decide +kernel
theorem dX1_measure_26 : decode cX1_measure 26 = .ok (.getfield 40, 3) := by decide +kernel
theorem dX1_measure_29 : decode cX1_measure 29 = .ok (.imul, 1) := by decide +kernel
theorem dX1_measure_30 : decode cX1_measure 30 = .ok (.if_icmp .ge 113, 3) := by decide +kernel
theorem dX1_measure_33 : decode cX1_measure 33 = .ok (.aload_n 0, 1) := by decide +kernel
theorem dX1_measure_34 : decode cX1_measure 34 = .ok (.getfield 28, 3) := by decide +kernel
theorem dX1_measure_37 : decode cX1_measure 37 = .ok (.iload 4, 2) := by decide +kernel
theorem dX1_measure_39 : decode cX1_measure 39 = .ok (.iaload, 1) := by decide +kernel
theorem dX1_measure_40 : decode cX1_measure 40 = .ok (.ifCond .le 15, 3) := by decide +kernel
theorem dX1_measure_43 : decode cX1_measure 43 = .ok (.iload 4, 2) := by decide +kernel
theorem dX1_measure_45 : decode cX1_measure 45 = .ok (.iconst 1, 1) := by decide +kernel
theorem dX1_measure_46 : decode cX1_measure 46 = .ok (.ishr, 1) := by decide +kernel
theorem dX1_measure_47 : decode cX1_measure 47 = .ok (.iload_n 1, 1) := by decide +kernel
theorem dX1_measure_48 : decode cX1_measure 48 = .ok (.if_icmp .eq 7, 3) := by decide +kernel
theorem dX1_measure_51 : decode cX1_measure 51 = .ok (.iconst 1, 1) := by decide +kernel
theorem dX1_measure_52 : decode cX1_measure 52 = .ok (.goto 4, 3) := by decide +kernel
theorem dX1_measure_55 : decode cX1_measure 55 = .ok (.iconst 0, 1) := by decide +kernel
theorem dX1_measure_56 : decode cX1_measure 56 = .ok (.istore 5, 2) := by decide +kernel
theorem dX1_measure_58 : decode cX1_measure 58 = .ok (.iload 5, 2) := by decide +kernel
theorem dX1_measure_60 : decode cX1_measure 60 = .ok (.ifCond .eq 77, 3) := by decide +kernel
theorem dX1_measure_63 : decode cX1_measure 63 = .ok (.aload_n 0, 1) := by decide +kernel
theorem dX1_measure_64 : decode cX1_measure 64 = .ok (.getfield 34, 3) := by decide +kernel
theorem dX1_measure_67 : decode cX1_measure 67 = .ok (.aload_n 0, 1) := by decide +kernel
theorem dX1_measure_68 : decode cX1_measure 68 = .ok (.getfield 18, 3) := by decide +kernel
theorem dX1_measure_71 : decode cX1_measure 71 = .ok (.iload 4, 2) := by decide +kernel
theorem dX1_measure_73 : decode cX1_measure 73 = .ok (.iaload, 1) := by decide +kernel
theorem dX1_measure_74 : decode cX1_measure 74 = .ok (.iaload, 1) := by decide +kernel
theorem dX1_measure_75 : decode cX1_measure 75 = .ok (.ldc 77, 2) := by decide +kernel
theorem dX1_measure_77 : decode cX1_measure 77 = .ok (.if_icmp .ge 60, 3) := by decide +kernel
theorem dX1_measure_80 : decode cX1_measure 80 = .ok (.aload_n 0, 1) := by decide +kernel
theorem dX1_measure_81 : decode cX1_measure 81 = .ok (.iload 4, 2) := by decide +kernel
theorem dX1_measure_83 : decode cX1_measure 83 = .ok (.invokevirtual 85, 3) := by decide +kernel
theorem dX1_measure_86 : decode cX1_measure 86 = .ok (.ifCond .eq 51, 3) := by decide +kernel
theorem dX1_measure_89 : decode cX1_measure 89 = .ok (.aload_n 0, 1) := by decide +kernel
theorem dX1_measure_90 : decode cX1_measure 90 = .ok (.getfield 34, 3) := by decide +kernel
theorem dX1_measure_93 : decode cX1_measure 93 = .ok (.aload_n 0, 1) := by decide +kernel
theorem dX1_measure_94 : decode cX1_measure 94 = .ok (.getfield 22, 3) := by decide +kernel
theorem dX1_measure_97 : decode cX1_measure 97 = .ok (.iload 4, 2) := by decide +kernel
theorem dX1_measure_99 : decode cX1_measure 99 = .ok (.iaload, 1) := by decide +kernel
theorem dX1_measure_100 : decode cX1_measure 100 = .ok (.aload_n 0, 1) := by decide +kernel
theorem dX1_measure_101 : decode cX1_measure 101 = .ok (.getfield 34, 3) := by decide +kernel
theorem dX1_measure_104 : decode cX1_measure 104 = .ok (.aload_n 0, 1) := by decide +kernel
theorem dX1_measure_105 : decode cX1_measure 105 = .ok (.getfield 18, 3) := by decide +kernel
theorem dX1_measure_108 : decode cX1_measure 108 = .ok (.iload 4, 2) := by decide +kernel
theorem dX1_measure_110 : decode cX1_measure 110 = .ok (.iaload, 1) := by decide +kernel
theorem dX1_measure_111 : decode cX1_measure 111 = .ok (.iaload, 1) := by decide +kernel
theorem dX1_measure_112 : decode cX1_measure 112 = .ok (.aload_n 0, 1) := by decide +kernel
theorem dX1_measure_113 : decode cX1_measure 113 = .ok (.getfield 25, 3) := by decide +kernel
theorem dX1_measure_116 : decode cX1_measure 116 = .ok (.iload 4, 2) := by decide +kernel
theorem dX1_measure_118 : decode cX1_measure 118 = .ok (.iaload, 1) := by decide +kernel
theorem dX1_measure_119 : decode cX1_measure 119 = .ok (.iadd, 1) := by decide +kernel
theorem dX1_measure_120 : decode cX1_measure 120 = .ok (.iastore, 1) := by decide +kernel
theorem dX1_measure_121 : decode cX1_measure 121 = .ok (.aload_n 0, 1) := by decide +kernel
theorem dX1_measure_122 : decode cX1_measure 122 = .ok (.getfield 37, 3) := by decide +kernel
theorem dX1_measure_125 : decode cX1_measure 125 = .ok (.aload_n 0, 1) := by decide +kernel
theorem dX1_measure_126 : decode cX1_measure 126 = .ok (.getfield 22, 3) := by decide +kernel
theorem dX1_measure_129 : decode cX1_measure 129 = .ok (.iload 4, 2) := by decide +kernel
theorem dX1_measure_131 : decode cX1_measure 131 = .ok (.iaload, 1) := by decide +kernel
theorem dX1_measure_132 : decode cX1_measure 132 = .ok (.iload 4, 2) := by decide +kernel
theorem dX1_measure_134 : decode cX1_measure 134 = .ok (.iastore, 1) := by decide +kernel
theorem dX1_measure_135 : decode cX1_measure 135 = .ok (.iconst 1, 1) := by decide +kernel
theorem dX1_measure_136 : decode cX1_measure 136 = .ok (.istore_n 2, 1) := by decide +kernel
theorem dX1_measure_137 : decode cX1_measure 137 = .ok (.iinc 4 1, 3) := by decide +kernel
theorem dX1_measure_140 : decode cX1_measure 140 = .ok (.goto (-121), 3) := by decide +kernel
theorem dX1_measure_143 : decode cX1_measure 143 = .ok (.iinc 3 1, 3) := by decide +kernel
theorem dX1_measure_146 : decode cX1_measure 146 = .ok (.goto (-142), 3) := by decide +kernel
theorem dX1_measure_149 : decode cX1_measure 149 = .ok (.return_, 1) := by decide +kernel
set_option maxRecDepth 20000 in
theorem ggX2_init_X1_init : GoodIn wsX2_init wsX1_init := goodIn_r _ [11, 12, 2, 3, 13, 14, 15, 16, 17, 18, 19, 20, 21, 22, 23, 24, 25, 26, 27, 28, 29, 30, 31, 32, 43, 44, 45, 46, 47, 48, 33, 34, 35, 36, 37, 38, 39, 40] (by decide +kernel) (by decide +kernel)
set_option maxRecDepth 20000 in
theorem gX2_init_X1_init_n11 : GoodIn wsX2_init (wsX1_init) := ggX2_init_X1_init
theorem dX2_init_0 : decode cX2_init 0 = .ok (.aload_n 0, 1) := by decide +kernel
theorem dX2_init_1 : decode cX2_init 1 = .ok (.invokespecial 3, 3) := by decide +kernel
theorem dX2_init_4 : decode cX2_init 4 = .ok (.aload_n 0, 1) := by decide +kernel
theorem dX2_init_5 : decode cX2_init 5 = .ok (.new 9, 3) := by decide +kernel
theorem dX2_init_8 : decode cX2_init 8 = .ok (.dup, 1) := by decide +kernel
theorem dX2_init_9 : decode cX2_init 9 = .ok (.invokespecial 11, 3) := by decide +kernel
theorem dX2_init_12 : decode cX2_init 12 = .ok (.putfield 12, 3) := by decide +kernel
theorem dX2_init_15 : decode cX2_init 15 = .ok (.aload_n 0, 1) := by decide +kernel
theorem dX2_init_16 : decode cX2_init 16 = .ok (.aload_n 0, 1) := by decide +kernel
theorem dX2_init_17 : decode cX2_init 17 = .ok (.getfield 12, 3) := by decide +kernel
theorem dX2_init_20 : decode cX2_init 20 = .ok (.getfield 16, 3) := by decide +kernel
theorem dX2_init_23 : decode cX2_init 23 = .ok (.putfield 20, 3) := by decide +kernel
theorem dX2_init_26 : decode cX2_init 26 = .ok (.return_, 1) := by decide +kernel
set_option maxRecDepth 20000 in
theorem ggX2_add_X2_isNode : GoodIn wsX2_add wsX2_isNode := goodIn_r _ [12] (by decide +kernel) (by decide +kernel)
set_option maxRecDepth 20000 in
theorem gX2_add_X2_isNode : GoodIn wsX2_add (va_wsS RX2 21 yX2_isNode wsX2_isNode) := goodIn_app (goodIn_of _ (by decide +kernel)) ggX2_add_X2_isNode
set_option maxRecDepth 20000 in
theorem ggX2_add_X2_isArcData : GoodIn wsX2_add wsX2_isArcData := goodIn_r _ [15] (by decide +kernel) (by decide +kernel)
set_option maxRecDepth 20000 in
theorem gX2_add_X2_isArcData : GoodIn wsX2_add (va_wsS RX2 25 yX2_isArcData wsX2_isArcData) := goodIn_app (goodIn_of _ (by decide +kernel)) ggX2_add_X2_isArcData
theorem dX2_add_0 : decode cX2_add 0 = .ok (.iload_n 1, 1) := by decide +kernel
theorem dX2_add_1 : decode cX2_add 1 = .ok (.invokestatic 21, 3) := by decide +kernel
theorem dX2_add_4 : decode cX2_add 4 = .ok (.ifCond .eq 24, 3) := by decide +kernel
theorem dX2_add_7 : decode cX2_add 7 = .ok (.iload_n 2, 1) := by decide +kernel
theorem dX2_add_8 : decode cX2_add 8 = .ok (.invokestatic 21, 3) := by decide +kernel
theorem dX2_add_11 : decode cX2_add 11 = .ok (.ifCond .eq 17, 3) := by decide +kernel
theorem dX2_add_14 : decode cX2_add 14 = .ok (.iload_n 1, 1) := by decide +kernel
theorem dX2_add_15 : decode cX2_add 15 = .ok (.iload_n 2, 1) := by decide +kernel
theorem dX2_add_16 : decode cX2_add 16 = .ok (.if_icmp .eq 12, 3) := by decide +kernel
theorem dX2_add_19 : decode cX2_add 19 = .ok (.iload_n 3, 1) := by decide +kernel
theorem dX2_add_20 : decode cX2_add 20 = .ok (.iload 4, 2) := by decide +kernel
theorem dX2_add_22 : decode cX2_add 22 = .ok (.invokestatic 25, 3) := by decide +kernel
theorem dX2_add_25 : decode cX2_add 25 = .ok (.ifCond .ne 6, 3) := by decide +kernel
theorem dX2_add_28 : decode cX2_add 28 = .ok (.ldc 29, 2) := by decide +kernel
theorem dX2_add_30 : decode cX2_add 30 = .ok (.ireturn, 1) := by decide +kernel
theorem dX2_add_31 : decode cX2_add 31 = .ok (.aload_n 0, 1) := by decide +kernel
theorem dX2_add_32 : decode cX2_add 32 = .ok (.getfield 20, 3) := by decide +kernel
theorem dX2_add_35 : decode cX2_add 35 = .ok (.getfield 30, 3) := by decide +kernel
theorem dX2_add_38 : decode cX2_add 38 = .ok (.bipush 20, 2) := by decide +kernel
theorem dX2_add_40 : decode cX2_add 40 = .ok (.if_icmp .lt 6, 3) := by decide +kernel
theorem dX2_add_43 : decode cX2_add 43 = .ok (.ldc 36, 2) := by decide +kernel
theorem dX2_add_45 : decode cX2_add 45 = .ok (.ireturn, 1) := by decide +kernel
theorem dX2_add_46 : decode cX2_add 46 = .ok (.aload_n 0, 1) := by decide +kernel
theorem dX2_add_47 : decode cX2_add 47 = .ok (.getfield 20, 3) := by decide +kernel
theorem dX2_add_50 : decode cX2_add 50 = .ok (.getfield 30, 3) := by decide +kernel
theorem dX2_add_53 : decode cX2_add 53 = .ok (.istore 5, 2) := by decide +kernel
theorem dX2_add_55 : decode cX2_add 55 = .ok (.aload_n 0, 1) := by decide +kernel
theorem dX2_add_56 : decode cX2_add 56 = .ok (.getfield 20, 3) := by decide +kernel
theorem dX2_add_59 : decode cX2_add 59 = .ok (.getfield 37, 3) := by decide +kernel
theorem dX2_add_62 : decode cX2_add 62 = .ok (.iload 5, 2) := by decide +kernel
theorem dX2_add_64 : decode cX2_add 64 = .ok (.iload_n 1, 1) := by decide +kernel
theorem dX2_add_65 : decode cX2_add 65 = .ok (.iastore, 1) := by decide +kernel
theorem dX2_add_66 : decode cX2_add 66 = .ok (.aload_n 0, 1) := by decide +kernel
theorem dX2_add_67 : decode cX2_add 67 = .ok (.getfield 20, 3) := by decide +kernel
theorem dX2_add_70 : decode cX2_add 70 = .ok (.getfield 41, 3) := by decide +kernel
theorem dX2_add_73 : decode cX2_add 73 = .ok (.iload 5, 2) := by decide +kernel
theorem dX2_add_75 : decode cX2_add 75 = .ok (.iload_n 2, 1) := by decide +kernel
theorem dX2_add_76 : decode cX2_add 76 = .ok (.iastore, 1) := by decide +kernel
theorem dX2_add_77 : decode cX2_add 77 = .ok (.aload_n 0, 1) := by decide +kernel
theorem dX2_add_78 : decode cX2_add 78 = .ok (.getfield 20, 3) := by decide +kernel
theorem dX2_add_81 : decode cX2_add 81 = .ok (.getfield 44, 3) := by decide +kernel
theorem dX2_add_84 : decode cX2_add 84 = .ok (.iload 5, 2) := by decide +kernel
theorem dX2_add_86 : decode cX2_add 86 = .ok (.iload_n 3, 1) := by decide +kernel
theorem dX2_add_87 : decode cX2_add 87 = .ok (.iastore, 1) := by decide +kernel
theorem dX2_add_88 : decode cX2_add 88 = .ok (.aload_n 0, 1) := by decide +kernel
theorem dX2_add_89 : decode cX2_add 89 = .ok (.getfield 20, 3) := by decide +kernel
theorem dX2_add_92 : decode cX2_add 92 = .ok (.getfield 47, 3) := by decide +kernel
theorem dX2_add_95 : decode cX2_add 95 = .ok (.iload 5, 2) := by decide +kernel
theorem dX2_add_97 : decode cX2_add 97 = .ok (.iload 4, 2) := by decide +kernel
theorem dX2_add_99 : decode cX2_add 99 = .ok (.iastore, 1) := by decide +kernel
theorem dX2_add_100 : decode cX2_add 100 = .ok (.aload_n 0, 1) := by decide +kernel
theorem dX2_add_101 : decode cX2_add 101 = .ok (.getfield 20, 3) := by decide +kernel
theorem dX2_add_104 : decode cX2_add 104 = .ok (.dup, 1) := by decide +kernel
theorem dX2_add_105 : decode cX2_add 105 = .ok (.getfield 30, 3) := by decide +kernel
theorem dX2_add_108 : decode cX2_add 108 = .ok (.iconst 1, 1) := by decide +kernel
theorem dX2_add_109 : decode cX2_add 109 = .ok (.iadd, 1) := by decide +kernel
theorem dX2_add_110 : decode cX2_add 110 = .ok (.putfield 30, 3) := by decide +kernel
theorem dX2_add_113 : decode cX2_add 113 = .ok (.iload 5, 2) := by decide +kernel
theorem dX2_add_115 : decode cX2_add 115 = .ok (.ireturn, 1) := by decide +kernel
set_option maxRecDepth 20000 in
theorem ggX2_change_X2_isArc : GoodIn wsX2_change wsX2_isArc := goodIn_r _ [8, 1, 9, 13, 14, 15, 16, 17, 18, 19, 20] (by decide +kernel) (by decide +kernel)
set_option maxRecDepth 20000 in
theorem gX2_change_X2_isArc : GoodIn wsX2_change (wsV RX2 50 RX2 yX2_isArc wsX2_isArc) := goodIn_app (goodIn_of _ (by decide +kernel)) ggX2_change_X2_isArc
set_option maxRecDepth 20000 in
theorem ggX2_change_X2_isArcData : GoodIn wsX2_change wsX2_isArcData := goodIn_r _ [12] (by decide +kernel) (by decide +kernel)
set_option maxRecDepth 20000 in
theorem gX2_change_X2_isArcData : GoodIn wsX2_change (va_wsS RX2 25 yX2_isArcData wsX2_isArcData) := goodIn_app (goodIn_of _ (by decide +kernel)) ggX2_change_X2_isArcData
theorem dX2_change_0 : decode cX2_change 0 = .ok (.aload_n 0, 1) := by decide +kernel
theorem dX2_change_1 : decode cX2_change 1 = .ok (.iload_n 1, 1) := by decide +kernel
theorem dX2_change_2 : decode cX2_change 2 = .ok (.invokevirtual 50, 3) := by decide +kernel
theorem dX2_change_5 : decode cX2_change 5 = .ok (.ifCond .eq 11, 3) := by decide +kernel
theorem dX2_change_8 : decode cX2_change 8 = .ok (.iload_n 2, 1) := by decide +kernel
theorem dX2_change_9 : decode cX2_change 9 = .ok (.iload_n 3, 1) := by decide +kernel
theorem dX2_change_10 : decode cX2_change 10 = .ok (.invokestatic 25, 3) := by decide +kernel
theorem dX2_change_13 : decode cX2_change 13 = .ok (.ifCond .ne 5, 3) := by decide +kernel
theorem dX2_change_16 : decode cX2_change 16 = .ok (.iconst 0, 1) := by decide +kernel
theorem dX2_change_17 : decode cX2_change 17 = .ok (.ireturn, 1) := by decide +kernel
theorem dX2_change_18 : decode cX2_change 18 = .ok (.aload_n 0, 1) := by decide +kernel
theorem dX2_change_19 : decode cX2_change 19 = .ok (.getfield 20, 3) := by decide +kernel
theorem dX2_change_22 : decode cX2_change 22 = .ok (.getfield 44, 3) := by decide +kernel
theorem dX2_change_25 : decode cX2_change 25 = .ok (.iload_n 1, 1) := by decide +kernel
theorem dX2_change_26 : decode cX2_change 26 = .ok (.iload_n 2, 1) := by decide +kernel
theorem dX2_change_27 : decode cX2_change 27 = .ok (.iastore, 1) := by decide +kernel
theorem dX2_change_28 : decode cX2_change 28 = .ok (.aload_n 0, 1) := by decide +kernel
theorem dX2_change_29 : decode cX2_change 29 = .ok (.getfield 20, 3) := by decide +kernel
theorem dX2_change_32 : decode cX2_change 32 = .ok (.getfield 47, 3) := by decide +kernel
theorem dX2_change_35 : decode cX2_change 35 = .ok (.iload_n 1, 1) := by decide +kernel
theorem dX2_change_36 : decode cX2_change 36 = .ok (.iload_n 3, 1) := by decide +kernel
theorem dX2_change_37 : decode cX2_change 37 = .ok (.iastore, 1) := by decide +kernel
theorem dX2_change_38 : decode cX2_change 38 = .ok (.iconst 1, 1) := by decide +kernel
theorem dX2_change_39 : decode cX2_change 39 = .ok (.ireturn, 1) := by decide +kernel
set_option maxRecDepth 20000 in
theorem ggX2_supply_X2_isNode : GoodIn wsX2_supply wsX2_isNode := goodIn_r _ [6] (by decide +kernel) (by decide +kernel)
set_option maxRecDepth 20000 in
theorem gX2_supply_X2_isNode : GoodIn wsX2_supply (va_wsS RX2 21 yX2_isNode wsX2_isNode) := goodIn_app (goodIn_of _ (by decide +kernel)) ggX2_supply_X2_isNode
theorem dX2_supply_0 : decode cX2_supply 0 = .ok (.iload_n 1, 1) := by decide +kernel
theorem dX2_supply_1 : decode cX2_supply 1 = .ok (.invokestatic 21, 3) := by decide +kernel
theorem dX2_supply_4 : decode cX2_supply 4 = .ok (.ifCond .eq 15, 3) := by decide +kernel
theorem dX2_supply_7 : decode cX2_supply 7 = .ok (.iload_n 2, 1) := by decide +kernel
theorem dX2_supply_8 : decode cX2_supply 8 = .ok (.bipush (-30), 2) := by decide +kernel
theorem dX2_supply_10 : decode cX2_supply 10 = .ok (.if_icmp .lt 9, 3) := by decide +kernel
theorem dX2_supply_13 : decode cX2_supply 13 = .ok (.iload_n 2, 1) := by decide +kernel
theorem dX2_supply_14 : decode cX2_supply 14 = .ok (.bipush 30, 2) := by decide +kernel
theorem dX2_supply_16 : decode cX2_supply 16 = .ok (.if_icmp .le 5, 3) := by decide +kernel
theorem dX2_supply_19 : decode cX2_supply 19 = .ok (.iconst 0, 1) := by decide +kernel
theorem dX2_supply_20 : decode cX2_supply 20 = .ok (.ireturn, 1) := by decide +kernel
theorem dX2_supply_21 : decode cX2_supply 21 = .ok (.aload_n 0, 1) := by decide +kernel
theorem dX2_supply_22 : decode cX2_supply 22 = .ok (.getfield 20, 3) := by decide +kernel
theorem dX2_supply_25 : decode cX2_supply 25 = .ok (.getfield 53, 3) := by decide +kernel
theorem dX2_supply_28 : decode cX2_supply 28 = .ok (.iload_n 1, 1) := by decide +kernel
theorem dX2_supply_29 : decode cX2_supply 29 = .ok (.iload_n 2, 1) := by decide +kernel
theorem dX2_supply_30 : decode cX2_supply 30 = .ok (.iastore, 1) := by decide +kernel
theorem dX2_supply_31 : decode cX2_supply 31 = .ok (.iconst 1, 1) := by decide +kernel
theorem dX2_supply_32 : decode cX2_supply 32 = .ok (.ireturn, 1) := by decide +kernel
theorem dX2_clear_0 : decode cX2_clear 0 = .ok (.aload_n 0, 1) := by decide +kernel
theorem dX2_clear_1 : decode cX2_clear 1 = .ok (.getfield 20, 3) := by decide +kernel
theorem dX2_clear_4 : decode cX2_clear 4 = .ok (.iconst 0, 1) := by decide +kernel
theorem dX2_clear_5 : decode cX2_clear 5 = .ok (.putfield 30, 3) := by decide +kernel
theorem dX2_clear_8 : decode cX2_clear 8 = .ok (.iconst 0, 1) := by decide +kernel
theorem dX2_clear_9 : decode cX2_clear 9 = .ok (.istore_n 1, 1) := by decide +kernel
theorem dX2_clear_10 : decode cX2_clear 10 = .ok (.iload_n 1, 1) := by decide +kernel
theorem dX2_clear_11 : decode cX2_clear 11 = .ok (.bipush 8, 2) := by decide +kernel
theorem dX2_clear_13 : decode cX2_clear 13 = .ok (.if_icmp .ge 19, 3) := by decide +kernel
theorem dX2_clear_16 : decode cX2_clear 16 = .ok (.aload_n 0, 1) := by decide +kernel
theorem dX2_clear_17 : decode cX2_clear 17 = .ok (.getfield 20, 3) := by decide +kernel
theorem dX2_clear_20 : decode cX2_clear 20 = .ok (.getfield 53, 3) := by decide +kernel
theorem dX2_clear_23 : decode cX2_clear 23 = .ok (.iload_n 1, 1) := by decide +kernel
theorem dX2_clear_24 : decode cX2_clear 24 = .ok (.iconst 0, 1) := by decide +kernel
theorem dX2_clear_25 : decode cX2_clear 25 = .ok (.iastore, 1) := by decide +kernel
theorem dX2_clear_26 : decode cX2_clear 26 = .ok (.iinc 1 1, 3) := by decide +kernel
theorem dX2_clear_29 : decode cX2_clear 29 = .ok (.goto (-19), 3) := by decide +kernel
theorem dX2_clear_32 : decode cX2_clear 32 = .ok (.return_, 1) := by decide +kernel
theorem dX2_arcs_0 : decode cX2_arcs 0 = .ok (.aload_n 0, 1) := by decide +kernel
theorem dX2_arcs_1 : decode cX2_arcs 1 = .ok (.getfield 20, 3) := by decide +kernel
theorem dX2_arcs_4 : decode cX2_arcs 4 = .ok (.getfield 30, 3) := by decide +kernel
theorem dX2_arcs_7 : decode cX2_arcs 7 = .ok (.ireturn, 1) := by decide +kernel
set_option maxRecDepth 20000 in
theorem ggX2_state_X1_lay : GoodIn wsX2_state wsX1_lay := goodIn_r _ [8, 9, 10, 11, 12, 13, 14, 15, 16, 78, 79, 80, 81, 82, 83, 84, 85, 86, 87, 88, 89, 90, 91] (by decide +kernel) (by decide +kernel)
set_option maxRecDepth 20000 in
theorem gX2_state_X1_lay : GoodIn wsX2_state (wsV RX2 56 RX1 yX1_lay wsX1_lay) := goodIn_app (goodIn_of _ (by decide +kernel)) ggX2_state_X1_lay
set_option maxRecDepth 20000 in
theorem ggX2_state_X1_route : GoodIn wsX2_state wsX1_route := goodIn_r _ [20, 21, 22, 23, 7, 24, 25, 9, 10, 26, 13, 11, 15, 27, 28, 29, 30, 31, 32, 33, 34, 35, 36, 37, 38, 39, 40, 41, 12, 14, 42, 43, 44, 45, 46, 47, 48, 49, 50, 51, 52, 53, 54, 55, 56, 57, 58, 59, 60, 61, 62, 63, 64, 65, 66, 67, 68, 69, 70, 71, 78, 79, 80, 81, 82, 83, 84, 85, 86, 87, 88, 89, 90, 91] (by decide +kernel) (by decide +kernel)
set_option maxRecDepth 20000 in
theorem gX2_state_X1_route : GoodIn wsX2_state (wsV RX2 60 RX1 yX1_route wsX1_route) := goodIn_app (goodIn_of _ (by decide +kernel)) ggX2_state_X1_route
set_option maxRecDepth 20000 in
theorem ggX2_state_X1_isBalanced : GoodIn wsX2_state wsX1_isBalanced := goodIn_r _ [75, 40, 78, 79, 80, 81, 82, 83, 84, 85] (by decide +kernel) (by decide +kernel)
set_option maxRecDepth 20000 in
theorem gX2_state_X1_isBalanced : GoodIn wsX2_state (wsV RX2 64 RX1 yX1_isBalanced wsX1_isBalanced) := goodIn_app (goodIn_of _ (by decide +kernel)) ggX2_state_X1_isBalanced
theorem dX2_state_0 : decode cX2_state 0 = .ok (.aload_n 0, 1) := by decide +kernel
theorem dX2_state_1 : decode cX2_state 1 = .ok (.getfield 12, 3) := by decide +kernel
theorem dX2_state_4 : decode cX2_state 4 = .ok (.iconst 1, 1) := by decide +kernel
theorem dX2_state_5 : decode cX2_state 5 = .ok (.invokevirtual 56, 3) := by decide +kernel
theorem dX2_state_8 : decode cX2_state 8 = .ok (.aload_n 0, 1) := by decide +kernel
theorem dX2_state_9 : decode cX2_state 9 = .ok (.getfield 12, 3) := by decide +kernel
theorem dX2_state_12 : decode cX2_state 12 = .ok (.invokevirtual 60, 3) := by decide +kernel
theorem dX2_state_15 : decode cX2_state 15 = .ok (.ifCond .eq 20, 3) := by decide +kernel
theorem dX2_state_18 : decode cX2_state 18 = .ok (.aload_n 0, 1) := by decide +kernel
theorem dX2_state_19 : decode cX2_state 19 = .ok (.getfield 12, 3) := by decide +kernel
theorem dX2_state_22 : decode cX2_state 22 = .ok (.invokevirtual 64, 3) := by decide +kernel
theorem dX2_state_25 : decode cX2_state 25 = .ok (.ifCond .eq 7, 3) := by decide +kernel
theorem dX2_state_28 : decode cX2_state 28 = .ok (.iconst 0, 1) := by decide +kernel
theorem dX2_state_29 : decode cX2_state 29 = .ok (.goto 5, 3) := by decide +kernel
theorem dX2_state_32 : decode cX2_state 32 = .ok (.ldc 67, 2) := by decide +kernel
theorem dX2_state_34 : decode cX2_state 34 = .ok (.ireturn, 1) := by decide +kernel
theorem dX2_state_35 : decode cX2_state 35 = .ok (.aload_n 0, 1) := by decide +kernel
theorem dX2_state_36 : decode cX2_state 36 = .ok (.getfield 12, 3) := by decide +kernel
theorem dX2_state_39 : decode cX2_state 39 = .ok (.iconst 0, 1) := by decide +kernel
theorem dX2_state_40 : decode cX2_state 40 = .ok (.invokevirtual 56, 3) := by decide +kernel
theorem dX2_state_43 : decode cX2_state 43 = .ok (.aload_n 0, 1) := by decide +kernel
theorem dX2_state_44 : decode cX2_state 44 = .ok (.getfield 12, 3) := by decide +kernel
theorem dX2_state_47 : decode cX2_state 47 = .ok (.invokevirtual 60, 3) := by decide +kernel
theorem dX2_state_50 : decode cX2_state 50 = .ok (.pop, 1) := by decide +kernel
theorem dX2_state_51 : decode cX2_state 51 = .ok (.aload_n 0, 1) := by decide +kernel
theorem dX2_state_52 : decode cX2_state 52 = .ok (.getfield 12, 3) := by decide +kernel
theorem dX2_state_55 : decode cX2_state 55 = .ok (.invokevirtual 64, 3) := by decide +kernel
theorem dX2_state_58 : decode cX2_state 58 = .ok (.ifCond .eq 8, 3) := by decide +kernel
theorem dX2_state_61 : decode cX2_state 61 = .ok (.ldc 68, 2) := by decide +kernel
theorem dX2_state_63 : decode cX2_state 63 = .ok (.goto 5, 3) := by decide +kernel
theorem dX2_state_66 : decode cX2_state 66 = .ok (.ldc 67, 2) := by decide +kernel
theorem dX2_state_68 : decode cX2_state 68 = .ok (.ireturn, 1) := by decide +kernel
set_option maxRecDepth 20000 in
theorem ggX2_cost_X2_state : GoodIn wsX2_cost wsX2_state := goodIn_r _ [6, 1, 7, 8, 9, 10, 11, 12, 13, 14, 15, 16, 17, 18, 19, 20, 21, 22, 23, 24, 25, 26, 27, 28, 29, 30, 31, 32, 33, 34, 35, 36, 37, 38, 39, 40, 41, 42, 43, 44, 45, 46, 47, 48, 49, 50, 51, 52, 53, 54, 55, 56, 57, 58, 59, 60, 61, 62, 63, 64, 65, 66, 67, 68, 69, 70, 71, 72, 73, 74, 75, 76, 77, 78, 79, 80, 85, 86, 87, 88, 89, 90, 91, 92, 93, 94, 95, 96, 97, 98, 99, 100] (by decide +kernel) (by decide +kernel)
set_option maxRecDepth 20000 in
theorem gX2_cost_X2_state : GoodIn wsX2_cost (wsV RX2 69 RX2 yX2_state wsX2_state) := goodIn_app (goodIn_of _ (by decide +kernel)) ggX2_cost_X2_state
set_option maxRecDepth 20000 in
theorem ggX2_cost_X1_costOfFlow : GoodIn wsX2_cost wsX1_costOfFlow := goodIn_r _ [84, 14, 15, 21, 40, 87, 88, 89, 90, 91, 92, 93, 94, 95, 96, 97, 98, 99, 100] (by decide +kernel) (by decide +kernel)
set_option maxRecDepth 20000 in
theorem gX2_cost_X1_costOfFlow : GoodIn wsX2_cost (wsV RX2 73 RX1 yX1_costOfFlow wsX1_costOfFlow) := goodIn_app (goodIn_of _ (by decide +kernel)) ggX2_cost_X1_costOfFlow
theorem dX2_cost_0 : decode cX2_cost 0 = .ok (.aload_n 0, 1) := by decide +kernel
theorem dX2_cost_1 : decode cX2_cost 1 = .ok (.invokevirtual 69, 3) := by decide +kernel
theorem dX2_cost_4 : decode cX2_cost 4 = .ok (.istore_n 1, 1) := by decide +kernel
theorem dX2_cost_5 : decode cX2_cost 5 = .ok (.iload_n 1, 1) := by decide +kernel
theorem dX2_cost_6 : decode cX2_cost 6 = .ok (.ifCond .ne 13, 3) := by decide +kernel
theorem dX2_cost_9 : decode cX2_cost 9 = .ok (.aload_n 0, 1) := by decide +kernel
theorem dX2_cost_10 : decode cX2_cost 10 = .ok (.getfield 12, 3) := by decide +kernel
theorem dX2_cost_13 : decode cX2_cost 13 = .ok (.invokevirtual 73, 3) := by decide +kernel
theorem dX2_cost_16 : decode cX2_cost 16 = .ok (.goto 4, 3) := by decide +kernel
theorem dX2_cost_19 : decode cX2_cost 19 = .ok (.iload_n 1, 1) := by decide +kernel
theorem dX2_cost_20 : decode cX2_cost 20 = .ok (.ireturn, 1) := by decide +kernel
set_option maxRecDepth 20000 in
theorem ggX2_amount_X1_lay : GoodIn wsX2_amount wsX1_lay := goodIn_r _ [7, 8, 9, 10, 11, 12, 13, 14, 15, 89, 90, 91, 92, 93, 94, 95, 96, 97, 98, 99, 100, 101, 102] (by decide +kernel) (by decide +kernel)
set_option maxRecDepth 20000 in
theorem gX2_amount_X1_lay : GoodIn wsX2_amount (wsV RX2 56 RX1 yX1_lay wsX1_lay) := goodIn_app (goodIn_of _ (by decide +kernel)) ggX2_amount_X1_lay
set_option maxRecDepth 20000 in
theorem ggX2_amount_X1_route : GoodIn wsX2_amount wsX1_route := goodIn_r _ [19, 20, 21, 22, 6, 23, 24, 8, 9, 25, 12, 10, 14, 26, 27, 28, 29, 30, 31, 32, 33, 34, 35, 36, 37, 38, 39, 40, 11, 13, 41, 42, 43, 44, 45, 46, 47, 48, 49, 50, 51, 52, 53, 54, 55, 56, 57, 58, 59, 60, 61, 62, 63, 64, 65, 66, 67, 68, 69, 70, 89, 90, 91, 92, 93, 94, 95, 96, 97, 98, 99, 100, 101, 102] (by decide +kernel) (by decide +kernel)
set_option maxRecDepth 20000 in
theorem gX2_amount_X1_route : GoodIn wsX2_amount (wsV RX2 60 RX1 yX1_route wsX1_route) := goodIn_app (goodIn_of _ (by decide +kernel)) ggX2_amount_X1_route
set_option maxRecDepth 20000 in
theorem ggX2_amount_X0_totalSupply : GoodIn wsX2_amount wsX0_totalSupply := goodIn_r _ [75, 76, 77, 78, 79, 80, 81, 48, 82, 97, 98, 99, 100, 101, 102] (by decide +kernel) (by decide +kernel)
set_option maxRecDepth 20000 in
theorem gX2_amount_X0_totalSupply : GoodIn wsX2_amount (wsV RX2 76 RX0 yX0_totalSupply wsX0_totalSupply) := goodIn_app (goodIn_of _ (by decide +kernel)) ggX2_amount_X0_totalSupply
set_option maxRecDepth 20000 in
theorem ggX2_amount_X1_totalExcess : GoodIn wsX2_amount wsX1_totalExcess := goodIn_r _ [86, 39, 77, 78, 79, 80, 81, 48, 82, 89, 90, 91, 92, 93, 94, 95, 96] (by decide +kernel) (by decide +kernel)
set_option maxRecDepth 20000 in
theorem gX2_amount_X1_totalExcess : GoodIn wsX2_amount (wsV RX2 79 RX1 yX1_totalExcess wsX1_totalExcess) := goodIn_app (goodIn_of _ (by decide +kernel)) ggX2_amount_X1_totalExcess
theorem dX2_amount_0 : decode cX2_amount 0 = .ok (.aload_n 0, 1) := by decide +kernel
theorem dX2_amount_1 : decode cX2_amount 1 = .ok (.getfield 12, 3) := by decide +kernel
theorem dX2_amount_4 : decode cX2_amount 4 = .ok (.iconst 0, 1) := by decide +kernel
theorem dX2_amount_5 : decode cX2_amount 5 = .ok (.invokevirtual 56, 3) := by decide +kernel
theorem dX2_amount_8 : decode cX2_amount 8 = .ok (.aload_n 0, 1) := by decide +kernel
theorem dX2_amount_9 : decode cX2_amount 9 = .ok (.getfield 12, 3) := by decide +kernel
theorem dX2_amount_12 : decode cX2_amount 12 = .ok (.invokevirtual 60, 3) := by decide +kernel
theorem dX2_amount_15 : decode cX2_amount 15 = .ok (.pop, 1) := by decide +kernel
theorem dX2_amount_16 : decode cX2_amount 16 = .ok (.aload_n 0, 1) := by decide +kernel
theorem dX2_amount_17 : decode cX2_amount 17 = .ok (.getfield 20, 3) := by decide +kernel
theorem dX2_amount_20 : decode cX2_amount 20 = .ok (.invokevirtual 76, 3) := by decide +kernel
theorem dX2_amount_23 : decode cX2_amount 23 = .ok (.aload_n 0, 1) := by decide +kernel
theorem dX2_amount_24 : decode cX2_amount 24 = .ok (.getfield 12, 3) := by decide +kernel
theorem dX2_amount_27 : decode cX2_amount 27 = .ok (.invokevirtual 79, 3) := by decide +kernel
theorem dX2_amount_30 : decode cX2_amount 30 = .ok (.isub, 1) := by decide +kernel
theorem dX2_amount_31 : decode cX2_amount 31 = .ok (.ireturn, 1) := by decide +kernel
set_option maxRecDepth 20000 in
theorem ggX2_bottleneck_X1_lay : GoodIn wsX2_bottleneck wsX1_lay := goodIn_r _ [6, 7, 8, 9, 10, 11, 12, 13, 14, 76, 77, 78, 79, 80, 81, 82, 83, 84, 85, 86, 87, 88, 89] (by decide +kernel) (by decide +kernel)
set_option maxRecDepth 20000 in
theorem gX2_bottleneck_X1_lay : GoodIn wsX2_bottleneck (wsV RX2 56 RX1 yX1_lay wsX1_lay) := goodIn_app (goodIn_of _ (by decide +kernel)) ggX2_bottleneck_X1_lay
set_option maxRecDepth 20000 in
theorem ggX2_bottleneck_X1_route : GoodIn wsX2_bottleneck wsX1_route := goodIn_r _ [18, 19, 20, 21, 5, 22, 23, 7, 8, 24, 11, 9, 13, 25, 26, 27, 28, 29, 30, 31, 32, 33, 34, 35, 36, 37, 38, 39, 10, 12, 40, 41, 42, 43, 44, 45, 46, 47, 48, 49, 50, 51, 52, 53, 54, 55, 56, 57, 58, 59, 60, 61, 62, 63, 64, 65, 66, 67, 68, 69, 76, 77, 78, 79, 80, 81, 82, 83, 84, 85, 86, 87, 88, 89] (by decide +kernel) (by decide +kernel)
set_option maxRecDepth 20000 in
theorem gX2_bottleneck_X1_route : GoodIn wsX2_bottleneck (wsV RX2 60 RX1 yX1_route wsX1_route) := goodIn_app (goodIn_of _ (by decide +kernel)) ggX2_bottleneck_X1_route
set_option maxRecDepth 20000 in
theorem ggX2_bottleneck_X1_nodesBehindExcess : GoodIn wsX2_bottleneck wsX1_nodesBehindExcess := goodIn_r _ [73, 23, 57, 49, 50, 51, 5, 52, 38, 53, 54, 55, 56, 44, 58, 59, 60, 61, 7, 8, 33, 9, 11, 13, 25, 26, 27, 28, 76, 77, 78, 79, 80, 81, 82, 83, 84, 85, 86, 87, 88, 89] (by decide +kernel) (by decide +kernel)
set_option maxRecDepth 20000 in
theorem gX2_bottleneck_X1_nodesBehindExcess : GoodIn wsX2_bottleneck (wsV RX2 82 RX1 yX1_nodesBehindExcess wsX1_nodesBehindExcess) := goodIn_app (goodIn_of _ (by decide +kernel)) ggX2_bottleneck_X1_nodesBehindExcess
theorem dX2_bottleneck_0 : decode cX2_bottleneck 0 = .ok (.aload_n 0, 1) := by decide +kernel
theorem dX2_bottleneck_1 : decode cX2_bottleneck 1 = .ok (.getfield 12, 3) := by decide +kernel
theorem dX2_bottleneck_4 : decode cX2_bottleneck 4 = .ok (.iconst 0, 1) := by decide +kernel
theorem dX2_bottleneck_5 : decode cX2_bottleneck 5 = .ok (.invokevirtual 56, 3) := by decide +kernel
theorem dX2_bottleneck_8 : decode cX2_bottleneck 8 = .ok (.aload_n 0, 1) := by decide +kernel
theorem dX2_bottleneck_9 : decode cX2_bottleneck 9 = .ok (.getfield 12, 3) := by decide +kernel
theorem dX2_bottleneck_12 : decode cX2_bottleneck 12 = .ok (.invokevirtual 60, 3) := by decide +kernel
theorem dX2_bottleneck_15 : decode cX2_bottleneck 15 = .ok (.pop, 1) := by decide +kernel
theorem dX2_bottleneck_16 : decode cX2_bottleneck 16 = .ok (.aload_n 0, 1) := by decide +kernel
theorem dX2_bottleneck_17 : decode cX2_bottleneck 17 = .ok (.getfield 12, 3) := by decide +kernel
theorem dX2_bottleneck_20 : decode cX2_bottleneck 20 = .ok (.invokevirtual 82, 3) := by decide +kernel
theorem dX2_bottleneck_23 : decode cX2_bottleneck 23 = .ok (.ireturn, 1) := by decide +kernel
set_option maxRecDepth 20000 in
theorem ggX2_marginal_X2_isNode : GoodIn wsX2_marginal wsX2_isNode := goodIn_r _ [7] (by decide +kernel) (by decide +kernel)
set_option maxRecDepth 20000 in
theorem gX2_marginal_X2_isNode : GoodIn wsX2_marginal (va_wsS RX2 21 yX2_isNode wsX2_isNode) := goodIn_app (goodIn_of _ (by decide +kernel)) ggX2_marginal_X2_isNode
set_option maxRecDepth 20000 in
theorem ggX2_marginal_X2_state : GoodIn wsX2_marginal wsX2_state := goodIn_r _ [11, 2, 12, 13, 14, 15, 16, 17, 18, 19, 20, 21, 22, 23, 24, 25, 26, 27, 28, 29, 30, 31, 32, 33, 34, 35, 36, 37, 38, 39, 40, 41, 42, 43, 44, 45, 46, 47, 48, 49, 50, 51, 52, 53, 54, 55, 56, 57, 58, 59, 60, 61, 62, 63, 64, 65, 66, 67, 68, 69, 70, 71, 72, 73, 74, 75, 76, 77, 78, 79, 80, 81, 82, 83, 84, 85, 94, 95, 96, 97, 98, 99, 100, 101, 102, 103, 104, 105, 106, 107, 108, 109] (by decide +kernel) (by decide +kernel)
set_option maxRecDepth 20000 in
theorem gX2_marginal_X2_state : GoodIn wsX2_marginal (wsV RX2 69 RX2 yX2_state wsX2_state) := goodIn_app (goodIn_of _ (by decide +kernel)) ggX2_marginal_X2_state
set_option maxRecDepth 20000 in
theorem ggX2_marginal_X1_canReach : GoodIn wsX2_marginal wsX1_canReach := goodIn_r _ [89, 35, 69, 65, 66, 67, 17, 68, 56, 70, 71, 72, 73, 19, 20, 45, 21, 23, 25, 37, 38, 39, 40, 96, 97, 98, 99, 100, 101, 102, 103, 104, 105, 106, 107, 108, 109] (by decide +kernel) (by decide +kernel)
set_option maxRecDepth 20000 in
theorem gX2_marginal_X1_canReach : GoodIn wsX2_marginal (wsV RX2 85 RX1 yX1_canReach wsX1_canReach) := goodIn_app (goodIn_of _ (by decide +kernel)) ggX2_marginal_X1_canReach
set_option maxRecDepth 20000 in
theorem ggX2_marginal_X1_distanceTo : GoodIn wsX2_marginal wsX1_distanceTo := goodIn_r _ [93, 35, 96, 97, 98, 99, 100, 101, 102, 103] (by decide +kernel) (by decide +kernel)
set_option maxRecDepth 20000 in
theorem gX2_marginal_X1_distanceTo : GoodIn wsX2_marginal (wsV RX2 89 RX1 yX1_distanceTo wsX1_distanceTo) := goodIn_app (goodIn_of _ (by decide +kernel)) ggX2_marginal_X1_distanceTo
theorem dX2_marginal_0 : decode cX2_marginal 0 = .ok (.iload_n 1, 1) := by decide +kernel
theorem dX2_marginal_1 : decode cX2_marginal 1 = .ok (.invokestatic 21, 3) := by decide +kernel
theorem dX2_marginal_4 : decode cX2_marginal 4 = .ok (.ifCond .eq 10, 3) := by decide +kernel
theorem dX2_marginal_7 : decode cX2_marginal 7 = .ok (.iload_n 2, 1) := by decide +kernel
theorem dX2_marginal_8 : decode cX2_marginal 8 = .ok (.invokestatic 21, 3) := by decide +kernel
theorem dX2_marginal_11 : decode cX2_marginal 11 = .ok (.ifCond .ne 6, 3) := by decide +kernel
theorem dX2_marginal_14 : decode cX2_marginal 14 = .ok (.ldc 29, 2) := by decide +kernel
theorem dX2_marginal_16 : decode cX2_marginal 16 = .ok (.ireturn, 1) := by decide +kernel
theorem dX2_marginal_17 : decode cX2_marginal 17 = .ok (.aload_n 0, 1) := by decide +kernel
theorem dX2_marginal_18 : decode cX2_marginal 18 = .ok (.invokevirtual 69, 3) := by decide +kernel
theorem dX2_marginal_21 : decode cX2_marginal 21 = .ok (.istore_n 3, 1) := by decide +kernel
theorem dX2_marginal_22 : decode cX2_marginal 22 = .ok (.iload_n 3, 1) := by decide +kernel
theorem dX2_marginal_23 : decode cX2_marginal 23 = .ok (.ifCond .eq 5, 3) := by decide +kernel
theorem dX2_marginal_26 : decode cX2_marginal 26 = .ok (.iload_n 3, 1) := by decide +kernel
theorem dX2_marginal_27 : decode cX2_marginal 27 = .ok (.ireturn, 1) := by decide +kernel
theorem dX2_marginal_28 : decode cX2_marginal 28 = .ok (.aload_n 0, 1) := by decide +kernel
theorem dX2_marginal_29 : decode cX2_marginal 29 = .ok (.getfield 12, 3) := by decide +kernel
theorem dX2_marginal_32 : decode cX2_marginal 32 = .ok (.iload_n 1, 1) := by decide +kernel
theorem dX2_marginal_33 : decode cX2_marginal 33 = .ok (.iload_n 2, 1) := by decide +kernel
theorem dX2_marginal_34 : decode cX2_marginal 34 = .ok (.iconst (-1), 1) := by decide +kernel
theorem dX2_marginal_35 : decode cX2_marginal 35 = .ok (.invokevirtual 85, 3) := by decide +kernel
theorem dX2_marginal_38 : decode cX2_marginal 38 = .ok (.ifCond .eq 14, 3) := by decide +kernel
theorem dX2_marginal_41 : decode cX2_marginal 41 = .ok (.aload_n 0, 1) := by decide +kernel
theorem dX2_marginal_42 : decode cX2_marginal 42 = .ok (.getfield 12, 3) := by decide +kernel
theorem dX2_marginal_45 : decode cX2_marginal 45 = .ok (.iload_n 2, 1) := by decide +kernel
theorem dX2_marginal_46 : decode cX2_marginal 46 = .ok (.invokevirtual 89, 3) := by decide +kernel
theorem dX2_marginal_49 : decode cX2_marginal 49 = .ok (.goto 5, 3) := by decide +kernel
theorem dX2_marginal_52 : decode cX2_marginal 52 = .ok (.ldc 93, 2) := by decide +kernel
theorem dX2_marginal_54 : decode cX2_marginal 54 = .ok (.ireturn, 1) := by decide +kernel
set_option maxRecDepth 20000 in
theorem ggX2_least_X2_isArc : GoodIn wsX2_least wsX2_isArc := goodIn_r _ [7, 8, 9, 100, 101, 102, 103, 104, 105, 106, 107] (by decide +kernel) (by decide +kernel)
set_option maxRecDepth 20000 in
theorem gX2_least_X2_isArc : GoodIn wsX2_least (wsV RX2 50 RX2 yX2_isArc wsX2_isArc) := goodIn_app (goodIn_of _ (by decide +kernel)) ggX2_least_X2_isArc
set_option maxRecDepth 20000 in
theorem ggX2_least_X2_state : GoodIn wsX2_least wsX2_state := goodIn_r _ [13, 2, 14, 15, 16, 17, 18, 19, 20, 21, 22, 23, 24, 25, 26, 27, 28, 29, 30, 31, 32, 33, 34, 35, 36, 37, 38, 39, 40, 41, 42, 43, 44, 45, 46, 47, 48, 49, 50, 51, 52, 53, 54, 55, 56, 57, 58, 59, 60, 61, 62, 63, 64, 65, 66, 67, 68, 69, 70, 71, 72, 73, 74, 75, 76, 77, 78, 79, 80, 81, 82, 83, 84, 85, 86, 87, 100, 101, 108, 109, 110, 111, 112, 113, 114, 115, 102, 103, 104, 105, 106, 107] (by decide +kernel) (by decide +kernel)
set_option maxRecDepth 20000 in
theorem gX2_least_X2_state : GoodIn wsX2_least (wsV RX2 69 RX2 yX2_state wsX2_state) := goodIn_app (goodIn_of _ (by decide +kernel)) ggX2_least_X2_state
set_option maxRecDepth 20000 in
theorem ggX2_least_X2_routeTilted : GoodIn wsX2_least wsX2_routeTilted := goodIn_r _ [91, 2, 16, 17, 18, 19, 20, 21, 22, 23, 24, 25, 26, 27, 28, 92, 93, 94, 95, 29, 30, 31, 32, 33, 34, 35, 36, 37, 38, 39, 40, 41, 42, 43, 44, 45, 46, 47, 48, 49, 50, 51, 52, 53, 54, 55, 56, 57, 58, 59, 60, 61, 62, 63, 64, 65, 66, 67, 68, 69, 70, 71, 72, 73, 74, 75, 76, 77, 78, 79, 80, 81, 82, 83, 100, 101, 108, 109, 110, 111, 112, 113, 114, 115, 102, 103, 104, 105, 106, 107] (by decide +kernel) (by decide +kernel)
set_option maxRecDepth 20000 in
theorem gX2_least_X2_routeTilted : GoodIn wsX2_least (wsV RX2 94 RX2 yX2_routeTilted wsX2_routeTilted) := goodIn_app (goodIn_of _ (by decide +kernel)) ggX2_least_X2_routeTilted
set_option maxRecDepth 20000 in
theorem ggX2_least_X1_flowOf : GoodIn wsX2_least wsX1_flowOf := goodIn_r _ [99, 47, 108, 109, 110, 111, 112, 113, 114, 115] (by decide +kernel) (by decide +kernel)
set_option maxRecDepth 20000 in
theorem gX2_least_X1_flowOf : GoodIn wsX2_least (wsV RX2 97 RX1 yX1_flowOf wsX1_flowOf) := goodIn_app (goodIn_of _ (by decide +kernel)) ggX2_least_X1_flowOf
theorem dX2_least_0 : decode cX2_least 0 = .ok (.aload_n 0, 1) := by decide +kernel
theorem dX2_least_1 : decode cX2_least 1 = .ok (.iload_n 1, 1) := by decide +kernel
theorem dX2_least_2 : decode cX2_least 2 = .ok (.invokevirtual 50, 3) := by decide +kernel
theorem dX2_least_5 : decode cX2_least 5 = .ok (.ifCond .ne 6, 3) := by decide +kernel
theorem dX2_least_8 : decode cX2_least 8 = .ok (.ldc 29, 2) := by decide +kernel
theorem dX2_least_10 : decode cX2_least 10 = .ok (.ireturn, 1) := by decide +kernel
theorem dX2_least_11 : decode cX2_least 11 = .ok (.aload_n 0, 1) := by decide +kernel
theorem dX2_least_12 : decode cX2_least 12 = .ok (.invokevirtual 69, 3) := by decide +kernel
theorem dX2_least_15 : decode cX2_least 15 = .ok (.istore_n 2, 1) := by decide +kernel
theorem dX2_least_16 : decode cX2_least 16 = .ok (.iload_n 2, 1) := by decide +kernel
theorem dX2_least_17 : decode cX2_least 17 = .ok (.ifCond .eq 5, 3) := by decide +kernel
theorem dX2_least_20 : decode cX2_least 20 = .ok (.iload_n 2, 1) := by decide +kernel
theorem dX2_least_21 : decode cX2_least 21 = .ok (.ireturn, 1) := by decide +kernel
theorem dX2_least_22 : decode cX2_least 22 = .ok (.aload_n 0, 1) := by decide +kernel
theorem dX2_least_23 : decode cX2_least 23 = .ok (.iload_n 1, 1) := by decide +kernel
theorem dX2_least_24 : decode cX2_least 24 = .ok (.iconst 1, 1) := by decide +kernel
theorem dX2_least_25 : decode cX2_least 25 = .ok (.invokevirtual 94, 3) := by decide +kernel
theorem dX2_least_28 : decode cX2_least 28 = .ok (.pop, 1) := by decide +kernel
theorem dX2_least_29 : decode cX2_least 29 = .ok (.aload_n 0, 1) := by decide +kernel
theorem dX2_least_30 : decode cX2_least 30 = .ok (.getfield 12, 3) := by decide +kernel
theorem dX2_least_33 : decode cX2_least 33 = .ok (.iload_n 1, 1) := by decide +kernel
theorem dX2_least_34 : decode cX2_least 34 = .ok (.invokevirtual 97, 3) := by decide +kernel
theorem dX2_least_37 : decode cX2_least 37 = .ok (.ireturn, 1) := by decide +kernel
set_option maxRecDepth 20000 in
theorem ggX2_most_X2_isArc : GoodIn wsX2_most wsX2_isArc := goodIn_r _ [8, 9, 10, 101, 102, 103, 104, 105, 106, 107, 108] (by decide +kernel) (by decide +kernel)
set_option maxRecDepth 20000 in
theorem gX2_most_X2_isArc : GoodIn wsX2_most (wsV RX2 50 RX2 yX2_isArc wsX2_isArc) := goodIn_app (goodIn_of _ (by decide +kernel)) ggX2_most_X2_isArc
set_option maxRecDepth 20000 in
theorem ggX2_most_X2_state : GoodIn wsX2_most wsX2_state := goodIn_r _ [14, 2, 15, 16, 17, 18, 19, 20, 21, 22, 23, 24, 25, 26, 27, 28, 29, 30, 31, 32, 33, 34, 35, 36, 37, 38, 39, 40, 41, 42, 43, 44, 45, 46, 47, 48, 49, 50, 51, 52, 53, 54, 55, 56, 57, 58, 59, 60, 61, 62, 63, 64, 65, 66, 67, 68, 69, 70, 71, 72, 73, 74, 75, 76, 77, 78, 79, 80, 81, 82, 83, 84, 85, 86, 87, 88, 101, 102, 109, 110, 111, 112, 113, 114, 115, 116, 103, 104, 105, 106, 107, 108] (by decide +kernel) (by decide +kernel)
set_option maxRecDepth 20000 in
theorem gX2_most_X2_state : GoodIn wsX2_most (wsV RX2 69 RX2 yX2_state wsX2_state) := goodIn_app (goodIn_of _ (by decide +kernel)) ggX2_most_X2_state
set_option maxRecDepth 20000 in
theorem ggX2_most_X2_routeTilted : GoodIn wsX2_most wsX2_routeTilted := goodIn_r _ [92, 2, 17, 18, 19, 20, 21, 22, 23, 24, 25, 26, 27, 28, 29, 93, 94, 95, 96, 30, 31, 32, 33, 34, 35, 36, 37, 38, 39, 40, 41, 42, 43, 44, 45, 46, 47, 48, 49, 50, 51, 52, 53, 54, 55, 56, 57, 58, 59, 60, 61, 62, 63, 64, 65, 66, 67, 68, 69, 70, 71, 72, 73, 74, 75, 76, 77, 78, 79, 80, 81, 82, 83, 84, 101, 102, 109, 110, 111, 112, 113, 114, 115, 116, 103, 104, 105, 106, 107, 108] (by decide +kernel) (by decide +kernel)
set_option maxRecDepth 20000 in
theorem gX2_most_X2_routeTilted : GoodIn wsX2_most (wsV RX2 94 RX2 yX2_routeTilted wsX2_routeTilted) := goodIn_app (goodIn_of _ (by decide +kernel)) ggX2_most_X2_routeTilted
set_option maxRecDepth 20000 in
theorem ggX2_most_X1_flowOf : GoodIn wsX2_most wsX1_flowOf := goodIn_r _ [100, 48, 109, 110, 111, 112, 113, 114, 115, 116] (by decide +kernel) (by decide +kernel)
set_option maxRecDepth 20000 in
theorem gX2_most_X1_flowOf : GoodIn wsX2_most (wsV RX2 97 RX1 yX1_flowOf wsX1_flowOf) := goodIn_app (goodIn_of _ (by decide +kernel)) ggX2_most_X1_flowOf
theorem dX2_most_0 : decode cX2_most 0 = .ok (.aload_n 0, 1) := by decide +kernel
theorem dX2_most_1 : decode cX2_most 1 = .ok (.iload_n 1, 1) := by decide +kernel
theorem dX2_most_2 : decode cX2_most 2 = .ok (.invokevirtual 50, 3) := by decide +kernel
theorem dX2_most_5 : decode cX2_most 5 = .ok (.ifCond .ne 6, 3) := by decide +kernel
theorem dX2_most_8 : decode cX2_most 8 = .ok (.ldc 29, 2) := by decide +kernel
theorem dX2_most_10 : decode cX2_most 10 = .ok (.ireturn, 1) := by decide +kernel
theorem dX2_most_11 : decode cX2_most 11 = .ok (.aload_n 0, 1) := by decide +kernel
theorem dX2_most_12 : decode cX2_most 12 = .ok (.invokevirtual 69, 3) := by decide +kernel
theorem dX2_most_15 : decode cX2_most 15 = .ok (.istore_n 2, 1) := by decide +kernel
theorem dX2_most_16 : decode cX2_most 16 = .ok (.iload_n 2, 1) := by decide +kernel
theorem dX2_most_17 : decode cX2_most 17 = .ok (.ifCond .eq 5, 3) := by decide +kernel
theorem dX2_most_20 : decode cX2_most 20 = .ok (.iload_n 2, 1) := by decide +kernel
theorem dX2_most_21 : decode cX2_most 21 = .ok (.ireturn, 1) := by decide +kernel
theorem dX2_most_22 : decode cX2_most 22 = .ok (.aload_n 0, 1) := by decide +kernel
theorem dX2_most_23 : decode cX2_most 23 = .ok (.iload_n 1, 1) := by decide +kernel
theorem dX2_most_24 : decode cX2_most 24 = .ok (.iconst (-1), 1) := by decide +kernel
theorem dX2_most_25 : decode cX2_most 25 = .ok (.invokevirtual 94, 3) := by decide +kernel
theorem dX2_most_28 : decode cX2_most 28 = .ok (.ifCond .eq 14, 3) := by decide +kernel
theorem dX2_most_31 : decode cX2_most 31 = .ok (.aload_n 0, 1) := by decide +kernel
theorem dX2_most_32 : decode cX2_most 32 = .ok (.getfield 12, 3) := by decide +kernel
theorem dX2_most_35 : decode cX2_most 35 = .ok (.iload_n 1, 1) := by decide +kernel
theorem dX2_most_36 : decode cX2_most 36 = .ok (.invokevirtual 97, 3) := by decide +kernel
theorem dX2_most_39 : decode cX2_most 39 = .ok (.goto 5, 3) := by decide +kernel
theorem dX2_most_42 : decode cX2_most 42 = .ok (.ldc 93, 2) := by decide +kernel
theorem dX2_most_44 : decode cX2_most 44 = .ok (.ireturn, 1) := by decide +kernel
set_option maxRecDepth 20000 in
theorem ggX2_slack_X2_most : GoodIn wsX2_slack wsX2_most := goodIn_r _ [16, 17, 4, 1, 18, 19, 20, 15, 21, 2, 22, 23, 24, 25, 26, 27, 28, 29, 30, 31, 32, 33, 34, 35, 36, 37, 38, 39, 40, 41, 42, 43, 44, 45, 46, 47, 48, 49, 50, 51, 52, 53, 54, 55, 56, 57, 58, 59, 60, 61, 62, 63, 64, 65, 66, 67, 68, 69, 70, 71, 72, 9, 10, 11, 73, 74, 75, 76, 77, 78, 79, 80, 81, 82, 83, 84, 85, 86, 87, 88, 89, 90, 91, 92, 93, 94, 95, 96, 97, 98, 99, 100, 101, 102, 103, 104, 105, 106, 107, 108, 109, 118, 119, 120, 121, 122, 123, 124, 125, 126, 127, 128, 129, 130, 131, 132, 133] (by decide +kernel) (by decide +kernel)
set_option maxRecDepth 20000 in
theorem gX2_slack_X2_most : GoodIn wsX2_slack (wsV RX2 100 RX2 yX2_most wsX2_most) := goodIn_app (goodIn_of _ (by decide +kernel)) ggX2_slack_X2_most
set_option maxRecDepth 20000 in
theorem ggX2_slack_X1_lay : GoodIn wsX2_slack wsX1_lay := goodIn_r _ [33, 34, 35, 36, 37, 38, 39, 40, 41, 126, 127, 128, 129, 130, 131, 132, 133, 120, 121, 122, 123, 124, 125] (by decide +kernel) (by decide +kernel)
set_option maxRecDepth 20000 in
theorem gX2_slack_X1_lay : GoodIn wsX2_slack (wsV RX2 56 RX1 yX1_lay wsX1_lay) := goodIn_app (goodIn_of _ (by decide +kernel)) ggX2_slack_X1_lay
set_option maxRecDepth 20000 in
theorem ggX2_slack_X1_canReach : GoodIn wsX2_slack wsX1_canReach := goodIn_r _ [113, 50, 81, 77, 78, 79, 32, 80, 71, 82, 83, 84, 85, 34, 35, 60, 36, 38, 40, 52, 53, 54, 55, 126, 127, 128, 129, 130, 131, 132, 133, 120, 121, 122, 123, 124, 125] (by decide +kernel) (by decide +kernel)
set_option maxRecDepth 20000 in
theorem gX2_slack_X1_canReach : GoodIn wsX2_slack (wsV RX2 85 RX1 yX1_canReach wsX1_canReach) := goodIn_app (goodIn_of _ (by decide +kernel)) ggX2_slack_X1_canReach
set_option maxRecDepth 20000 in
theorem ggX2_slack_X1_distanceTo : GoodIn wsX2_slack wsX1_distanceTo := goodIn_r _ [117, 50, 126, 127, 128, 129, 130, 131, 132, 133] (by decide +kernel) (by decide +kernel)
set_option maxRecDepth 20000 in
theorem gX2_slack_X1_distanceTo : GoodIn wsX2_slack (wsV RX2 89 RX1 yX1_distanceTo wsX1_distanceTo) := goodIn_app (goodIn_of _ (by decide +kernel)) ggX2_slack_X1_distanceTo
theorem dX2_slack_0 : decode cX2_slack 0 = .ok (.aload_n 0, 1) := by decide +kernel
theorem dX2_slack_1 : decode cX2_slack 1 = .ok (.iload_n 1, 1) := by decide +kernel
theorem dX2_slack_2 : decode cX2_slack 2 = .ok (.invokevirtual 100, 3) := by decide +kernel
theorem dX2_slack_5 : decode cX2_slack 5 = .ok (.istore_n 2, 1) := by decide +kernel
theorem dX2_slack_6 : decode cX2_slack 6 = .ok (.iload_n 2, 1) := by decide +kernel
theorem dX2_slack_7 : decode cX2_slack 7 = .ok (.ldc 93, 2) := by decide +kernel
theorem dX2_slack_9 : decode cX2_slack 9 = .ok (.if_icmp .ne 5, 3) := by decide +kernel
theorem dX2_slack_12 : decode cX2_slack 12 = .ok (.iconst 0, 1) := by decide +kernel
theorem dX2_slack_13 : decode cX2_slack 13 = .ok (.ireturn, 1) := by decide +kernel
theorem dX2_slack_14 : decode cX2_slack 14 = .ok (.iload_n 2, 1) := by decide +kernel
theorem dX2_slack_15 : decode cX2_slack 15 = .ok (.ifCond .ge 5, 3) := by decide +kernel
theorem dX2_slack_18 : decode cX2_slack 18 = .ok (.iload_n 2, 1) := by decide +kernel
theorem dX2_slack_19 : decode cX2_slack 19 = .ok (.ireturn, 1) := by decide +kernel
theorem dX2_slack_20 : decode cX2_slack 20 = .ok (.iload_n 2, 1) := by decide +kernel
theorem dX2_slack_21 : decode cX2_slack 21 = .ok (.aload_n 0, 1) := by decide +kernel
theorem dX2_slack_22 : decode cX2_slack 22 = .ok (.getfield 20, 3) := by decide +kernel
theorem dX2_slack_25 : decode cX2_slack 25 = .ok (.getfield 44, 3) := by decide +kernel
theorem dX2_slack_28 : decode cX2_slack 28 = .ok (.iload_n 1, 1) := by decide +kernel
theorem dX2_slack_29 : decode cX2_slack 29 = .ok (.iaload, 1) := by decide +kernel
theorem dX2_slack_30 : decode cX2_slack 30 = .ok (.if_icmp .ne 6, 3) := by decide +kernel
theorem dX2_slack_33 : decode cX2_slack 33 = .ok (.bipush 40, 2) := by decide +kernel
theorem dX2_slack_35 : decode cX2_slack 35 = .ok (.ireturn, 1) := by decide +kernel
theorem dX2_slack_36 : decode cX2_slack 36 = .ok (.aload_n 0, 1) := by decide +kernel
theorem dX2_slack_37 : decode cX2_slack 37 = .ok (.getfield 12, 3) := by decide +kernel
theorem dX2_slack_40 : decode cX2_slack 40 = .ok (.iconst 1, 1) := by decide +kernel
theorem dX2_slack_41 : decode cX2_slack 41 = .ok (.invokevirtual 56, 3) := by decide +kernel
theorem dX2_slack_44 : decode cX2_slack 44 = .ok (.aload_n 0, 1) := by decide +kernel
theorem dX2_slack_45 : decode cX2_slack 45 = .ok (.getfield 12, 3) := by decide +kernel
theorem dX2_slack_48 : decode cX2_slack 48 = .ok (.aload_n 0, 1) := by decide +kernel
theorem dX2_slack_49 : decode cX2_slack 49 = .ok (.getfield 20, 3) := by decide +kernel
theorem dX2_slack_52 : decode cX2_slack 52 = .ok (.getfield 41, 3) := by decide +kernel
theorem dX2_slack_55 : decode cX2_slack 55 = .ok (.iload_n 1, 1) := by decide +kernel
theorem dX2_slack_56 : decode cX2_slack 56 = .ok (.iaload, 1) := by decide +kernel
theorem dX2_slack_57 : decode cX2_slack 57 = .ok (.aload_n 0, 1) := by decide +kernel
theorem dX2_slack_58 : decode cX2_slack 58 = .ok (.getfield 20, 3) := by decide +kernel
theorem dX2_slack_61 : decode cX2_slack 61 = .ok (.getfield 37, 3) := by decide +kernel
theorem dX2_slack_64 : decode cX2_slack 64 = .ok (.iload_n 1, 1) := by decide +kernel
theorem dX2_slack_65 : decode cX2_slack 65 = .ok (.iaload, 1) := by decide +kernel
theorem dX2_slack_66 : decode cX2_slack 66 = .ok (.iload_n 1, 1) := by decide +kernel
theorem dX2_slack_67 : decode cX2_slack 67 = .ok (.invokevirtual 85, 3) := by decide +kernel
theorem dX2_slack_70 : decode cX2_slack 70 = .ok (.ifCond .ne 6, 3) := by decide +kernel
theorem dX2_slack_73 : decode cX2_slack 73 = .ok (.bipush 40, 2) := by decide +kernel
theorem dX2_slack_75 : decode cX2_slack 75 = .ok (.ireturn, 1) := by decide +kernel
theorem dX2_slack_76 : decode cX2_slack 76 = .ok (.aload_n 0, 1) := by decide +kernel
theorem dX2_slack_77 : decode cX2_slack 77 = .ok (.getfield 20, 3) := by decide +kernel
theorem dX2_slack_80 : decode cX2_slack 80 = .ok (.getfield 47, 3) := by decide +kernel
theorem dX2_slack_83 : decode cX2_slack 83 = .ok (.iload_n 1, 1) := by decide +kernel
theorem dX2_slack_84 : decode cX2_slack 84 = .ok (.iaload, 1) := by decide +kernel
theorem dX2_slack_85 : decode cX2_slack 85 = .ok (.aload_n 0, 1) := by decide +kernel
theorem dX2_slack_86 : decode cX2_slack 86 = .ok (.getfield 12, 3) := by decide +kernel
theorem dX2_slack_89 : decode cX2_slack 89 = .ok (.aload_n 0, 1) := by decide +kernel
theorem dX2_slack_90 : decode cX2_slack 90 = .ok (.getfield 20, 3) := by decide +kernel
theorem dX2_slack_93 : decode cX2_slack 93 = .ok (.getfield 37, 3) := by decide +kernel
theorem dX2_slack_96 : decode cX2_slack 96 = .ok (.iload_n 1, 1) := by decide +kernel
theorem dX2_slack_97 : decode cX2_slack 97 = .ok (.iaload, 1) := by decide +kernel
theorem dX2_slack_98 : decode cX2_slack 98 = .ok (.invokevirtual 89, 3) := by decide +kernel
theorem dX2_slack_101 : decode cX2_slack 101 = .ok (.iadd, 1) := by decide +kernel
theorem dX2_slack_102 : decode cX2_slack 102 = .ok (.istore_n 3, 1) := by decide +kernel
theorem dX2_slack_103 : decode cX2_slack 103 = .ok (.bipush 40, 2) := by decide +kernel
theorem dX2_slack_105 : decode cX2_slack 105 = .ok (.iload_n 3, 1) := by decide +kernel
theorem dX2_slack_106 : decode cX2_slack 106 = .ok (.invokestatic 103, 3) := by decide +kernel
theorem dX2_slack_109 : decode cX2_slack 109 = .ok (.ireturn, 1) := by decide +kernel
theorem dX2_isNode_0 : decode cX2_isNode 0 = .ok (.iload_n 0, 1) := by decide +kernel
theorem dX2_isNode_1 : decode cX2_isNode 1 = .ok (.ifCond .lt 13, 3) := by decide +kernel
theorem dX2_isNode_4 : decode cX2_isNode 4 = .ok (.iload_n 0, 1) := by decide +kernel
theorem dX2_isNode_5 : decode cX2_isNode 5 = .ok (.bipush 8, 2) := by decide +kernel
theorem dX2_isNode_7 : decode cX2_isNode 7 = .ok (.if_icmp .ge 7, 3) := by decide +kernel
theorem dX2_isNode_10 : decode cX2_isNode 10 = .ok (.iconst 1, 1) := by decide +kernel
theorem dX2_isNode_11 : decode cX2_isNode 11 = .ok (.goto 4, 3) := by decide +kernel
theorem dX2_isNode_14 : decode cX2_isNode 14 = .ok (.iconst 0, 1) := by decide +kernel
theorem dX2_isNode_15 : decode cX2_isNode 15 = .ok (.ireturn, 1) := by decide +kernel
theorem dX2_isArcData_0 : decode cX2_isArcData 0 = .ok (.iload_n 0, 1) := by decide +kernel
theorem dX2_isArcData_1 : decode cX2_isArcData 1 = .ok (.iconst (-1), 1) := by decide +kernel
theorem dX2_isArcData_2 : decode cX2_isArcData 2 = .ok (.if_icmp .lt 25, 3) := by decide +kernel
theorem dX2_isArcData_5 : decode cX2_isArcData 5 = .ok (.iload_n 0, 1) := by decide +kernel
theorem dX2_isArcData_6 : decode cX2_isArcData 6 = .ok (.bipush 30, 2) := by decide +kernel
theorem dX2_isArcData_8 : decode cX2_isArcData 8 = .ok (.if_icmp .gt 19, 3) := by decide +kernel
theorem dX2_isArcData_11 : decode cX2_isArcData 11 = .ok (.iload_n 1, 1) := by decide +kernel
theorem dX2_isArcData_12 : decode cX2_isArcData 12 = .ok (.bipush (-20), 2) := by decide +kernel
theorem dX2_isArcData_14 : decode cX2_isArcData 14 = .ok (.if_icmp .lt 13, 3) := by decide +kernel
theorem dX2_isArcData_17 : decode cX2_isArcData 17 = .ok (.iload_n 1, 1) := by decide +kernel
theorem dX2_isArcData_18 : decode cX2_isArcData 18 = .ok (.bipush 20, 2) := by decide +kernel
theorem dX2_isArcData_20 : decode cX2_isArcData 20 = .ok (.if_icmp .gt 7, 3) := by decide +kernel
theorem dX2_isArcData_23 : decode cX2_isArcData 23 = .ok (.iconst 1, 1) := by decide +kernel
theorem dX2_isArcData_24 : decode cX2_isArcData 24 = .ok (.goto 4, 3) := by decide +kernel
theorem dX2_isArcData_27 : decode cX2_isArcData 27 = .ok (.iconst 0, 1) := by decide +kernel
theorem dX2_isArcData_28 : decode cX2_isArcData 28 = .ok (.ireturn, 1) := by decide +kernel
theorem dX2_sumAboveZero_0 : decode cX2_sumAboveZero 0 = .ok (.iconst 0, 1) := by decide +kernel
theorem dX2_sumAboveZero_1 : decode cX2_sumAboveZero 1 = .ok (.istore_n 1, 1) := by decide +kernel
theorem dX2_sumAboveZero_2 : decode cX2_sumAboveZero 2 = .ok (.aload_n 0, 1) := by decide +kernel
theorem dX2_sumAboveZero_3 : decode cX2_sumAboveZero 3 = .ok (.astore_n 2, 1) := by decide +kernel
theorem dX2_sumAboveZero_4 : decode cX2_sumAboveZero 4 = .ok (.aload_n 2, 1) := by decide +kernel
theorem dX2_sumAboveZero_5 : decode cX2_sumAboveZero 5 = .ok (.arraylength, 1) := by decide +kernel
theorem dX2_sumAboveZero_6 : decode cX2_sumAboveZero 6 = .ok (.istore_n 3, 1) := by decide +kernel
theorem dX2_sumAboveZero_7 : decode cX2_sumAboveZero 7 = .ok (.iconst 0, 1) := by decide +kernel
theorem dX2_sumAboveZero_8 : decode cX2_sumAboveZero 8 = .ok (.istore 4, 2) := by decide +kernel
theorem dX2_sumAboveZero_10 : decode cX2_sumAboveZero 10 = .ok (.iload 4, 2) := by decide +kernel
theorem dX2_sumAboveZero_12 : decode cX2_sumAboveZero 12 = .ok (.iload_n 3, 1) := by decide +kernel
theorem dX2_sumAboveZero_13 : decode cX2_sumAboveZero 13 = .ok (.if_icmp .ge 24, 3) := by decide +kernel
theorem dX2_sumAboveZero_16 : decode cX2_sumAboveZero 16 = .ok (.aload_n 2, 1) := by decide +kernel
theorem dX2_sumAboveZero_17 : decode cX2_sumAboveZero 17 = .ok (.iload 4, 2) := by decide +kernel
theorem dX2_sumAboveZero_19 : decode cX2_sumAboveZero 19 = .ok (.iaload, 1) := by decide +kernel
theorem dX2_sumAboveZero_20 : decode cX2_sumAboveZero 20 = .ok (.istore 5, 2) := by decide +kernel
theorem dX2_sumAboveZero_22 : decode cX2_sumAboveZero 22 = .ok (.iload_n 1, 1) := by decide +kernel
theorem dX2_sumAboveZero_23 : decode cX2_sumAboveZero 23 = .ok (.iconst 0, 1) := by decide +kernel
theorem dX2_sumAboveZero_24 : decode cX2_sumAboveZero 24 = .ok (.iload 5, 2) := by decide +kernel
theorem dX2_sumAboveZero_26 : decode cX2_sumAboveZero 26 = .ok (.invokestatic 109, 3) := by decide +kernel
theorem dX2_sumAboveZero_29 : decode cX2_sumAboveZero 29 = .ok (.iadd, 1) := by decide +kernel
theorem dX2_sumAboveZero_30 : decode cX2_sumAboveZero 30 = .ok (.istore_n 1, 1) := by decide +kernel
theorem dX2_sumAboveZero_31 : decode cX2_sumAboveZero 31 = .ok (.iinc 4 1, 3) := by decide +kernel
theorem dX2_sumAboveZero_34 : decode cX2_sumAboveZero 34 = .ok (.goto (-24), 3) := by decide +kernel
theorem dX2_sumAboveZero_37 : decode cX2_sumAboveZero 37 = .ok (.iload_n 1, 1) := by decide +kernel
theorem dX2_sumAboveZero_38 : decode cX2_sumAboveZero 38 = .ok (.ireturn, 1) := by decide +kernel
theorem dX2_isArc_0 : decode cX2_isArc 0 = .ok (.iload_n 1, 1) := by decide +kernel
theorem dX2_isArc_1 : decode cX2_isArc 1 = .ok (.ifCond .lt 18, 3) := by decide +kernel
theorem dX2_isArc_4 : decode cX2_isArc 4 = .ok (.iload_n 1, 1) := by decide +kernel
theorem dX2_isArc_5 : decode cX2_isArc 5 = .ok (.aload_n 0, 1) := by decide +kernel
theorem dX2_isArc_6 : decode cX2_isArc 6 = .ok (.getfield 20, 3) := by decide +kernel
theorem dX2_isArc_9 : decode cX2_isArc 9 = .ok (.getfield 30, 3) := by decide +kernel
theorem dX2_isArc_12 : decode cX2_isArc 12 = .ok (.if_icmp .ge 7, 3) := by decide +kernel
theorem dX2_isArc_15 : decode cX2_isArc 15 = .ok (.iconst 1, 1) := by decide +kernel
theorem dX2_isArc_16 : decode cX2_isArc 16 = .ok (.goto 4, 3) := by decide +kernel
theorem dX2_isArc_19 : decode cX2_isArc 19 = .ok (.iconst 0, 1) := by decide +kernel
theorem dX2_isArc_20 : decode cX2_isArc 20 = .ok (.ireturn, 1) := by decide +kernel
set_option maxRecDepth 20000 in
theorem ggX2_routeTilted_X1_lay : GoodIn wsX2_routeTilted wsX1_lay := goodIn_r _ [6, 7, 8, 9, 10, 11, 12, 13, 14, 76, 77, 78, 79, 80, 81, 82, 83, 84, 85, 86, 87, 88, 89] (by decide +kernel) (by decide +kernel)
set_option maxRecDepth 20000 in
theorem gX2_routeTilted_X1_lay : GoodIn wsX2_routeTilted (wsV RX2 56 RX1 yX1_lay wsX1_lay) := goodIn_app (goodIn_of _ (by decide +kernel)) ggX2_routeTilted_X1_lay
set_option maxRecDepth 20000 in
theorem ggX2_routeTilted_X1_tilt : GoodIn wsX2_routeTilted wsX1_tilt := goodIn_r _ [18, 13, 76, 77, 78, 79, 80, 81, 82, 83] (by decide +kernel) (by decide +kernel)
set_option maxRecDepth 20000 in
theorem gX2_routeTilted_X1_tilt : GoodIn wsX2_routeTilted (wsV RX2 112 RX1 yX1_tilt wsX1_tilt) := goodIn_app (goodIn_of _ (by decide +kernel)) ggX2_routeTilted_X1_tilt
set_option maxRecDepth 20000 in
theorem ggX2_routeTilted_X1_route : GoodIn wsX2_routeTilted wsX1_route := goodIn_r _ [22, 23, 24, 25, 5, 26, 27, 7, 8, 28, 11, 9, 13, 29, 30, 31, 32, 33, 34, 35, 36, 37, 38, 39, 40, 41, 42, 43, 10, 12, 44, 45, 46, 47, 48, 49, 50, 51, 52, 53, 54, 55, 56, 57, 58, 59, 60, 61, 62, 63, 64, 65, 66, 67, 68, 69, 70, 71, 72, 73, 76, 77, 78, 79, 80, 81, 82, 83, 84, 85, 86, 87, 88, 89] (by decide +kernel) (by decide +kernel)
set_option maxRecDepth 20000 in
theorem gX2_routeTilted_X1_route : GoodIn wsX2_routeTilted (wsV RX2 60 RX1 yX1_route wsX1_route) := goodIn_app (goodIn_of _ (by decide +kernel)) ggX2_routeTilted_X1_route
theorem dX2_routeTilted_0 : decode cX2_routeTilted 0 = .ok (.aload_n 0, 1) := by decide +kernel
theorem dX2_routeTilted_1 : decode cX2_routeTilted 1 = .ok (.getfield 12, 3) := by decide +kernel
theorem dX2_routeTilted_4 : decode cX2_routeTilted 4 = .ok (.sipush 841, 3) := by decide +kernel
theorem dX2_routeTilted_7 : decode cX2_routeTilted 7 = .ok (.invokevirtual 56, 3) := by decide +kernel
theorem dX2_routeTilted_10 : decode cX2_routeTilted 10 = .ok (.aload_n 0, 1) := by decide +kernel
theorem dX2_routeTilted_11 : decode cX2_routeTilted 11 = .ok (.getfield 12, 3) := by decide +kernel
theorem dX2_routeTilted_14 : decode cX2_routeTilted 14 = .ok (.iload_n 1, 1) := by decide +kernel
theorem dX2_routeTilted_15 : decode cX2_routeTilted 15 = .ok (.iload_n 2, 1) := by decide +kernel
theorem dX2_routeTilted_16 : decode cX2_routeTilted 16 = .ok (.invokevirtual 112, 3) := by decide +kernel
theorem dX2_routeTilted_19 : decode cX2_routeTilted 19 = .ok (.aload_n 0, 1) := by decide +kernel
theorem dX2_routeTilted_20 : decode cX2_routeTilted 20 = .ok (.getfield 12, 3) := by decide +kernel
theorem dX2_routeTilted_23 : decode cX2_routeTilted 23 = .ok (.invokevirtual 60, 3) := by decide +kernel
theorem dX2_routeTilted_26 : decode cX2_routeTilted 26 = .ok (.ireturn, 1) := by decide +kernel
theorem dX3_init_0 : decode cX3_init 0 = .ok (.aload_n 0, 1) := by decide +kernel
theorem dX3_init_1 : decode cX3_init 1 = .ok (.invokespecial 1, 3) := by decide +kernel
theorem dX3_init_4 : decode cX3_init 4 = .ok (.aload_n 0, 1) := by decide +kernel
theorem dX3_init_5 : decode cX3_init 5 = .ok (.bipush 36, 2) := by decide +kernel
theorem dX3_init_7 : decode cX3_init 7 = .ok (.newarray .int, 2) := by decide +kernel
theorem dX3_init_9 : decode cX3_init 9 = .ok (.putfield 7, 3) := by decide +kernel
theorem dX3_init_12 : decode cX3_init 12 = .ok (.aload_n 0, 1) := by decide +kernel
theorem dX3_init_13 : decode cX3_init 13 = .ok (.bipush 36, 2) := by decide +kernel
theorem dX3_init_15 : decode cX3_init 15 = .ok (.newarray .int, 2) := by decide +kernel
theorem dX3_init_17 : decode cX3_init 17 = .ok (.putfield 13, 3) := by decide +kernel
theorem dX3_init_20 : decode cX3_init 20 = .ok (.aload_n 0, 1) := by decide +kernel
theorem dX3_init_21 : decode cX3_init 21 = .ok (.bipush 36, 2) := by decide +kernel
theorem dX3_init_23 : decode cX3_init 23 = .ok (.newarray .int, 2) := by decide +kernel
theorem dX3_init_25 : decode cX3_init 25 = .ok (.putfield 16, 3) := by decide +kernel
theorem dX3_init_28 : decode cX3_init 28 = .ok (.aload_n 0, 1) := by decide +kernel
theorem dX3_init_29 : decode cX3_init 29 = .ok (.bipush 36, 2) := by decide +kernel
theorem dX3_init_31 : decode cX3_init 31 = .ok (.newarray .int, 2) := by decide +kernel
theorem dX3_init_33 : decode cX3_init 33 = .ok (.putfield 19, 3) := by decide +kernel
theorem dX3_init_36 : decode cX3_init 36 = .ok (.aload_n 0, 1) := by decide +kernel
theorem dX3_init_37 : decode cX3_init 37 = .ok (.bipush 8, 2) := by decide +kernel
theorem dX3_init_39 : decode cX3_init 39 = .ok (.newarray .int, 2) := by decide +kernel
theorem dX3_init_41 : decode cX3_init 41 = .ok (.putfield 22, 3) := by decide +kernel
theorem dX3_init_44 : decode cX3_init 44 = .ok (.aload_n 0, 1) := by decide +kernel
theorem dX3_init_45 : decode cX3_init 45 = .ok (.bipush 36, 2) := by decide +kernel
theorem dX3_init_47 : decode cX3_init 47 = .ok (.newarray .int, 2) := by decide +kernel
theorem dX3_init_49 : decode cX3_init 49 = .ok (.putfield 25, 3) := by decide +kernel
theorem dX3_init_52 : decode cX3_init 52 = .ok (.aload_n 0, 1) := by decide +kernel
theorem dX3_init_53 : decode cX3_init 53 = .ok (.bipush 36, 2) := by decide +kernel
theorem dX3_init_55 : decode cX3_init 55 = .ok (.newarray .int, 2) := by decide +kernel
theorem dX3_init_57 : decode cX3_init 57 = .ok (.putfield 28, 3) := by decide +kernel
theorem dX3_init_60 : decode cX3_init 60 = .ok (.aload_n 0, 1) := by decide +kernel
theorem dX3_init_61 : decode cX3_init 61 = .ok (.bipush 10, 2) := by decide +kernel
theorem dX3_init_63 : decode cX3_init 63 = .ok (.newarray .boolean, 2) := by decide +kernel
theorem dX3_init_65 : decode cX3_init 65 = .ok (.putfield 31, 3) := by decide +kernel
theorem dX3_init_68 : decode cX3_init 68 = .ok (.aload_n 0, 1) := by decide +kernel
theorem dX3_init_69 : decode cX3_init 69 = .ok (.bipush 10, 2) := by decide +kernel
theorem dX3_init_71 : decode cX3_init 71 = .ok (.newarray .int, 2) := by decide +kernel
theorem dX3_init_73 : decode cX3_init 73 = .ok (.putfield 35, 3) := by decide +kernel
theorem dX3_init_76 : decode cX3_init 76 = .ok (.aload_n 0, 1) := by decide +kernel
theorem dX3_init_77 : decode cX3_init 77 = .ok (.bipush 10, 2) := by decide +kernel
theorem dX3_init_79 : decode cX3_init 79 = .ok (.newarray .int, 2) := by decide +kernel
theorem dX3_init_81 : decode cX3_init 81 = .ok (.putfield 38, 3) := by decide +kernel
theorem dX3_init_84 : decode cX3_init 84 = .ok (.aload_n 0, 1) := by decide +kernel
theorem dX3_init_85 : decode cX3_init 85 = .ok (.bipush 36, 2) := by decide +kernel
theorem dX3_init_87 : decode cX3_init 87 = .ok (.newarray .boolean, 2) := by decide +kernel
theorem dX3_init_89 : decode cX3_init 89 = .ok (.putfield 41, 3) := by decide +kernel
theorem dX3_init_92 : decode cX3_init 92 = .ok (.aload_n 0, 1) := by decide +kernel
theorem dX3_init_93 : decode cX3_init 93 = .ok (.bipush 10, 2) := by decide +kernel
theorem dX3_init_95 : decode cX3_init 95 = .ok (.newarray .int, 2) := by decide +kernel
theorem dX3_init_97 : decode cX3_init 97 = .ok (.putfield 44, 3) := by decide +kernel
theorem dX3_init_100 : decode cX3_init 100 = .ok (.aload_n 0, 1) := by decide +kernel
theorem dX3_init_101 : decode cX3_init 101 = .ok (.bipush 10, 2) := by decide +kernel
theorem dX3_init_103 : decode cX3_init 103 = .ok (.newarray .int, 2) := by decide +kernel
theorem dX3_init_105 : decode cX3_init 105 = .ok (.putfield 47, 3) := by decide +kernel
theorem dX3_init_108 : decode cX3_init 108 = .ok (.return_, 1) := by decide +kernel
theorem dX3_in_0 : decode cX3_in 0 = .ok (.iload_n 0, 1) := by decide +kernel
theorem dX3_in_1 : decode cX3_in 1 = .ok (.iload_n 1, 1) := by decide +kernel
theorem dX3_in_2 : decode cX3_in 2 = .ok (.if_icmp .lt 12, 3) := by decide +kernel
theorem dX3_in_5 : decode cX3_in 5 = .ok (.iload_n 0, 1) := by decide +kernel
theorem dX3_in_6 : decode cX3_in 6 = .ok (.iload_n 2, 1) := by decide +kernel
theorem dX3_in_7 : decode cX3_in 7 = .ok (.if_icmp .gt 7, 3) := by decide +kernel
theorem dX3_in_10 : decode cX3_in 10 = .ok (.iconst 1, 1) := by decide +kernel
theorem dX3_in_11 : decode cX3_in 11 = .ok (.goto 4, 3) := by decide +kernel
theorem dX3_in_14 : decode cX3_in 14 = .ok (.iconst 0, 1) := by decide +kernel
theorem dX3_in_15 : decode cX3_in 15 = .ok (.ireturn, 1) := by decide +kernel
set_option maxRecDepth 20000 in
theorem ggX3_add_X3_in : GoodIn wsX3_add wsX3_in := goodIn_r _ [12] (by decide +kernel) (by decide +kernel)
set_option maxRecDepth 20000 in
theorem gX3_add_X3_in : GoodIn wsX3_add (va_wsS RX3 50 yX3_in wsX3_in) := goodIn_app (goodIn_of _ (by decide +kernel)) ggX3_add_X3_in
theorem dX3_add_0 : decode cX3_add 0 = .ok (.iload_n 1, 1) := by decide +kernel
theorem dX3_add_1 : decode cX3_add 1 = .ok (.iconst 0, 1) := by decide +kernel
theorem dX3_add_2 : decode cX3_add 2 = .ok (.bipush 7, 2) := by decide +kernel
theorem dX3_add_4 : decode cX3_add 4 = .ok (.invokestatic 50, 3) := by decide +kernel
theorem dX3_add_7 : decode cX3_add 7 = .ok (.ifCond .eq 40, 3) := by decide +kernel
theorem dX3_add_10 : decode cX3_add 10 = .ok (.iload_n 2, 1) := by decide +kernel
theorem dX3_add_11 : decode cX3_add 11 = .ok (.iconst 0, 1) := by decide +kernel
theorem dX3_add_12 : decode cX3_add 12 = .ok (.bipush 7, 2) := by decide +kernel
theorem dX3_add_14 : decode cX3_add 14 = .ok (.invokestatic 50, 3) := by decide +kernel
theorem dX3_add_17 : decode cX3_add 17 = .ok (.ifCond .eq 30, 3) := by decide +kernel
theorem dX3_add_20 : decode cX3_add 20 = .ok (.iload_n 1, 1) := by decide +kernel
theorem dX3_add_21 : decode cX3_add 21 = .ok (.iload_n 2, 1) := by decide +kernel
theorem dX3_add_22 : decode cX3_add 22 = .ok (.if_icmp .eq 25, 3) := by decide +kernel
theorem dX3_add_25 : decode cX3_add 25 = .ok (.iload_n 3, 1) := by decide +kernel
theorem dX3_add_26 : decode cX3_add 26 = .ok (.iconst (-1), 1) := by decide +kernel
theorem dX3_add_27 : decode cX3_add 27 = .ok (.bipush 30, 2) := by decide +kernel
theorem dX3_add_29 : decode cX3_add 29 = .ok (.invokestatic 50, 3) := by decide +kernel
theorem dX3_add_32 : decode cX3_add 32 = .ok (.ifCond .eq 15, 3) := by decide +kernel
theorem dX3_add_35 : decode cX3_add 35 = .ok (.iload 4, 2) := by decide +kernel
theorem dX3_add_37 : decode cX3_add 37 = .ok (.bipush (-20), 2) := by decide +kernel
