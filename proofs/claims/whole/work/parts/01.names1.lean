theorem dX0_init_15 : decode cX0_init 15 = .ok (.newarray .int, 2) := by decide +kernel
theorem dX0_init_17 : decode cX0_init 17 = .ok (.putfield 15, 3) := by decide +kernel
theorem dX0_init_20 : decode cX0_init 20 = .ok (.aload_n 0, 1) := by decide +kernel
theorem dX0_init_21 : decode cX0_init 21 = .ok (.bipush 20, 2) := by decide +kernel
theorem dX0_init_23 : decode cX0_init 23 = .ok (.newarray .int, 2) := by decide +kernel
theorem dX0_init_25 : decode cX0_init 25 = .ok (.putfield 18, 3) := by decide +kernel
theorem dX0_init_28 : decode cX0_init 28 = .ok (.aload_n 0, 1) := by decide +kernel
theorem dX0_init_29 : decode cX0_init 29 = .ok (.bipush 20, 2) := by decide +kernel
theorem dX0_init_31 : decode cX0_init 31 = .ok (.newarray .int, 2) := by decide +kernel
theorem dX0_init_33 : decode cX0_init 33 = .ok (.putfield 21, 3) := by decide +kernel
theorem dX0_init_36 : decode cX0_init 36 = .ok (.aload_n 0, 1) := by decide +kernel
theorem dX0_init_37 : decode cX0_init 37 = .ok (.bipush 8, 2) := by decide +kernel
theorem dX0_init_39 : decode cX0_init 39 = .ok (.newarray .int, 2) := by decide +kernel
theorem dX0_init_41 : decode cX0_init 41 = .ok (.putfield 24, 3) := by decide +kernel
theorem dX0_init_44 : decode cX0_init 44 = .ok (.return_, 1) := by decide +kernel
set_option maxRecDepth 20000 in
theorem ggX0_totalSupply_X2_sumAboveZero : GoodIn wsX0_totalSupply wsX2_sumAboveZero := goodIn_r _ [4, 5, 6, 7, 8] (by decide +kernel) (by decide +kernel)
set_option maxRecDepth 20000 in
theorem gX0_totalSupply_X2_sumAboveZero_n27 : GoodIn wsX0_totalSupply (wsX2_sumAboveZero) := ggX0_totalSupply_X2_sumAboveZero
theorem dX0_totalSupply_0 : decode cX0_totalSupply 0 = .ok (.aload_n 0, 1) := by decide +kernel
theorem dX0_totalSupply_1 : decode cX0_totalSupply 1 = .ok (.getfield 24, 3) := by decide +kernel
theorem dX0_totalSupply_4 : decode cX0_totalSupply 4 = .ok (.invokestatic 27, 3) := by decide +kernel
theorem dX0_totalSupply_7 : decode cX0_totalSupply 7 = .ok (.ireturn, 1) := by decide +kernel
set_option maxRecDepth 20000 in
theorem ggX1_init_X0_init : GoodIn wsX1_init wsX0_init := goodIn_r _ [17, 18, 2, 3, 8, 19, 20, 21, 22, 23, 24, 25, 26, 27, 28, 29] (by decide +kernel) (by decide +kernel)
set_option maxRecDepth 20000 in
theorem gX1_init_X0_init_n11 : GoodIn wsX1_init (wsX0_init) := ggX1_init_X0_init
theorem dX1_init_0 : decode cX1_init 0 = .ok (.aload_n 0, 1) := by decide +kernel
theorem dX1_init_1 : decode cX1_init 1 = .ok (.invokespecial 3, 3) := by decide +kernel
theorem dX1_init_4 : decode cX1_init 4 = .ok (.aload_n 0, 1) := by decide +kernel
theorem dX1_init_5 : decode cX1_init 5 = .ok (.new 9, 3) := by decide +kernel
theorem dX1_init_8 : decode cX1_init 8 = .ok (.dup, 1) := by decide +kernel
theorem dX1_init_9 : decode cX1_init 9 = .ok (.invokespecial 11, 3) := by decide +kernel
theorem dX1_init_12 : decode cX1_init 12 = .ok (.putfield 12, 3) := by decide +kernel
theorem dX1_init_15 : decode cX1_init 15 = .ok (.aload_n 0, 1) := by decide +kernel
theorem dX1_init_16 : decode cX1_init 16 = .ok (.bipush 40, 2) := by decide +kernel
theorem dX1_init_18 : decode cX1_init 18 = .ok (.newarray .int, 2) := by decide +kernel
theorem dX1_init_20 : decode cX1_init 20 = .ok (.putfield 18, 3) := by decide +kernel
theorem dX1_init_23 : decode cX1_init 23 = .ok (.aload_n 0, 1) := by decide +kernel
theorem dX1_init_24 : decode cX1_init 24 = .ok (.bipush 40, 2) := by decide +kernel
theorem dX1_init_26 : decode cX1_init 26 = .ok (.newarray .int, 2) := by decide +kernel
theorem dX1_init_28 : decode cX1_init 28 = .ok (.putfield 22, 3) := by decide +kernel
theorem dX1_init_31 : decode cX1_init 31 = .ok (.aload_n 0, 1) := by decide +kernel
theorem dX1_init_32 : decode cX1_init 32 = .ok (.bipush 40, 2) := by decide +kernel
theorem dX1_init_34 : decode cX1_init 34 = .ok (.newarray .int, 2) := by decide +kernel
theorem dX1_init_36 : decode cX1_init 36 = .ok (.putfield 25, 3) := by decide +kernel
theorem dX1_init_39 : decode cX1_init 39 = .ok (.aload_n 0, 1) := by decide +kernel
theorem dX1_init_40 : decode cX1_init 40 = .ok (.bipush 40, 2) := by decide +kernel
theorem dX1_init_42 : decode cX1_init 42 = .ok (.newarray .int, 2) := by decide +kernel
theorem dX1_init_44 : decode cX1_init 44 = .ok (.putfield 28, 3) := by decide +kernel
theorem dX1_init_47 : decode cX1_init 47 = .ok (.aload_n 0, 1) := by decide +kernel
theorem dX1_init_48 : decode cX1_init 48 = .ok (.bipush 8, 2) := by decide +kernel
theorem dX1_init_50 : decode cX1_init 50 = .ok (.newarray .int, 2) := by decide +kernel
theorem dX1_init_52 : decode cX1_init 52 = .ok (.putfield 31, 3) := by decide +kernel
theorem dX1_init_55 : decode cX1_init 55 = .ok (.aload_n 0, 1) := by decide +kernel
theorem dX1_init_56 : decode cX1_init 56 = .ok (.bipush 8, 2) := by decide +kernel
theorem dX1_init_58 : decode cX1_init 58 = .ok (.newarray .int, 2) := by decide +kernel
theorem dX1_init_60 : decode cX1_init 60 = .ok (.putfield 34, 3) := by decide +kernel
theorem dX1_init_63 : decode cX1_init 63 = .ok (.aload_n 0, 1) := by decide +kernel
theorem dX1_init_64 : decode cX1_init 64 = .ok (.bipush 8, 2) := by decide +kernel
theorem dX1_init_66 : decode cX1_init 66 = .ok (.newarray .int, 2) := by decide +kernel
theorem dX1_init_68 : decode cX1_init 68 = .ok (.putfield 37, 3) := by decide +kernel
theorem dX1_init_71 : decode cX1_init 71 = .ok (.return_, 1) := by decide +kernel
theorem dX1_lay_0 : decode cX1_lay 0 = .ok (.iconst 0, 1) := by decide +kernel
theorem dX1_lay_1 : decode cX1_lay 1 = .ok (.istore_n 2, 1) := by decide +kernel
theorem dX1_lay_2 : decode cX1_lay 2 = .ok (.iload_n 2, 1) := by decide +kernel
theorem dX1_lay_3 : decode cX1_lay 3 = .ok (.aload_n 0, 1) := by decide +kernel
theorem dX1_lay_4 : decode cX1_lay 4 = .ok (.getfield 12, 3) := by decide +kernel
theorem dX1_lay_7 : decode cX1_lay 7 = .ok (.getfield 40, 3) := by decide +kernel
theorem dX1_lay_10 : decode cX1_lay 10 = .ok (.if_icmp .ge 103, 3) := by decide +kernel
theorem dX1_lay_13 : decode cX1_lay 13 = .ok (.iconst 2, 1) := by decide +kernel
theorem dX1_lay_14 : decode cX1_lay 14 = .ok (.iload_n 2, 1) := by decide +kernel
theorem dX1_lay_15 : decode cX1_lay 15 = .ok (.imul, 1) := by decide +kernel
theorem dX1_lay_16 : decode cX1_lay 16 = .ok (.istore_n 3, 1) := by decide +kernel
theorem dX1_lay_17 : decode cX1_lay 17 = .ok (.aload_n 0, 1) := by decide +kernel
theorem dX1_lay_18 : decode cX1_lay 18 = .ok (.getfield 18, 3) := by decide +kernel
theorem dX1_lay_21 : decode cX1_lay 21 = .ok (.iload_n 3, 1) := by decide +kernel
theorem dX1_lay_22 : decode cX1_lay 22 = .ok (.aload_n 0, 1) := by decide +kernel
theorem dX1_lay_23 : decode cX1_lay 23 = .ok (.getfield 12, 3) := by decide +kernel
theorem dX1_lay_26 : decode cX1_lay 26 = .ok (.getfield 44, 3) := by decide +kernel
theorem dX1_lay_29 : decode cX1_lay 29 = .ok (.iload_n 2, 1) := by decide +kernel
theorem dX1_lay_30 : decode cX1_lay 30 = .ok (.iaload, 1) := by decide +kernel
theorem dX1_lay_31 : decode cX1_lay 31 = .ok (.iastore, 1) := by decide +kernel
theorem dX1_lay_32 : decode cX1_lay 32 = .ok (.aload_n 0, 1) := by decide +kernel
theorem dX1_lay_33 : decode cX1_lay 33 = .ok (.getfield 22, 3) := by decide +kernel
theorem dX1_lay_36 : decode cX1_lay 36 = .ok (.iload_n 3, 1) := by decide +kernel
theorem dX1_lay_37 : decode cX1_lay 37 = .ok (.aload_n 0, 1) := by decide +kernel
theorem dX1_lay_38 : decode cX1_lay 38 = .ok (.getfield 12, 3) := by decide +kernel
theorem dX1_lay_41 : decode cX1_lay 41 = .ok (.getfield 47, 3) := by decide +kernel
theorem dX1_lay_44 : decode cX1_lay 44 = .ok (.iload_n 2, 1) := by decide +kernel
theorem dX1_lay_45 : decode cX1_lay 45 = .ok (.iaload, 1) := by decide +kernel
theorem dX1_lay_46 : decode cX1_lay 46 = .ok (.iastore, 1) := by decide +kernel
theorem dX1_lay_47 : decode cX1_lay 47 = .ok (.aload_n 0, 1) := by decide +kernel
theorem dX1_lay_48 : decode cX1_lay 48 = .ok (.getfield 25, 3) := by decide +kernel
theorem dX1_lay_51 : decode cX1_lay 51 = .ok (.iload_n 3, 1) := by decide +kernel
theorem dX1_lay_52 : decode cX1_lay 52 = .ok (.iload_n 1, 1) := by decide +kernel
theorem dX1_lay_53 : decode cX1_lay 53 = .ok (.aload_n 0, 1) := by decide +kernel
theorem dX1_lay_54 : decode cX1_lay 54 = .ok (.getfield 12, 3) := by decide +kernel
theorem dX1_lay_57 : decode cX1_lay 57 = .ok (.getfield 50, 3) := by decide +kernel
theorem dX1_lay_60 : decode cX1_lay 60 = .ok (.iload_n 2, 1) := by decide +kernel
theorem dX1_lay_61 : decode cX1_lay 61 = .ok (.iaload, 1) := by decide +kernel
theorem dX1_lay_62 : decode cX1_lay 62 = .ok (.imul, 1) := by decide +kernel
theorem dX1_lay_63 : decode cX1_lay 63 = .ok (.iastore, 1) := by decide +kernel
theorem dX1_lay_64 : decode cX1_lay 64 = .ok (.aload_n 0, 1) := by decide +kernel
theorem dX1_lay_65 : decode cX1_lay 65 = .ok (.getfield 18, 3) := by decide +kernel
theorem dX1_lay_68 : decode cX1_lay 68 = .ok (.iload_n 3, 1) := by decide +kernel
theorem dX1_lay_69 : decode cX1_lay 69 = .ok (.iconst 1, 1) := by decide +kernel
theorem dX1_lay_70 : decode cX1_lay 70 = .ok (.iadd, 1) := by decide +kernel
theorem dX1_lay_71 : decode cX1_lay 71 = .ok (.aload_n 0, 1) := by decide +kernel
theorem dX1_lay_72 : decode cX1_lay 72 = .ok (.getfield 22, 3) := by decide +kernel
theorem dX1_lay_75 : decode cX1_lay 75 = .ok (.iload_n 3, 1) := by decide +kernel
theorem dX1_lay_76 : decode cX1_lay 76 = .ok (.iaload, 1) := by decide +kernel
theorem dX1_lay_77 : decode cX1_lay 77 = .ok (.iastore, 1) := by decide +kernel
theorem dX1_lay_78 : decode cX1_lay 78 = .ok (.aload_n 0, 1) := by decide +kernel
theorem dX1_lay_79 : decode cX1_lay 79 = .ok (.getfield 22, 3) := by decide +kernel
theorem dX1_lay_82 : decode cX1_lay 82 = .ok (.iload_n 3, 1) := by decide +kernel
theorem dX1_lay_83 : decode cX1_lay 83 = .ok (.iconst 1, 1) := by decide +kernel
theorem dX1_lay_84 : decode cX1_lay 84 = .ok (.iadd, 1) := by decide +kernel
theorem dX1_lay_85 : decode cX1_lay 85 = .ok (.aload_n 0, 1) := by decide +kernel
theorem dX1_lay_86 : decode cX1_lay 86 = .ok (.getfield 18, 3) := by decide +kernel
theorem dX1_lay_89 : decode cX1_lay 89 = .ok (.iload_n 3, 1) := by decide +kernel
theorem dX1_lay_90 : decode cX1_lay 90 = .ok (.iaload, 1) := by decide +kernel
theorem dX1_lay_91 : decode cX1_lay 91 = .ok (.iastore, 1) := by decide +kernel
theorem dX1_lay_92 : decode cX1_lay 92 = .ok (.aload_n 0, 1) := by decide +kernel
theorem dX1_lay_93 : decode cX1_lay 93 = .ok (.getfield 25, 3) := by decide +kernel
theorem dX1_lay_96 : decode cX1_lay 96 = .ok (.iload_n 3, 1) := by decide +kernel
theorem dX1_lay_97 : decode cX1_lay 97 = .ok (.iconst 1, 1) := by decide +kernel
theorem dX1_lay_98 : decode cX1_lay 98 = .ok (.iadd, 1) := by decide +kernel
theorem dX1_lay_99 : decode cX1_lay 99 = .ok (.aload_n 0, 1) := by decide +kernel
theorem dX1_lay_100 : decode cX1_lay 100 = .ok (.getfield 25, 3) := by decide +kernel
theorem dX1_lay_103 : decode cX1_lay 103 = .ok (.iload_n 3, 1) := by decide +kernel
theorem dX1_lay_104 : decode cX1_lay 104 = .ok (.iaload, 1) := by decide +kernel
theorem dX1_lay_105 : decode cX1_lay 105 = .ok (.ineg, 1) := by decide +kernel
theorem dX1_lay_106 : decode cX1_lay 106 = .ok (.iastore, 1) := by decide +kernel
theorem dX1_lay_107 : decode cX1_lay 107 = .ok (.iinc 2 1, 3) := by decide +kernel
theorem dX1_lay_110 : decode cX1_lay 110 = .ok (.goto (-108), 3) := by decide +kernel
theorem dX1_lay_113 : decode cX1_lay 113 = .ok (.return_, 1) := by decide +kernel
theorem dX1_tilt_0 : decode cX1_tilt 0 = .ok (.aload_n 0, 1) := by decide +kernel
theorem dX1_tilt_1 : decode cX1_tilt 1 = .ok (.getfield 25, 3) := by decide +kernel
theorem dX1_tilt_4 : decode cX1_tilt 4 = .ok (.iconst 2, 1) := by decide +kernel
theorem dX1_tilt_5 : decode cX1_tilt 5 = .ok (.iload_n 1, 1) := by decide +kernel
theorem dX1_tilt_6 : decode cX1_tilt 6 = .ok (.imul, 1) := by decide +kernel
theorem dX1_tilt_7 : decode cX1_tilt 7 = .ok (.dup2, 1) := by decide +kernel
theorem dX1_tilt_8 : decode cX1_tilt 8 = .ok (.iaload, 1) := by decide +kernel
theorem dX1_tilt_9 : decode cX1_tilt 9 = .ok (.iload_n 2, 1) := by decide +kernel
theorem dX1_tilt_10 : decode cX1_tilt 10 = .ok (.iadd, 1) := by decide +kernel
theorem dX1_tilt_11 : decode cX1_tilt 11 = .ok (.iastore, 1) := by decide +kernel
theorem dX1_tilt_12 : decode cX1_tilt 12 = .ok (.aload_n 0, 1) := by decide +kernel
theorem dX1_tilt_13 : decode cX1_tilt 13 = .ok (.getfield 25, 3) := by decide +kernel
theorem dX1_tilt_16 : decode cX1_tilt 16 = .ok (.iconst 2, 1) := by decide +kernel
theorem dX1_tilt_17 : decode cX1_tilt 17 = .ok (.iload_n 1, 1) := by decide +kernel
theorem dX1_tilt_18 : decode cX1_tilt 18 = .ok (.imul, 1) := by decide +kernel
theorem dX1_tilt_19 : decode cX1_tilt 19 = .ok (.iconst 1, 1) := by decide +kernel
theorem dX1_tilt_20 : decode cX1_tilt 20 = .ok (.iadd, 1) := by decide +kernel
theorem dX1_tilt_21 : decode cX1_tilt 21 = .ok (.dup2, 1) := by decide +kernel
theorem dX1_tilt_22 : decode cX1_tilt 22 = .ok (.iaload, 1) := by decide +kernel
theorem dX1_tilt_23 : decode cX1_tilt 23 = .ok (.iload_n 2, 1) := by decide +kernel
theorem dX1_tilt_24 : decode cX1_tilt 24 = .ok (.isub, 1) := by decide +kernel
theorem dX1_tilt_25 : decode cX1_tilt 25 = .ok (.iastore, 1) := by decide +kernel
theorem dX1_tilt_26 : decode cX1_tilt 26 = .ok (.return_, 1) := by decide +kernel
theorem dX1_flowOf_0 : decode cX1_flowOf 0 = .ok (.aload_n 0, 1) := by decide +kernel
theorem dX1_flowOf_1 : decode cX1_flowOf 1 = .ok (.getfield 28, 3) := by decide +kernel
theorem dX1_flowOf_4 : decode cX1_flowOf 4 = .ok (.iconst 2, 1) := by decide +kernel
theorem dX1_flowOf_5 : decode cX1_flowOf 5 = .ok (.iload_n 1, 1) := by decide +kernel
theorem dX1_flowOf_6 : decode cX1_flowOf 6 = .ok (.imul, 1) := by decide +kernel
theorem dX1_flowOf_7 : decode cX1_flowOf 7 = .ok (.iconst 1, 1) := by decide +kernel
theorem dX1_flowOf_8 : decode cX1_flowOf 8 = .ok (.iadd, 1) := by decide +kernel
theorem dX1_flowOf_9 : decode cX1_flowOf 9 = .ok (.iaload, 1) := by decide +kernel
theorem dX1_flowOf_10 : decode cX1_flowOf 10 = .ok (.ireturn, 1) := by decide +kernel
theorem dX1_distanceTo_0 : decode cX1_distanceTo 0 = .ok (.aload_n 0, 1) := by decide +kernel
theorem dX1_distanceTo_1 : decode cX1_distanceTo 1 = .ok (.getfield 34, 3) := by decide +kernel
theorem dX1_distanceTo_4 : decode cX1_distanceTo 4 = .ok (.iload_n 1, 1) := by decide +kernel
theorem dX1_distanceTo_5 : decode cX1_distanceTo 5 = .ok (.iaload, 1) := by decide +kernel
theorem dX1_distanceTo_6 : decode cX1_distanceTo 6 = .ok (.ireturn, 1) := by decide +kernel
set_option maxRecDepth 20000 in
theorem ggX1_route_X1_levelUnboundedArcs : GoodIn wsX1_route wsX1_levelUnboundedArcs := goodIn_r _ [5, 6, 7, 8, 9, 10, 11, 12, 13, 14, 15, 4, 16, 60, 61, 62, 63, 64, 65, 66, 67, 68, 69, 70, 71, 72, 73] (by decide +kernel) (by decide +kernel)
set_option maxRecDepth 20000 in
theorem gX1_route_X1_levelUnboundedArcs : GoodIn wsX1_route (wsV RX1 53 RX1 yX1_levelUnboundedArcs wsX1_levelUnboundedArcs) := goodIn_app (goodIn_of _ (by decide +kernel)) ggX1_route_X1_levelUnboundedArcs
set_option maxRecDepth 20000 in
theorem ggX1_route_X1_fillLightArcs : GoodIn wsX1_route wsX1_fillLightArcs := goodIn_r _ [20, 7, 8, 9, 21, 13, 14, 15, 4, 16, 6, 11, 12, 10, 60, 61, 62, 63, 64, 65, 66, 67, 68, 69, 70, 71, 72, 73] (by decide +kernel) (by decide +kernel)
set_option maxRecDepth 20000 in
theorem gX1_route_X1_fillLightArcs : GoodIn wsX1_route (wsV RX1 57 RX1 yX1_fillLightArcs wsX1_fillLightArcs) := goodIn_app (goodIn_of _ (by decide +kernel)) ggX1_route_X1_fillLightArcs
set_option maxRecDepth 20000 in
theorem ggX1_route_X1_countExcess : GoodIn wsX1_route wsX1_countExcess := goodIn_r _ [25, 26, 7, 27, 8, 28, 21, 29, 60, 61, 62, 63, 64, 65, 66, 67, 68, 69, 70, 71, 72, 73] (by decide +kernel) (by decide +kernel)
set_option maxRecDepth 20000 in
theorem gX1_route_X1_countExcess : GoodIn wsX1_route (wsV RX1 60 RX1 yX1_countExcess wsX1_countExcess) := goodIn_app (goodIn_of _ (by decide +kernel)) ggX1_route_X1_countExcess
set_option maxRecDepth 20000 in
theorem ggX1_route_X1_sendOnce : GoodIn wsX1_route wsX1_sendOnce := goodIn_r _ [33, 26, 34, 21, 35, 36, 37, 38, 11, 39, 40, 41, 4, 42, 43, 44, 45, 46, 6, 47, 48, 49, 50, 51, 7, 8, 10, 12, 13, 14, 15, 16, 52, 53, 54, 55, 56, 57, 58, 59, 60, 61, 62, 63, 64, 65, 66, 67, 68, 69, 70, 71, 72, 73] (by decide +kernel) (by decide +kernel)
set_option maxRecDepth 20000 in
theorem gX1_route_X1_sendOnce : GoodIn wsX1_route (wsV RX1 63 RX1 yX1_sendOnce wsX1_sendOnce) := goodIn_app (goodIn_of _ (by decide +kernel)) ggX1_route_X1_sendOnce
theorem dX1_route_0 : decode cX1_route 0 = .ok (.aload_n 0, 1) := by decide +kernel
theorem dX1_route_1 : decode cX1_route 1 = .ok (.invokevirtual 53, 3) := by decide +kernel
theorem dX1_route_4 : decode cX1_route 4 = .ok (.ifCond .ne 5, 3) := by decide +kernel
theorem dX1_route_7 : decode cX1_route 7 = .ok (.iconst 0, 1) := by decide +kernel
theorem dX1_route_8 : decode cX1_route 8 = .ok (.ireturn, 1) := by decide +kernel
theorem dX1_route_9 : decode cX1_route 9 = .ok (.aload_n 0, 1) := by decide +kernel
theorem dX1_route_10 : decode cX1_route 10 = .ok (.invokevirtual 57, 3) := by decide +kernel
theorem dX1_route_13 : decode cX1_route 13 = .ok (.aload_n 0, 1) := by decide +kernel
theorem dX1_route_14 : decode cX1_route 14 = .ok (.invokevirtual 60, 3) := by decide +kernel
theorem dX1_route_17 : decode cX1_route 17 = .ok (.iconst 1, 1) := by decide +kernel
theorem dX1_route_18 : decode cX1_route 18 = .ok (.istore_n 1, 1) := by decide +kernel
theorem dX1_route_19 : decode cX1_route 19 = .ok (.iconst 0, 1) := by decide +kernel
theorem dX1_route_20 : decode cX1_route 20 = .ok (.istore_n 2, 1) := by decide +kernel
theorem dX1_route_21 : decode cX1_route 21 = .ok (.iload_n 1, 1) := by decide +kernel
theorem dX1_route_22 : decode cX1_route 22 = .ok (.ifCond .eq 21, 3) := by decide +kernel
theorem dX1_route_25 : decode cX1_route 25 = .ok (.iload_n 2, 1) := by decide +kernel
theorem dX1_route_26 : decode cX1_route 26 = .ok (.sipush 840, 3) := by decide +kernel
theorem dX1_route_29 : decode cX1_route 29 = .ok (.if_icmp .ge 14, 3) := by decide +kernel
theorem dX1_route_32 : decode cX1_route 32 = .ok (.aload_n 0, 1) := by decide +kernel
theorem dX1_route_33 : decode cX1_route 33 = .ok (.invokevirtual 63, 3) := by decide +kernel
theorem dX1_route_36 : decode cX1_route 36 = .ok (.istore_n 1, 1) := by decide +kernel
theorem dX1_route_37 : decode cX1_route 37 = .ok (.iinc 2 1, 3) := by decide +kernel
theorem dX1_route_40 : decode cX1_route 40 = .ok (.goto (-19), 3) := by decide +kernel
theorem dX1_route_43 : decode cX1_route 43 = .ok (.iconst 1, 1) := by decide +kernel
theorem dX1_route_44 : decode cX1_route 44 = .ok (.ireturn, 1) := by decide +kernel
theorem dX1_isBalanced_0 : decode cX1_isBalanced 0 = .ok (.iconst 0, 1) := by decide +kernel
theorem dX1_isBalanced_1 : decode cX1_isBalanced 1 = .ok (.istore_n 1, 1) := by decide +kernel
theorem dX1_isBalanced_2 : decode cX1_isBalanced 2 = .ok (.iload_n 1, 1) := by decide +kernel
theorem dX1_isBalanced_3 : decode cX1_isBalanced 3 = .ok (.bipush 8, 2) := by decide +kernel
theorem dX1_isBalanced_5 : decode cX1_isBalanced 5 = .ok (.if_icmp .ge 20, 3) := by decide +kernel
theorem dX1_isBalanced_8 : decode cX1_isBalanced 8 = .ok (.aload_n 0, 1) := by decide +kernel
theorem dX1_isBalanced_9 : decode cX1_isBalanced 9 = .ok (.getfield 31, 3) := by decide +kernel
theorem dX1_isBalanced_12 : decode cX1_isBalanced 12 = .ok (.iload_n 1, 1) := by decide +kernel
theorem dX1_isBalanced_13 : decode cX1_isBalanced 13 = .ok (.iaload, 1) := by decide +kernel
theorem dX1_isBalanced_14 : decode cX1_isBalanced 14 = .ok (.ifCond .eq 5, 3) := by decide +kernel
theorem dX1_isBalanced_17 : decode cX1_isBalanced 17 = .ok (.iconst 0, 1) := by decide +kernel
theorem dX1_isBalanced_18 : decode cX1_isBalanced 18 = .ok (.ireturn, 1) := by decide +kernel
theorem dX1_isBalanced_19 : decode cX1_isBalanced 19 = .ok (.iinc 1 1, 3) := by decide +kernel
theorem dX1_isBalanced_22 : decode cX1_isBalanced 22 = .ok (.goto (-20), 3) := by decide +kernel
theorem dX1_isBalanced_25 : decode cX1_isBalanced 25 = .ok (.iconst 1, 1) := by decide +kernel
theorem dX1_isBalanced_26 : decode cX1_isBalanced 26 = .ok (.ireturn, 1) := by decide +kernel
set_option maxRecDepth 20000 in
theorem ggX1_totalExcess_X2_sumAboveZero : GoodIn wsX1_totalExcess wsX2_sumAboveZero := goodIn_r _ [4, 5, 6, 7, 8] (by decide +kernel) (by decide +kernel)
set_option maxRecDepth 20000 in
theorem gX1_totalExcess_X2_sumAboveZero_n66 : GoodIn wsX1_totalExcess (wsX2_sumAboveZero) := ggX1_totalExcess_X2_sumAboveZero
theorem dX1_totalExcess_0 : decode cX1_totalExcess 0 = .ok (.aload_n 0, 1) := by decide +kernel
theorem dX1_totalExcess_1 : decode cX1_totalExcess 1 = .ok (.getfield 31, 3) := by decide +kernel
theorem dX1_totalExcess_4 : decode cX1_totalExcess 4 = .ok (.invokestatic 66, 3) := by decide +kernel
theorem dX1_totalExcess_7 : decode cX1_totalExcess 7 = .ok (.ireturn, 1) := by decide +kernel
theorem dX1_costOfFlow_0 : decode cX1_costOfFlow 0 = .ok (.iconst 0, 1) := by decide +kernel
theorem dX1_costOfFlow_1 : decode cX1_costOfFlow 1 = .ok (.istore_n 1, 1) := by decide +kernel
theorem dX1_costOfFlow_2 : decode cX1_costOfFlow 2 = .ok (.iconst 0, 1) := by decide +kernel
theorem dX1_costOfFlow_3 : decode cX1_costOfFlow 3 = .ok (.istore_n 2, 1) := by decide +kernel
theorem dX1_costOfFlow_4 : decode cX1_costOfFlow 4 = .ok (.iload_n 2, 1) := by decide +kernel
theorem dX1_costOfFlow_5 : decode cX1_costOfFlow 5 = .ok (.aload_n 0, 1) := by decide +kernel
theorem dX1_costOfFlow_6 : decode cX1_costOfFlow 6 = .ok (.getfield 12, 3) := by decide +kernel
theorem dX1_costOfFlow_9 : decode cX1_costOfFlow 9 = .ok (.getfield 40, 3) := by decide +kernel
theorem dX1_costOfFlow_12 : decode cX1_costOfFlow 12 = .ok (.if_icmp .ge 32, 3) := by decide +kernel
theorem dX1_costOfFlow_15 : decode cX1_costOfFlow 15 = .ok (.iload_n 1, 1) := by decide +kernel
theorem dX1_costOfFlow_16 : decode cX1_costOfFlow 16 = .ok (.aload_n 0, 1) := by decide +kernel
theorem dX1_costOfFlow_17 : decode cX1_costOfFlow 17 = .ok (.getfield 12, 3) := by decide +kernel
theorem dX1_costOfFlow_20 : decode cX1_costOfFlow 20 = .ok (.getfield 50, 3) := by decide +kernel
theorem dX1_costOfFlow_23 : decode cX1_costOfFlow 23 = .ok (.iload_n 2, 1) := by decide +kernel
theorem dX1_costOfFlow_24 : decode cX1_costOfFlow 24 = .ok (.iaload, 1) := by decide +kernel
theorem dX1_costOfFlow_25 : decode cX1_costOfFlow 25 = .ok (.aload_n 0, 1) := by decide +kernel
theorem dX1_costOfFlow_26 : decode cX1_costOfFlow 26 = .ok (.getfield 28, 3) := by decide +kernel
theorem dX1_costOfFlow_29 : decode cX1_costOfFlow 29 = .ok (.iconst 2, 1) := by decide +kernel
theorem dX1_costOfFlow_30 : decode cX1_costOfFlow 30 = .ok (.iload_n 2, 1) := by decide +kernel
theorem dX1_costOfFlow_31 : decode cX1_costOfFlow 31 = .ok (.imul, 1) := by decide +kernel
theorem dX1_costOfFlow_32 : decode cX1_costOfFlow 32 = .ok (.iconst 1, 1) := by decide +kernel
theorem dX1_costOfFlow_33 : decode cX1_costOfFlow 33 = .ok (.iadd, 1) := by decide +kernel
theorem dX1_costOfFlow_34 : decode cX1_costOfFlow 34 = .ok (.iaload, 1) := by decide +kernel
theorem dX1_costOfFlow_35 : decode cX1_costOfFlow 35 = .ok (.imul, 1) := by decide +kernel
theorem dX1_costOfFlow_36 : decode cX1_costOfFlow 36 = .ok (.iadd, 1) := by decide +kernel
theorem dX1_costOfFlow_37 : decode cX1_costOfFlow 37 = .ok (.istore_n 1, 1) := by decide +kernel
theorem dX1_costOfFlow_38 : decode cX1_costOfFlow 38 = .ok (.iinc 2 1, 3) := by decide +kernel
theorem dX1_costOfFlow_41 : decode cX1_costOfFlow 41 = .ok (.goto (-37), 3) := by decide +kernel
theorem dX1_costOfFlow_44 : decode cX1_costOfFlow 44 = .ok (.iload_n 1, 1) := by decide +kernel
theorem dX1_costOfFlow_45 : decode cX1_costOfFlow 45 = .ok (.ireturn, 1) := by decide +kernel
set_option maxRecDepth 20000 in
theorem ggX1_nodesBehindExcess_X1_startAtExcess : GoodIn wsX1_nodesBehindExcess wsX1_startAtExcess := goodIn_r _ [7, 8, 9, 10, 11, 6, 12, 1, 2, 13, 28, 29, 30, 31, 32, 33, 34, 35] (by decide +kernel) (by decide +kernel)
set_option maxRecDepth 20000 in
theorem gX1_nodesBehindExcess_X1_startAtExcess : GoodIn wsX1_nodesBehindExcess (wsV RX1 70 RX1 yX1_startAtExcess wsX1_startAtExcess) := goodIn_app (goodIn_of _ (by decide +kernel)) ggX1_nodesBehindExcess_X1_startAtExcess
set_option maxRecDepth 20000 in
theorem ggX1_nodesBehindExcess_X1_measure : GoodIn wsX1_nodesBehindExcess wsX1_measure := goodIn_r _ [17, 18, 19, 20, 1, 21, 2, 22, 23, 13, 24, 25, 26, 6, 27, 28, 29, 30, 31, 32, 33, 34, 35, 36, 37, 38, 39, 40, 41] (by decide +kernel) (by decide +kernel)
set_option maxRecDepth 20000 in
theorem gX1_nodesBehindExcess_X1_measure : GoodIn wsX1_nodesBehindExcess (wsV RX1 73 RX1 yX1_measure wsX1_measure) := goodIn_app (goodIn_of _ (by decide +kernel)) ggX1_nodesBehindExcess_X1_measure
theorem dX1_nodesBehindExcess_0 : decode cX1_nodesBehindExcess 0 = .ok (.aload_n 0, 1) := by decide +kernel
theorem dX1_nodesBehindExcess_1 : decode cX1_nodesBehindExcess 1 = .ok (.invokevirtual 70, 3) := by decide +kernel
theorem dX1_nodesBehindExcess_4 : decode cX1_nodesBehindExcess 4 = .ok (.aload_n 0, 1) := by decide +kernel
theorem dX1_nodesBehindExcess_5 : decode cX1_nodesBehindExcess 5 = .ok (.iconst (-1), 1) := by decide +kernel
theorem dX1_nodesBehindExcess_6 : decode cX1_nodesBehindExcess 6 = .ok (.invokevirtual 73, 3) := by decide +kernel
theorem dX1_nodesBehindExcess_9 : decode cX1_nodesBehindExcess 9 = .ok (.iconst 0, 1) := by decide +kernel
theorem dX1_nodesBehindExcess_10 : decode cX1_nodesBehindExcess 10 = .ok (.istore_n 1, 1) := by decide +kernel
theorem dX1_nodesBehindExcess_11 : decode cX1_nodesBehindExcess 11 = .ok (.iconst 0, 1) := by decide +kernel
theorem dX1_nodesBehindExcess_12 : decode cX1_nodesBehindExcess 12 = .ok (.istore_n 2, 1) := by decide +kernel
theorem dX1_nodesBehindExcess_13 : decode cX1_nodesBehindExcess 13 = .ok (.iload_n 2, 1) := by decide +kernel
theorem dX1_nodesBehindExcess_14 : decode cX1_nodesBehindExcess 14 = .ok (.bipush 8, 2) := by decide +kernel
theorem dX1_nodesBehindExcess_16 : decode cX1_nodesBehindExcess 16 = .ok (.if_icmp .ge 26, 3) := by decide +kernel
theorem dX1_nodesBehindExcess_19 : decode cX1_nodesBehindExcess 19 = .ok (.aload_n 0, 1) := by decide +kernel
theorem dX1_nodesBehindExcess_20 : decode cX1_nodesBehindExcess 20 = .ok (.getfield 34, 3) := by decide +kernel
theorem dX1_nodesBehindExcess_23 : decode cX1_nodesBehindExcess 23 = .ok (.iload_n 2, 1) := by decide +kernel
theorem dX1_nodesBehindExcess_24 : decode cX1_nodesBehindExcess 24 = .ok (.iaload, 1) := by decide +kernel
theorem dX1_nodesBehindExcess_25 : decode cX1_nodesBehindExcess 25 = .ok (.ldc 77, 2) := by decide +kernel
theorem dX1_nodesBehindExcess_27 : decode cX1_nodesBehindExcess 27 = .ok (.if_icmp .ge 9, 3) := by decide +kernel
theorem dX1_nodesBehindExcess_30 : decode cX1_nodesBehindExcess 30 = .ok (.iload_n 1, 1) := by decide +kernel
theorem dX1_nodesBehindExcess_31 : decode cX1_nodesBehindExcess 31 = .ok (.iconst 1, 1) := by decide +kernel
theorem dX1_nodesBehindExcess_32 : decode cX1_nodesBehindExcess 32 = .ok (.iload_n 2, 1) := by decide +kernel
theorem dX1_nodesBehindExcess_33 : decode cX1_nodesBehindExcess 33 = .ok (.ishl, 1) := by decide +kernel
theorem dX1_nodesBehindExcess_34 : decode cX1_nodesBehindExcess 34 = .ok (.ior, 1) := by decide +kernel
theorem dX1_nodesBehindExcess_35 : decode cX1_nodesBehindExcess 35 = .ok (.istore_n 1, 1) := by decide +kernel
theorem dX1_nodesBehindExcess_36 : decode cX1_nodesBehindExcess 36 = .ok (.iinc 2 1, 3) := by decide +kernel
theorem dX1_nodesBehindExcess_39 : decode cX1_nodesBehindExcess 39 = .ok (.goto (-26), 3) := by decide +kernel
theorem dX1_nodesBehindExcess_42 : decode cX1_nodesBehindExcess 42 = .ok (.iload_n 1, 1) := by decide +kernel
theorem dX1_nodesBehindExcess_43 : decode cX1_nodesBehindExcess 43 = .ok (.ireturn, 1) := by decide +kernel
set_option maxRecDepth 20000 in
theorem ggX1_canReach_X1_setStart : GoodIn wsX1_canReach wsX1_setStart := goodIn_r _ [7, 1, 2, 8, 23, 24, 25, 26, 27, 28, 29, 30] (by decide +kernel) (by decide +kernel)
set_option maxRecDepth 20000 in
theorem gX1_canReach_X1_setStart : GoodIn wsX1_canReach (wsV RX1 78 RX1 yX1_setStart wsX1_setStart) := goodIn_app (goodIn_of _ (by decide +kernel)) ggX1_canReach_X1_setStart
set_option maxRecDepth 20000 in
theorem ggX1_canReach_X1_measure : GoodIn wsX1_canReach wsX1_measure := goodIn_r _ [12, 13, 14, 15, 1, 16, 2, 17, 18, 8, 19, 20, 21, 6, 22, 23, 24, 25, 26, 27, 28, 29, 30, 31, 32, 33, 34, 35, 36] (by decide +kernel) (by decide +kernel)
set_option maxRecDepth 20000 in
theorem gX1_canReach_X1_measure : GoodIn wsX1_canReach (wsV RX1 73 RX1 yX1_measure wsX1_measure) := goodIn_app (goodIn_of _ (by decide +kernel)) ggX1_canReach_X1_measure
theorem dX1_canReach_0 : decode cX1_canReach 0 = .ok (.iconst 0, 1) := by decide +kernel
theorem dX1_canReach_1 : decode cX1_canReach 1 = .ok (.istore 4, 2) := by decide +kernel
theorem dX1_canReach_3 : decode cX1_canReach 3 = .ok (.iload 4, 2) := by decide +kernel
theorem dX1_canReach_5 : decode cX1_canReach 5 = .ok (.bipush 8, 2) := by decide +kernel
theorem dX1_canReach_7 : decode cX1_canReach 7 = .ok (.if_icmp .ge 26, 3) := by decide +kernel
theorem dX1_canReach_10 : decode cX1_canReach 10 = .ok (.aload_n 0, 1) := by decide +kernel
theorem dX1_canReach_11 : decode cX1_canReach 11 = .ok (.iload 4, 2) := by decide +kernel
theorem dX1_canReach_13 : decode cX1_canReach 13 = .ok (.iload 4, 2) := by decide +kernel
theorem dX1_canReach_15 : decode cX1_canReach 15 = .ok (.iload_n 1, 1) := by decide +kernel
theorem dX1_canReach_16 : decode cX1_canReach 16 = .ok (.if_icmp .ne 7, 3) := by decide +kernel
theorem dX1_canReach_19 : decode cX1_canReach 19 = .ok (.iconst 1, 1) := by decide +kernel
theorem dX1_canReach_20 : decode cX1_canReach 20 = .ok (.goto 4, 3) := by decide +kernel
theorem dX1_canReach_23 : decode cX1_canReach 23 = .ok (.iconst 0, 1) := by decide +kernel
theorem dX1_canReach_24 : decode cX1_canReach 24 = .ok (.invokevirtual 78, 3) := by decide +kernel
theorem dX1_canReach_27 : decode cX1_canReach 27 = .ok (.iinc 4 1, 3) := by decide +kernel
theorem dX1_canReach_30 : decode cX1_canReach 30 = .ok (.goto (-27), 3) := by decide +kernel
theorem dX1_canReach_33 : decode cX1_canReach 33 = .ok (.aload_n 0, 1) := by decide +kernel
theorem dX1_canReach_34 : decode cX1_canReach 34 = .ok (.iload_n 3, 1) := by decide +kernel
theorem dX1_canReach_35 : decode cX1_canReach 35 = .ok (.invokevirtual 73, 3) := by decide +kernel
theorem dX1_canReach_38 : decode cX1_canReach 38 = .ok (.aload_n 0, 1) := by decide +kernel
theorem dX1_canReach_39 : decode cX1_canReach 39 = .ok (.getfield 34, 3) := by decide +kernel
theorem dX1_canReach_42 : decode cX1_canReach 42 = .ok (.iload_n 2, 1) := by decide +kernel
theorem dX1_canReach_43 : decode cX1_canReach 43 = .ok (.iaload, 1) := by decide +kernel
theorem dX1_canReach_44 : decode cX1_canReach 44 = .ok (.ldc 77, 2) := by decide +kernel
theorem dX1_canReach_46 : decode cX1_canReach 46 = .ok (.if_icmp .ge 7, 3) := by decide +kernel
theorem dX1_canReach_49 : decode cX1_canReach 49 = .ok (.iconst 1, 1) := by decide +kernel
theorem dX1_canReach_50 : decode cX1_canReach 50 = .ok (.goto 4, 3) := by decide +kernel
theorem dX1_canReach_53 : decode cX1_canReach 53 = .ok (.iconst 0, 1) := by decide +kernel
theorem dX1_canReach_54 : decode cX1_canReach 54 = .ok (.ireturn, 1) := by decide +kernel
set_option maxRecDepth 20000 in
theorem ggX1_levelUnboundedArcs_X1_isShortcut : GoodIn wsX1_levelUnboundedArcs wsX1_isShortcut := goodIn_r _ [12, 1, 6, 7, 5, 13, 14, 15, 16, 17, 18, 19, 20] (by decide +kernel) (by decide +kernel)
set_option maxRecDepth 20000 in
theorem gX1_levelUnboundedArcs_X1_isShortcut : GoodIn wsX1_levelUnboundedArcs (wsV RX1 85 RX1 yX1_isShortcut wsX1_isShortcut) := goodIn_app (goodIn_of _ (by decide +kernel)) ggX1_levelUnboundedArcs_X1_isShortcut
theorem dX1_levelUnboundedArcs_0 : decode cX1_levelUnboundedArcs 0 = .ok (.iconst 0, 1) := by decide +kernel
theorem dX1_levelUnboundedArcs_1 : decode cX1_levelUnboundedArcs 1 = .ok (.istore_n 1, 1) := by decide +kernel
theorem dX1_levelUnboundedArcs_2 : decode cX1_levelUnboundedArcs 2 = .ok (.iload_n 1, 1) := by decide +kernel
theorem dX1_levelUnboundedArcs_3 : decode cX1_levelUnboundedArcs 3 = .ok (.bipush 8, 2) := by decide +kernel
theorem dX1_levelUnboundedArcs_5 : decode cX1_levelUnboundedArcs 5 = .ok (.if_icmp .ge 16, 3) := by decide +kernel
theorem dX1_levelUnboundedArcs_8 : decode cX1_levelUnboundedArcs 8 = .ok (.aload_n 0, 1) := by decide +kernel
theorem dX1_levelUnboundedArcs_9 : decode cX1_levelUnboundedArcs 9 = .ok (.getfield 34, 3) := by decide +kernel
theorem dX1_levelUnboundedArcs_12 : decode cX1_levelUnboundedArcs 12 = .ok (.iload_n 1, 1) := by decide +kernel
theorem dX1_levelUnboundedArcs_13 : decode cX1_levelUnboundedArcs 13 = .ok (.iconst 0, 1) := by decide +kernel
theorem dX1_levelUnboundedArcs_14 : decode cX1_levelUnboundedArcs 14 = .ok (.iastore, 1) := by decide +kernel
theorem dX1_levelUnboundedArcs_15 : decode cX1_levelUnboundedArcs 15 = .ok (.iinc 1 1, 3) := by decide +kernel
theorem dX1_levelUnboundedArcs_18 : decode cX1_levelUnboundedArcs 18 = .ok (.goto (-16), 3) := by decide +kernel
theorem dX1_levelUnboundedArcs_21 : decode cX1_levelUnboundedArcs 21 = .ok (.iconst 1, 1) := by decide +kernel
theorem dX1_levelUnboundedArcs_22 : decode cX1_levelUnboundedArcs 22 = .ok (.istore_n 1, 1) := by decide +kernel
theorem dX1_levelUnboundedArcs_23 : decode cX1_levelUnboundedArcs 23 = .ok (.iconst 0, 1) := by decide +kernel
theorem dX1_levelUnboundedArcs_24 : decode cX1_levelUnboundedArcs 24 = .ok (.istore_n 2, 1) := by decide +kernel
theorem dX1_levelUnboundedArcs_25 : decode cX1_levelUnboundedArcs 25 = .ok (.iload_n 1, 1) := by decide +kernel
theorem dX1_levelUnboundedArcs_26 : decode cX1_levelUnboundedArcs 26 = .ok (.ifCond .eq 96, 3) := by decide +kernel
theorem dX1_levelUnboundedArcs_29 : decode cX1_levelUnboundedArcs 29 = .ok (.iload_n 2, 1) := by decide +kernel
theorem dX1_levelUnboundedArcs_30 : decode cX1_levelUnboundedArcs 30 = .ok (.bipush 8, 2) := by decide +kernel
theorem dX1_levelUnboundedArcs_32 : decode cX1_levelUnboundedArcs 32 = .ok (.if_icmp .ge 90, 3) := by decide +kernel
theorem dX1_levelUnboundedArcs_35 : decode cX1_levelUnboundedArcs 35 = .ok (.iconst 0, 1) := by decide +kernel
theorem dX1_levelUnboundedArcs_36 : decode cX1_levelUnboundedArcs 36 = .ok (.istore_n 1, 1) := by decide +kernel
theorem dX1_levelUnboundedArcs_37 : decode cX1_levelUnboundedArcs 37 = .ok (.iconst 0, 1) := by decide +kernel
theorem dX1_levelUnboundedArcs_38 : decode cX1_levelUnboundedArcs 38 = .ok (.istore_n 3, 1) := by decide +kernel
theorem dX1_levelUnboundedArcs_39 : decode cX1_levelUnboundedArcs 39 = .ok (.iload_n 3, 1) := by decide +kernel
theorem dX1_levelUnboundedArcs_40 : decode cX1_levelUnboundedArcs 40 = .ok (.aload_n 0, 1) := by decide +kernel
theorem dX1_levelUnboundedArcs_41 : decode cX1_levelUnboundedArcs 41 = .ok (.getfield 12, 3) := by decide +kernel
theorem dX1_levelUnboundedArcs_44 : decode cX1_levelUnboundedArcs 44 = .ok (.getfield 40, 3) := by decide +kernel
theorem dX1_levelUnboundedArcs_47 : decode cX1_levelUnboundedArcs 47 = .ok (.if_icmp .ge 69, 3) := by decide +kernel
theorem dX1_levelUnboundedArcs_50 : decode cX1_levelUnboundedArcs 50 = .ok (.aload_n 0, 1) := by decide +kernel
theorem dX1_levelUnboundedArcs_51 : decode cX1_levelUnboundedArcs 51 = .ok (.getfield 12, 3) := by decide +kernel
theorem dX1_levelUnboundedArcs_54 : decode cX1_levelUnboundedArcs 54 = .ok (.getfield 82, 3) := by decide +kernel
theorem dX1_levelUnboundedArcs_57 : decode cX1_levelUnboundedArcs 57 = .ok (.iload_n 3, 1) := by decide +kernel
theorem dX1_levelUnboundedArcs_58 : decode cX1_levelUnboundedArcs 58 = .ok (.iaload, 1) := by decide +kernel
theorem dX1_levelUnboundedArcs_59 : decode cX1_levelUnboundedArcs 59 = .ok (.iconst (-1), 1) := by decide +kernel
theorem dX1_levelUnboundedArcs_60 : decode cX1_levelUnboundedArcs 60 = .ok (.if_icmp .ne 50, 3) := by decide +kernel
theorem dX1_levelUnboundedArcs_63 : decode cX1_levelUnboundedArcs 63 = .ok (.aload_n 0, 1) := by decide +kernel
theorem dX1_levelUnboundedArcs_64 : decode cX1_levelUnboundedArcs 64 = .ok (.iconst 2, 1) := by decide +kernel
theorem dX1_levelUnboundedArcs_65 : decode cX1_levelUnboundedArcs 65 = .ok (.iload_n 3, 1) := by decide +kernel
theorem dX1_levelUnboundedArcs_66 : decode cX1_levelUnboundedArcs 66 = .ok (.imul, 1) := by decide +kernel
theorem dX1_levelUnboundedArcs_67 : decode cX1_levelUnboundedArcs 67 = .ok (.invokevirtual 85, 3) := by decide +kernel
theorem dX1_levelUnboundedArcs_70 : decode cX1_levelUnboundedArcs 70 = .ok (.ifCond .eq 40, 3) := by decide +kernel
theorem dX1_levelUnboundedArcs_73 : decode cX1_levelUnboundedArcs 73 = .ok (.aload_n 0, 1) := by decide +kernel
theorem dX1_levelUnboundedArcs_74 : decode cX1_levelUnboundedArcs 74 = .ok (.getfield 34, 3) := by decide +kernel
theorem dX1_levelUnboundedArcs_77 : decode cX1_levelUnboundedArcs 77 = .ok (.aload_n 0, 1) := by decide +kernel
theorem dX1_levelUnboundedArcs_78 : decode cX1_levelUnboundedArcs 78 = .ok (.getfield 22, 3) := by decide +kernel
theorem dX1_levelUnboundedArcs_81 : decode cX1_levelUnboundedArcs 81 = .ok (.iconst 2, 1) := by decide +kernel
theorem dX1_levelUnboundedArcs_82 : decode cX1_levelUnboundedArcs 82 = .ok (.iload_n 3, 1) := by decide +kernel
theorem dX1_levelUnboundedArcs_83 : decode cX1_levelUnboundedArcs 83 = .ok (.imul, 1) := by decide +kernel
theorem dX1_levelUnboundedArcs_84 : decode cX1_levelUnboundedArcs 84 = .ok (.iaload, 1) := by decide +kernel
theorem dX1_levelUnboundedArcs_85 : decode cX1_levelUnboundedArcs 85 = .ok (.aload_n 0, 1) := by decide +kernel
theorem dX1_levelUnboundedArcs_86 : decode cX1_levelUnboundedArcs 86 = .ok (.getfield 34, 3) := by decide +kernel
theorem dX1_levelUnboundedArcs_89 : decode cX1_levelUnboundedArcs 89 = .ok (.aload_n 0, 1) := by decide +kernel
theorem dX1_levelUnboundedArcs_90 : decode cX1_levelUnboundedArcs 90 = .ok (.getfield 18, 3) := by decide +kernel
theorem dX1_levelUnboundedArcs_93 : decode cX1_levelUnboundedArcs 93 = .ok (.iconst 2, 1) := by decide +kernel
theorem dX1_levelUnboundedArcs_94 : decode cX1_levelUnboundedArcs 94 = .ok (.iload_n 3, 1) := by decide +kernel
theorem dX1_levelUnboundedArcs_95 : decode cX1_levelUnboundedArcs 95 = .ok (.imul, 1) := by decide +kernel
theorem dX1_levelUnboundedArcs_96 : decode cX1_levelUnboundedArcs 96 = .ok (.iaload, 1) := by decide +kernel
theorem dX1_levelUnboundedArcs_97 : decode cX1_levelUnboundedArcs 97 = .ok (.iaload, 1) := by decide +kernel
theorem dX1_levelUnboundedArcs_98 : decode cX1_levelUnboundedArcs 98 = .ok (.aload_n 0, 1) := by decide +kernel
theorem dX1_levelUnboundedArcs_99 : decode cX1_levelUnboundedArcs 99 = .ok (.getfield 25, 3) := by decide +kernel
theorem dX1_levelUnboundedArcs_102 : decode cX1_levelUnboundedArcs 102 = .ok (.iconst 2, 1) := by decide +kernel
theorem dX1_levelUnboundedArcs_103 : decode cX1_levelUnboundedArcs 103 = .ok (.iload_n 3, 1) := by decide +kernel
theorem dX1_levelUnboundedArcs_104 : decode cX1_levelUnboundedArcs 104 = .ok (.imul, 1) := by decide +kernel
theorem dX1_levelUnboundedArcs_105 : decode cX1_levelUnboundedArcs 105 = .ok (.iaload, 1) := by decide +kernel
theorem dX1_levelUnboundedArcs_106 : decode cX1_levelUnboundedArcs 106 = .ok (.iadd, 1) := by decide +kernel
theorem dX1_levelUnboundedArcs_107 : decode cX1_levelUnboundedArcs 107 = .ok (.iastore, 1) := by decide +kernel
theorem dX1_levelUnboundedArcs_108 : decode cX1_levelUnboundedArcs 108 = .ok (.iconst 1, 1) := by decide +kernel
theorem dX1_levelUnboundedArcs_109 : decode cX1_levelUnboundedArcs 109 = .ok (.istore_n 1, 1) := by decide +kernel
theorem dX1_levelUnboundedArcs_110 : decode cX1_levelUnboundedArcs 110 = .ok (.iinc 3 1, 3) := by decide +kernel
theorem dX1_levelUnboundedArcs_113 : decode cX1_levelUnboundedArcs 113 = .ok (.goto (-74), 3) := by decide +kernel
theorem dX1_levelUnboundedArcs_116 : decode cX1_levelUnboundedArcs 116 = .ok (.iinc 2 1, 3) := by decide +kernel
theorem dX1_levelUnboundedArcs_119 : decode cX1_levelUnboundedArcs 119 = .ok (.goto (-94), 3) := by decide +kernel
theorem dX1_levelUnboundedArcs_122 : decode cX1_levelUnboundedArcs 122 = .ok (.iload_n 1, 1) := by decide +kernel
theorem dX1_levelUnboundedArcs_123 : decode cX1_levelUnboundedArcs 123 = .ok (.ifCond .ne 7, 3) := by decide +kernel
theorem dX1_levelUnboundedArcs_126 : decode cX1_levelUnboundedArcs 126 = .ok (.iconst 1, 1) := by decide +kernel
theorem dX1_levelUnboundedArcs_127 : decode cX1_levelUnboundedArcs 127 = .ok (.goto 4, 3) := by decide +kernel
theorem dX1_levelUnboundedArcs_130 : decode cX1_levelUnboundedArcs 130 = .ok (.iconst 0, 1) := by decide +kernel
theorem dX1_levelUnboundedArcs_131 : decode cX1_levelUnboundedArcs 131 = .ok (.ireturn, 1) := by decide +kernel
theorem dX1_isShortcut_0 : decode cX1_isShortcut 0 = .ok (.aload_n 0, 1) := by decide +kernel
theorem dX1_isShortcut_1 : decode cX1_isShortcut 1 = .ok (.getfield 34, 3) := by decide +kernel
theorem dX1_isShortcut_4 : decode cX1_isShortcut 4 = .ok (.aload_n 0, 1) := by decide +kernel
theorem dX1_isShortcut_5 : decode cX1_isShortcut 5 = .ok (.getfield 18, 3) := by decide +kernel
theorem dX1_isShortcut_8 : decode cX1_isShortcut 8 = .ok (.iload_n 1, 1) := by decide +kernel
theorem dX1_isShortcut_9 : decode cX1_isShortcut 9 = .ok (.iaload, 1) := by decide +kernel
theorem dX1_isShortcut_10 : decode cX1_isShortcut 10 = .ok (.iaload, 1) := by decide +kernel
theorem dX1_isShortcut_11 : decode cX1_isShortcut 11 = .ok (.aload_n 0, 1) := by decide +kernel
theorem dX1_isShortcut_12 : decode cX1_isShortcut 12 = .ok (.getfield 25, 3) := by decide +kernel
theorem dX1_isShortcut_15 : decode cX1_isShortcut 15 = .ok (.iload_n 1, 1) := by decide +kernel
theorem dX1_isShortcut_16 : decode cX1_isShortcut 16 = .ok (.iaload, 1) := by decide +kernel
theorem dX1_isShortcut_17 : decode cX1_isShortcut 17 = .ok (.iadd, 1) := by decide +kernel
theorem dX1_isShortcut_18 : decode cX1_isShortcut 18 = .ok (.aload_n 0, 1) := by decide +kernel
theorem dX1_isShortcut_19 : decode cX1_isShortcut 19 = .ok (.getfield 34, 3) := by decide +kernel
theorem dX1_isShortcut_22 : decode cX1_isShortcut 22 = .ok (.aload_n 0, 1) := by decide +kernel
theorem dX1_isShortcut_23 : decode cX1_isShortcut 23 = .ok (.getfield 22, 3) := by decide +kernel
theorem dX1_isShortcut_26 : decode cX1_isShortcut 26 = .ok (.iload_n 1, 1) := by decide +kernel
theorem dX1_isShortcut_27 : decode cX1_isShortcut 27 = .ok (.iaload, 1) := by decide +kernel
theorem dX1_isShortcut_28 : decode cX1_isShortcut 28 = .ok (.iaload, 1) := by decide +kernel
theorem dX1_isShortcut_29 : decode cX1_isShortcut 29 = .ok (.if_icmp .ge 7, 3) := by decide +kernel
theorem dX1_isShortcut_32 : decode cX1_isShortcut 32 = .ok (.iconst 1, 1) := by decide +kernel
theorem dX1_isShortcut_33 : decode cX1_isShortcut 33 = .ok (.goto 4, 3) := by decide +kernel
theorem dX1_isShortcut_36 : decode cX1_isShortcut 36 = .ok (.iconst 0, 1) := by decide +kernel
theorem dX1_isShortcut_37 : decode cX1_isShortcut 37 = .ok (.ireturn, 1) := by decide +kernel
set_option maxRecDepth 20000 in
theorem ggX1_fillLightArcs_X1_isShortcut : GoodIn wsX1_fillLightArcs wsX1_isShortcut := goodIn_r _ [9, 10, 11, 12, 13, 14, 15, 16, 17, 18, 19, 20, 21] (by decide +kernel) (by decide +kernel)
set_option maxRecDepth 20000 in
theorem gX1_fillLightArcs_X1_isShortcut : GoodIn wsX1_fillLightArcs (wsV RX1 85 RX1 yX1_isShortcut wsX1_isShortcut) := goodIn_app (goodIn_of _ (by decide +kernel)) ggX1_fillLightArcs_X1_isShortcut
theorem dX1_fillLightArcs_0 : decode cX1_fillLightArcs 0 = .ok (.iconst 0, 1) := by decide +kernel
theorem dX1_fillLightArcs_1 : decode cX1_fillLightArcs 1 = .ok (.istore_n 1, 1) := by decide +kernel
theorem dX1_fillLightArcs_2 : decode cX1_fillLightArcs 2 = .ok (.iload_n 1, 1) := by decide +kernel
theorem dX1_fillLightArcs_3 : decode cX1_fillLightArcs 3 = .ok (.aload_n 0, 1) := by decide +kernel
theorem dX1_fillLightArcs_4 : decode cX1_fillLightArcs 4 = .ok (.getfield 12, 3) := by decide +kernel
theorem dX1_fillLightArcs_7 : decode cX1_fillLightArcs 7 = .ok (.getfield 40, 3) := by decide +kernel
theorem dX1_fillLightArcs_10 : decode cX1_fillLightArcs 10 = .ok (.if_icmp .ge 93, 3) := by decide +kernel
theorem dX1_fillLightArcs_13 : decode cX1_fillLightArcs 13 = .ok (.aload_n 0, 1) := by decide +kernel
theorem dX1_fillLightArcs_14 : decode cX1_fillLightArcs 14 = .ok (.getfield 12, 3) := by decide +kernel
theorem dX1_fillLightArcs_17 : decode cX1_fillLightArcs 17 = .ok (.getfield 82, 3) := by decide +kernel
theorem dX1_fillLightArcs_20 : decode cX1_fillLightArcs 20 = .ok (.iload_n 1, 1) := by decide +kernel
theorem dX1_fillLightArcs_21 : decode cX1_fillLightArcs 21 = .ok (.iaload, 1) := by decide +kernel
theorem dX1_fillLightArcs_22 : decode cX1_fillLightArcs 22 = .ok (.iconst (-1), 1) := by decide +kernel
theorem dX1_fillLightArcs_23 : decode cX1_fillLightArcs 23 = .ok (.if_icmp .eq 7, 3) := by decide +kernel
theorem dX1_fillLightArcs_26 : decode cX1_fillLightArcs 26 = .ok (.iconst 1, 1) := by decide +kernel
theorem dX1_fillLightArcs_27 : decode cX1_fillLightArcs 27 = .ok (.goto 4, 3) := by decide +kernel
theorem dX1_fillLightArcs_30 : decode cX1_fillLightArcs 30 = .ok (.iconst 0, 1) := by decide +kernel
theorem dX1_fillLightArcs_31 : decode cX1_fillLightArcs 31 = .ok (.istore_n 2, 1) := by decide +kernel
theorem dX1_fillLightArcs_32 : decode cX1_fillLightArcs 32 = .ok (.iload_n 2, 1) := by decide +kernel
theorem dX1_fillLightArcs_33 : decode cX1_fillLightArcs 33 = .ok (.ifCond .eq 15, 3) := by decide +kernel
theorem dX1_fillLightArcs_36 : decode cX1_fillLightArcs 36 = .ok (.aload_n 0, 1) := by decide +kernel
theorem dX1_fillLightArcs_37 : decode cX1_fillLightArcs 37 = .ok (.getfield 12, 3) := by decide +kernel
theorem dX1_fillLightArcs_40 : decode cX1_fillLightArcs 40 = .ok (.getfield 82, 3) := by decide +kernel
theorem dX1_fillLightArcs_43 : decode cX1_fillLightArcs 43 = .ok (.iload_n 1, 1) := by decide +kernel
theorem dX1_fillLightArcs_44 : decode cX1_fillLightArcs 44 = .ok (.iaload, 1) := by decide +kernel
theorem dX1_fillLightArcs_45 : decode cX1_fillLightArcs 45 = .ok (.goto 6, 3) := by decide +kernel
theorem dX1_fillLightArcs_48 : decode cX1_fillLightArcs 48 = .ok (.sipush 1680, 3) := by decide +kernel
theorem dX1_fillLightArcs_51 : decode cX1_fillLightArcs 51 = .ok (.istore_n 3, 1) := by decide +kernel
theorem dX1_fillLightArcs_52 : decode cX1_fillLightArcs 52 = .ok (.iload_n 2, 1) := by decide +kernel
theorem dX1_fillLightArcs_53 : decode cX1_fillLightArcs 53 = .ok (.ifCond .eq 17, 3) := by decide +kernel
theorem dX1_fillLightArcs_56 : decode cX1_fillLightArcs 56 = .ok (.aload_n 0, 1) := by decide +kernel
theorem dX1_fillLightArcs_57 : decode cX1_fillLightArcs 57 = .ok (.iconst 2, 1) := by decide +kernel
theorem dX1_fillLightArcs_58 : decode cX1_fillLightArcs 58 = .ok (.iload_n 1, 1) := by decide +kernel
theorem dX1_fillLightArcs_59 : decode cX1_fillLightArcs 59 = .ok (.imul, 1) := by decide +kernel
theorem dX1_fillLightArcs_60 : decode cX1_fillLightArcs 60 = .ok (.invokevirtual 85, 3) := by decide +kernel
theorem dX1_fillLightArcs_63 : decode cX1_fillLightArcs 63 = .ok (.ifCond .eq 7, 3) := by decide +kernel
theorem dX1_fillLightArcs_66 : decode cX1_fillLightArcs 66 = .ok (.iload_n 3, 1) := by decide +kernel
theorem dX1_fillLightArcs_67 : decode cX1_fillLightArcs 67 = .ok (.goto 4, 3) := by decide +kernel
theorem dX1_fillLightArcs_70 : decode cX1_fillLightArcs 70 = .ok (.iconst 0, 1) := by decide +kernel
theorem dX1_fillLightArcs_71 : decode cX1_fillLightArcs 71 = .ok (.istore 4, 2) := by decide +kernel
theorem dX1_fillLightArcs_73 : decode cX1_fillLightArcs 73 = .ok (.aload_n 0, 1) := by decide +kernel
theorem dX1_fillLightArcs_74 : decode cX1_fillLightArcs 74 = .ok (.getfield 28, 3) := by decide +kernel
theorem dX1_fillLightArcs_77 : decode cX1_fillLightArcs 77 = .ok (.iconst 2, 1) := by decide +kernel
theorem dX1_fillLightArcs_78 : decode cX1_fillLightArcs 78 = .ok (.iload_n 1, 1) := by decide +kernel
theorem dX1_fillLightArcs_79 : decode cX1_fillLightArcs 79 = .ok (.imul, 1) := by decide +kernel
theorem dX1_fillLightArcs_80 : decode cX1_fillLightArcs 80 = .ok (.iload_n 3, 1) := by decide +kernel
theorem dX1_fillLightArcs_81 : decode cX1_fillLightArcs 81 = .ok (.iload 4, 2) := by decide +kernel
theorem dX1_fillLightArcs_83 : decode cX1_fillLightArcs 83 = .ok (.isub, 1) := by decide +kernel
theorem dX1_fillLightArcs_84 : decode cX1_fillLightArcs 84 = .ok (.iastore, 1) := by decide +kernel
theorem dX1_fillLightArcs_85 : decode cX1_fillLightArcs 85 = .ok (.aload_n 0, 1) := by decide +kernel
theorem dX1_fillLightArcs_86 : decode cX1_fillLightArcs 86 = .ok (.getfield 28, 3) := by decide +kernel
theorem dX1_fillLightArcs_89 : decode cX1_fillLightArcs 89 = .ok (.iconst 2, 1) := by decide +kernel
theorem dX1_fillLightArcs_90 : decode cX1_fillLightArcs 90 = .ok (.iload_n 1, 1) := by decide +kernel
theorem dX1_fillLightArcs_91 : decode cX1_fillLightArcs 91 = .ok (.imul, 1) := by decide +kernel
theorem dX1_fillLightArcs_92 : decode cX1_fillLightArcs 92 = .ok (.iconst 1, 1) := by decide +kernel
theorem dX1_fillLightArcs_93 : decode cX1_fillLightArcs 93 = .ok (.iadd, 1) := by decide +kernel
theorem dX1_fillLightArcs_94 : decode cX1_fillLightArcs 94 = .ok (.iload 4, 2) := by decide +kernel
theorem dX1_fillLightArcs_96 : decode cX1_fillLightArcs 96 = .ok (.iastore, 1) := by decide +kernel
theorem dX1_fillLightArcs_97 : decode cX1_fillLightArcs 97 = .ok (.iinc 1 1, 3) := by decide +kernel
theorem dX1_fillLightArcs_100 : decode cX1_fillLightArcs 100 = .ok (.goto (-98), 3) := by decide +kernel
theorem dX1_fillLightArcs_103 : decode cX1_fillLightArcs 103 = .ok (.return_, 1) := by decide +kernel
theorem dX1_countExcess_0 : decode cX1_countExcess 0 = .ok (.iconst 0, 1) := by decide +kernel
theorem dX1_countExcess_1 : decode cX1_countExcess 1 = .ok (.istore_n 1, 1) := by decide +kernel
theorem dX1_countExcess_2 : decode cX1_countExcess 2 = .ok (.iload_n 1, 1) := by decide +kernel
theorem dX1_countExcess_3 : decode cX1_countExcess 3 = .ok (.bipush 8, 2) := by decide +kernel
theorem dX1_countExcess_5 : decode cX1_countExcess 5 = .ok (.if_icmp .ge 24, 3) := by decide +kernel
theorem dX1_countExcess_8 : decode cX1_countExcess 8 = .ok (.aload_n 0, 1) := by decide +kernel
theorem dX1_countExcess_9 : decode cX1_countExcess 9 = .ok (.getfield 31, 3) := by decide +kernel
theorem dX1_countExcess_12 : decode cX1_countExcess 12 = .ok (.iload_n 1, 1) := by decide +kernel
theorem dX1_countExcess_13 : decode cX1_countExcess 13 = .ok (.aload_n 0, 1) := by decide +kernel
theorem dX1_countExcess_14 : decode cX1_countExcess 14 = .ok (.getfield 12, 3) := by decide +kernel
theorem dX1_countExcess_17 : decode cX1_countExcess 17 = .ok (.getfield 89, 3) := by decide +kernel
theorem dX1_countExcess_20 : decode cX1_countExcess 20 = .ok (.iload_n 1, 1) := by decide +kernel
theorem dX1_countExcess_21 : decode cX1_countExcess 21 = .ok (.iaload, 1) := by decide +kernel
theorem dX1_countExcess_22 : decode cX1_countExcess 22 = .ok (.iastore, 1) := by decide +kernel
theorem dX1_countExcess_23 : decode cX1_countExcess 23 = .ok (.iinc 1 1, 3) := by decide +kernel
theorem dX1_countExcess_26 : decode cX1_countExcess 26 = .ok (.goto (-24), 3) := by decide +kernel
theorem dX1_countExcess_29 : decode cX1_countExcess 29 = .ok (.iconst 0, 1) := by decide +kernel
theorem dX1_countExcess_30 : decode cX1_countExcess 30 = .ok (.istore_n 1, 1) := by decide +kernel
theorem dX1_countExcess_31 : decode cX1_countExcess 31 = .ok (.iload_n 1, 1) := by decide +kernel
theorem dX1_countExcess_32 : decode cX1_countExcess 32 = .ok (.aload_n 0, 1) := by decide +kernel
theorem dX1_countExcess_33 : decode cX1_countExcess 33 = .ok (.getfield 12, 3) := by decide +kernel
theorem dX1_countExcess_36 : decode cX1_countExcess 36 = .ok (.getfield 40, 3) := by decide +kernel
theorem dX1_countExcess_39 : decode cX1_countExcess 39 = .ok (.if_icmp .ge 63, 3) := by decide +kernel
theorem dX1_countExcess_42 : decode cX1_countExcess 42 = .ok (.aload_n 0, 1) := by decide +kernel
theorem dX1_countExcess_43 : decode cX1_countExcess 43 = .ok (.getfield 31, 3) := by decide +kernel
theorem dX1_countExcess_46 : decode cX1_countExcess 46 = .ok (.aload_n 0, 1) := by decide +kernel
theorem dX1_countExcess_47 : decode cX1_countExcess 47 = .ok (.getfield 12, 3) := by decide +kernel
theorem dX1_countExcess_50 : decode cX1_countExcess 50 = .ok (.getfield 44, 3) := by decide +kernel
theorem dX1_countExcess_53 : decode cX1_countExcess 53 = .ok (.iload_n 1, 1) := by decide +kernel
theorem dX1_countExcess_54 : decode cX1_countExcess 54 = .ok (.iaload, 1) := by decide +kernel
theorem dX1_countExcess_55 : decode cX1_countExcess 55 = .ok (.dup2, 1) := by decide +kernel
theorem dX1_countExcess_56 : decode cX1_countExcess 56 = .ok (.iaload, 1) := by decide +kernel
theorem dX1_countExcess_57 : decode cX1_countExcess 57 = .ok (.aload_n 0, 1) := by decide +kernel
theorem dX1_countExcess_58 : decode cX1_countExcess 58 = .ok (.getfield 28, 3) := by decide +kernel
theorem dX1_countExcess_61 : decode cX1_countExcess 61 = .ok (.iconst 2, 1) := by decide +kernel
theorem dX1_countExcess_62 : decode cX1_countExcess 62 = .ok (.iload_n 1, 1) := by decide +kernel
theorem dX1_countExcess_63 : decode cX1_countExcess 63 = .ok (.imul, 1) := by decide +kernel
theorem dX1_countExcess_64 : decode cX1_countExcess 64 = .ok (.iconst 1, 1) := by decide +kernel
theorem dX1_countExcess_65 : decode cX1_countExcess 65 = .ok (.iadd, 1) := by decide +kernel
theorem dX1_countExcess_66 : decode cX1_countExcess 66 = .ok (.iaload, 1) := by decide +kernel
theorem dX1_countExcess_67 : decode cX1_countExcess 67 = .ok (.isub, 1) := by decide +kernel
theorem dX1_countExcess_68 : decode cX1_countExcess 68 = .ok (.iastore, 1) := by decide +kernel
theorem dX1_countExcess_69 : decode cX1_countExcess 69 = .ok (.aload_n 0, 1) := by decide +kernel
theorem dX1_countExcess_70 : decode cX1_countExcess 70 = .ok (.getfield 31, 3) := by decide +kernel
theorem dX1_countExcess_73 : decode cX1_countExcess 73 = .ok (.aload_n 0, 1) := by decide +kernel
theorem dX1_countExcess_74 : decode cX1_countExcess 74 = .ok (.getfield 12, 3) := by decide +kernel
theorem dX1_countExcess_77 : decode cX1_countExcess 77 = .ok (.getfield 47, 3) := by decide +kernel
theorem dX1_countExcess_80 : decode cX1_countExcess 80 = .ok (.iload_n 1, 1) := by decide +kernel
theorem dX1_countExcess_81 : decode cX1_countExcess 81 = .ok (.iaload, 1) := by decide +kernel
theorem dX1_countExcess_82 : decode cX1_countExcess 82 = .ok (.dup2, 1) := by decide +kernel
theorem dX1_countExcess_83 : decode cX1_countExcess 83 = .ok (.iaload, 1) := by decide +kernel
theorem dX1_countExcess_84 : decode cX1_countExcess 84 = .ok (.aload_n 0, 1) := by decide +kernel
theorem dX1_countExcess_85 : decode cX1_countExcess 85 = .ok (.getfield 28, 3) := by decide +kernel
theorem dX1_countExcess_88 : decode cX1_countExcess 88 = .ok (.iconst 2, 1) := by decide +kernel
theorem dX1_countExcess_89 : decode cX1_countExcess 89 = .ok (.iload_n 1, 1) := by decide +kernel
theorem dX1_countExcess_90 : decode cX1_countExcess 90 = .ok (.imul, 1) := by decide +kernel
theorem dX1_countExcess_91 : decode cX1_countExcess 91 = .ok (.iconst 1, 1) := by decide +kernel
theorem dX1_countExcess_92 : decode cX1_countExcess 92 = .ok (.iadd, 1) := by decide +kernel
theorem dX1_countExcess_93 : decode cX1_countExcess 93 = .ok (.iaload, 1) := by decide +kernel
theorem dX1_countExcess_94 : decode cX1_countExcess 94 = .ok (.iadd, 1) := by decide +kernel
theorem dX1_countExcess_95 : decode cX1_countExcess 95 = .ok (.iastore, 1) := by decide +kernel
theorem dX1_countExcess_96 : decode cX1_countExcess 96 = .ok (.iinc 1 1, 3) := by decide +kernel
theorem dX1_countExcess_99 : decode cX1_countExcess 99 = .ok (.goto (-68), 3) := by decide +kernel
theorem dX1_countExcess_102 : decode cX1_countExcess 102 = .ok (.return_, 1) := by decide +kernel
set_option maxRecDepth 20000 in
theorem ggX1_sendOnce_X1_startAtExcess : GoodIn wsX1_sendOnce wsX1_startAtExcess := goodIn_r _ [13, 1, 14, 15, 16, 12, 17, 18, 19, 2, 40, 41, 42, 43, 44, 45, 46, 47] (by decide +kernel) (by decide +kernel)
set_option maxRecDepth 20000 in
theorem gX1_sendOnce_X1_startAtExcess : GoodIn wsX1_sendOnce (wsV RX1 70 RX1 yX1_startAtExcess wsX1_startAtExcess) := goodIn_app (goodIn_of _ (by decide +kernel)) ggX1_sendOnce_X1_startAtExcess
set_option maxRecDepth 20000 in
theorem ggX1_sendOnce_X1_measure : GoodIn wsX1_sendOnce wsX1_measure := goodIn_r _ [23, 24, 25, 3, 18, 8, 19, 26, 27, 2, 28, 29, 30, 12, 31, 40, 41, 42, 43, 44, 45, 46, 47, 48, 49, 50, 51, 52, 53] (by decide +kernel) (by decide +kernel)
set_option maxRecDepth 20000 in
theorem gX1_sendOnce_X1_measure : GoodIn wsX1_sendOnce (wsV RX1 73 RX1 yX1_measure wsX1_measure) := goodIn_app (goodIn_of _ (by decide +kernel)) ggX1_sendOnce_X1_measure
set_option maxRecDepth 20000 in
theorem ggX1_sendOnce_X1_nearestShortNode : GoodIn wsX1_sendOnce wsX1_nearestShortNode := goodIn_r _ [35, 19, 1, 18, 40, 41, 42, 43, 44, 45, 46, 47] (by decide +kernel) (by decide +kernel)
set_option maxRecDepth 20000 in
theorem gX1_sendOnce_X1_nearestShortNode : GoodIn wsX1_sendOnce (wsV RX1 92 RX1 yX1_nearestShortNode wsX1_nearestShortNode) := goodIn_app (goodIn_of _ (by decide +kernel)) ggX1_sendOnce_X1_nearestShortNode
set_option maxRecDepth 20000 in
theorem ggX1_sendOnce_X1_sendAlongPath : GoodIn wsX1_sendOnce wsX1_sendAlongPath := goodIn_r _ [39, 2, 3, 8, 40, 41, 42, 43, 44, 45, 46, 47] (by decide +kernel) (by decide +kernel)
set_option maxRecDepth 20000 in
theorem gX1_sendOnce_X1_sendAlongPath : GoodIn wsX1_sendOnce (wsV RX1 102 RX1 yX1_sendAlongPath wsX1_sendAlongPath) := goodIn_app (goodIn_of _ (by decide +kernel)) ggX1_sendOnce_X1_sendAlongPath
theorem dX1_sendOnce_0 : decode cX1_sendOnce 0 = .ok (.aload_n 0, 1) := by decide +kernel
theorem dX1_sendOnce_1 : decode cX1_sendOnce 1 = .ok (.invokevirtual 70, 3) := by decide +kernel
theorem dX1_sendOnce_4 : decode cX1_sendOnce 4 = .ok (.aload_n 0, 1) := by decide +kernel
theorem dX1_sendOnce_5 : decode cX1_sendOnce 5 = .ok (.iconst (-1), 1) := by decide +kernel
theorem dX1_sendOnce_6 : decode cX1_sendOnce 6 = .ok (.invokevirtual 73, 3) := by decide +kernel
theorem dX1_sendOnce_9 : decode cX1_sendOnce 9 = .ok (.aload_n 0, 1) := by decide +kernel
theorem dX1_sendOnce_10 : decode cX1_sendOnce 10 = .ok (.invokevirtual 92, 3) := by decide +kernel
theorem dX1_sendOnce_13 : decode cX1_sendOnce 13 = .ok (.istore_n 1, 1) := by decide +kernel
theorem dX1_sendOnce_14 : decode cX1_sendOnce 14 = .ok (.iload_n 1, 1) := by decide +kernel
theorem dX1_sendOnce_15 : decode cX1_sendOnce 15 = .ok (.iconst (-1), 1) := by decide +kernel
theorem dX1_sendOnce_16 : decode cX1_sendOnce 16 = .ok (.if_icmp .ne 5, 3) := by decide +kernel
theorem dX1_sendOnce_19 : decode cX1_sendOnce 19 = .ok (.iconst 0, 1) := by decide +kernel
theorem dX1_sendOnce_20 : decode cX1_sendOnce 20 = .ok (.ireturn, 1) := by decide +kernel
theorem dX1_sendOnce_21 : decode cX1_sendOnce 21 = .ok (.aload_n 0, 1) := by decide +kernel
theorem dX1_sendOnce_22 : decode cX1_sendOnce 22 = .ok (.getfield 31, 3) := by decide +kernel
theorem dX1_sendOnce_25 : decode cX1_sendOnce 25 = .ok (.iload_n 1, 1) := by decide +kernel
theorem dX1_sendOnce_26 : decode cX1_sendOnce 26 = .ok (.iaload, 1) := by decide +kernel
theorem dX1_sendOnce_27 : decode cX1_sendOnce 27 = .ok (.ineg, 1) := by decide +kernel
theorem dX1_sendOnce_28 : decode cX1_sendOnce 28 = .ok (.istore_n 2, 1) := by decide +kernel
theorem dX1_sendOnce_29 : decode cX1_sendOnce 29 = .ok (.iload_n 1, 1) := by decide +kernel
theorem dX1_sendOnce_30 : decode cX1_sendOnce 30 = .ok (.istore_n 3, 1) := by decide +kernel
theorem dX1_sendOnce_31 : decode cX1_sendOnce 31 = .ok (.iconst 0, 1) := by decide +kernel
theorem dX1_sendOnce_32 : decode cX1_sendOnce 32 = .ok (.istore 4, 2) := by decide +kernel
theorem dX1_sendOnce_34 : decode cX1_sendOnce 34 = .ok (.iload 4, 2) := by decide +kernel
theorem dX1_sendOnce_36 : decode cX1_sendOnce 36 = .ok (.bipush 8, 2) := by decide +kernel
theorem dX1_sendOnce_38 : decode cX1_sendOnce 38 = .ok (.if_icmp .ge 47, 3) := by decide +kernel
theorem dX1_sendOnce_41 : decode cX1_sendOnce 41 = .ok (.aload_n 0, 1) := by decide +kernel
theorem dX1_sendOnce_42 : decode cX1_sendOnce 42 = .ok (.getfield 37, 3) := by decide +kernel
theorem dX1_sendOnce_45 : decode cX1_sendOnce 45 = .ok (.iload_n 3, 1) := by decide +kernel
theorem dX1_sendOnce_46 : decode cX1_sendOnce 46 = .ok (.iaload, 1) := by decide +kernel
theorem dX1_sendOnce_47 : decode cX1_sendOnce 47 = .ok (.iconst (-1), 1) := by decide +kernel
theorem dX1_sendOnce_48 : decode cX1_sendOnce 48 = .ok (.if_icmp .eq 37, 3) := by decide +kernel
theorem dX1_sendOnce_51 : decode cX1_sendOnce 51 = .ok (.iload_n 2, 1) := by decide +kernel
theorem dX1_sendOnce_52 : decode cX1_sendOnce 52 = .ok (.aload_n 0, 1) := by decide +kernel
theorem dX1_sendOnce_53 : decode cX1_sendOnce 53 = .ok (.getfield 28, 3) := by decide +kernel
theorem dX1_sendOnce_56 : decode cX1_sendOnce 56 = .ok (.aload_n 0, 1) := by decide +kernel
theorem dX1_sendOnce_57 : decode cX1_sendOnce 57 = .ok (.getfield 37, 3) := by decide +kernel
theorem dX1_sendOnce_60 : decode cX1_sendOnce 60 = .ok (.iload_n 3, 1) := by decide +kernel
theorem dX1_sendOnce_61 : decode cX1_sendOnce 61 = .ok (.iaload, 1) := by decide +kernel
theorem dX1_sendOnce_62 : decode cX1_sendOnce 62 = .ok (.iaload, 1) := by decide +kernel
theorem dX1_sendOnce_63 : decode cX1_sendOnce 63 = .ok (.invokestatic 96, 3) := by decide +kernel
theorem dX1_sendOnce_66 : decode cX1_sendOnce 66 = .ok (.istore_n 2, 1) := by decide +kernel
theorem dX1_sendOnce_67 : decode cX1_sendOnce 67 = .ok (.aload_n 0, 1) := by decide +kernel
theorem dX1_sendOnce_68 : decode cX1_sendOnce 68 = .ok (.getfield 18, 3) := by decide +kernel
theorem dX1_sendOnce_71 : decode cX1_sendOnce 71 = .ok (.aload_n 0, 1) := by decide +kernel
theorem dX1_sendOnce_72 : decode cX1_sendOnce 72 = .ok (.getfield 37, 3) := by decide +kernel
theorem dX1_sendOnce_75 : decode cX1_sendOnce 75 = .ok (.iload_n 3, 1) := by decide +kernel
theorem dX1_sendOnce_76 : decode cX1_sendOnce 76 = .ok (.iaload, 1) := by decide +kernel
theorem dX1_sendOnce_77 : decode cX1_sendOnce 77 = .ok (.iaload, 1) := by decide +kernel
theorem dX1_sendOnce_78 : decode cX1_sendOnce 78 = .ok (.istore_n 3, 1) := by decide +kernel
theorem dX1_sendOnce_79 : decode cX1_sendOnce 79 = .ok (.iinc 4 1, 3) := by decide +kernel
theorem dX1_sendOnce_82 : decode cX1_sendOnce 82 = .ok (.goto (-48), 3) := by decide +kernel
theorem dX1_sendOnce_85 : decode cX1_sendOnce 85 = .ok (.iload_n 2, 1) := by decide +kernel
theorem dX1_sendOnce_86 : decode cX1_sendOnce 86 = .ok (.aload_n 0, 1) := by decide +kernel
theorem dX1_sendOnce_87 : decode cX1_sendOnce 87 = .ok (.getfield 31, 3) := by decide +kernel
theorem dX1_sendOnce_90 : decode cX1_sendOnce 90 = .ok (.iload_n 3, 1) := by decide +kernel
theorem dX1_sendOnce_91 : decode cX1_sendOnce 91 = .ok (.iaload, 1) := by decide +kernel
theorem dX1_sendOnce_92 : decode cX1_sendOnce 92 = .ok (.invokestatic 96, 3) := by decide +kernel
theorem dX1_sendOnce_95 : decode cX1_sendOnce 95 = .ok (.istore_n 2, 1) := by decide +kernel
theorem dX1_sendOnce_96 : decode cX1_sendOnce 96 = .ok (.aload_n 0, 1) := by decide +kernel
theorem dX1_sendOnce_97 : decode cX1_sendOnce 97 = .ok (.getfield 31, 3) := by decide +kernel
theorem dX1_sendOnce_100 : decode cX1_sendOnce 100 = .ok (.iload_n 3, 1) := by decide +kernel
theorem dX1_sendOnce_101 : decode cX1_sendOnce 101 = .ok (.dup2, 1) := by decide +kernel
theorem dX1_sendOnce_102 : decode cX1_sendOnce 102 = .ok (.iaload, 1) := by decide +kernel
theorem dX1_sendOnce_103 : decode cX1_sendOnce 103 = .ok (.iload_n 2, 1) := by decide +kernel
theorem dX1_sendOnce_104 : decode cX1_sendOnce 104 = .ok (.isub, 1) := by decide +kernel
theorem dX1_sendOnce_105 : decode cX1_sendOnce 105 = .ok (.iastore, 1) := by decide +kernel
theorem dX1_sendOnce_106 : decode cX1_sendOnce 106 = .ok (.aload_n 0, 1) := by decide +kernel
theorem dX1_sendOnce_107 : decode cX1_sendOnce 107 = .ok (.getfield 31, 3) := by decide +kernel
theorem dX1_sendOnce_110 : decode cX1_sendOnce 110 = .ok (.iload_n 1, 1) := by decide +kernel
theorem dX1_sendOnce_111 : decode cX1_sendOnce 111 = .ok (.dup2, 1) := by decide +kernel
theorem dX1_sendOnce_112 : decode cX1_sendOnce 112 = .ok (.iaload, 1) := by decide +kernel
theorem dX1_sendOnce_113 : decode cX1_sendOnce 113 = .ok (.iload_n 2, 1) := by decide +kernel
theorem dX1_sendOnce_114 : decode cX1_sendOnce 114 = .ok (.iadd, 1) := by decide +kernel
theorem dX1_sendOnce_115 : decode cX1_sendOnce 115 = .ok (.iastore, 1) := by decide +kernel
theorem dX1_sendOnce_116 : decode cX1_sendOnce 116 = .ok (.aload_n 0, 1) := by decide +kernel
theorem dX1_sendOnce_117 : decode cX1_sendOnce 117 = .ok (.iload_n 1, 1) := by decide +kernel
theorem dX1_sendOnce_118 : decode cX1_sendOnce 118 = .ok (.iload_n 2, 1) := by decide +kernel
theorem dX1_sendOnce_119 : decode cX1_sendOnce 119 = .ok (.invokevirtual 102, 3) := by decide +kernel
theorem dX1_sendOnce_122 : decode cX1_sendOnce 122 = .ok (.iconst 1, 1) := by decide +kernel
theorem dX1_sendOnce_123 : decode cX1_sendOnce 123 = .ok (.ireturn, 1) := by decide +kernel
theorem dX1_sendAlongPath_0 : decode cX1_sendAlongPath 0 = .ok (.iload_n 1, 1) := by decide +kernel
theorem dX1_sendAlongPath_1 : decode cX1_sendAlongPath 1 = .ok (.istore_n 3, 1) := by decide +kernel
theorem dX1_sendAlongPath_2 : decode cX1_sendAlongPath 2 = .ok (.iconst 0, 1) := by decide +kernel
theorem dX1_sendAlongPath_3 : decode cX1_sendAlongPath 3 = .ok (.istore 4, 2) := by decide +kernel
theorem dX1_sendAlongPath_5 : decode cX1_sendAlongPath 5 = .ok (.iload 4, 2) := by decide +kernel
theorem dX1_sendAlongPath_7 : decode cX1_sendAlongPath 7 = .ok (.bipush 8, 2) := by decide +kernel
theorem dX1_sendAlongPath_9 : decode cX1_sendAlongPath 9 = .ok (.if_icmp .ge 59, 3) := by decide +kernel
theorem dX1_sendAlongPath_12 : decode cX1_sendAlongPath 12 = .ok (.aload_n 0, 1) := by decide +kernel
theorem dX1_sendAlongPath_13 : decode cX1_sendAlongPath 13 = .ok (.getfield 37, 3) := by decide +kernel
theorem dX1_sendAlongPath_16 : decode cX1_sendAlongPath 16 = .ok (.iload_n 3, 1) := by decide +kernel
theorem dX1_sendAlongPath_17 : decode cX1_sendAlongPath 17 = .ok (.iaload, 1) := by decide +kernel
theorem dX1_sendAlongPath_18 : decode cX1_sendAlongPath 18 = .ok (.iconst (-1), 1) := by decide +kernel
theorem dX1_sendAlongPath_19 : decode cX1_sendAlongPath 19 = .ok (.if_icmp .eq 49, 3) := by decide +kernel
theorem dX1_sendAlongPath_22 : decode cX1_sendAlongPath 22 = .ok (.aload_n 0, 1) := by decide +kernel
theorem dX1_sendAlongPath_23 : decode cX1_sendAlongPath 23 = .ok (.getfield 37, 3) := by decide +kernel
theorem dX1_sendAlongPath_26 : decode cX1_sendAlongPath 26 = .ok (.iload_n 3, 1) := by decide +kernel
theorem dX1_sendAlongPath_27 : decode cX1_sendAlongPath 27 = .ok (.iaload, 1) := by decide +kernel
theorem dX1_sendAlongPath_28 : decode cX1_sendAlongPath 28 = .ok (.istore 5, 2) := by decide +kernel
theorem dX1_sendAlongPath_30 : decode cX1_sendAlongPath 30 = .ok (.aload_n 0, 1) := by decide +kernel
theorem dX1_sendAlongPath_31 : decode cX1_sendAlongPath 31 = .ok (.getfield 28, 3) := by decide +kernel
theorem dX1_sendAlongPath_34 : decode cX1_sendAlongPath 34 = .ok (.iload 5, 2) := by decide +kernel
theorem dX1_sendAlongPath_36 : decode cX1_sendAlongPath 36 = .ok (.dup2, 1) := by decide +kernel
theorem dX1_sendAlongPath_37 : decode cX1_sendAlongPath 37 = .ok (.iaload, 1) := by decide +kernel
theorem dX1_sendAlongPath_38 : decode cX1_sendAlongPath 38 = .ok (.iload_n 2, 1) := by decide +kernel
theorem dX1_sendAlongPath_39 : decode cX1_sendAlongPath 39 = .ok (.isub, 1) := by decide +kernel
theorem dX1_sendAlongPath_40 : decode cX1_sendAlongPath 40 = .ok (.iastore, 1) := by decide +kernel
theorem dX1_sendAlongPath_41 : decode cX1_sendAlongPath 41 = .ok (.aload_n 0, 1) := by decide +kernel
theorem dX1_sendAlongPath_42 : decode cX1_sendAlongPath 42 = .ok (.getfield 28, 3) := by decide +kernel
theorem dX1_sendAlongPath_45 : decode cX1_sendAlongPath 45 = .ok (.iload 5, 2) := by decide +kernel
theorem dX1_sendAlongPath_47 : decode cX1_sendAlongPath 47 = .ok (.iconst 1, 1) := by decide +kernel
theorem dX1_sendAlongPath_48 : decode cX1_sendAlongPath 48 = .ok (.ixor, 1) := by decide +kernel
theorem dX1_sendAlongPath_49 : decode cX1_sendAlongPath 49 = .ok (.dup2, 1) := by decide +kernel
theorem dX1_sendAlongPath_50 : decode cX1_sendAlongPath 50 = .ok (.iaload, 1) := by decide +kernel
theorem dX1_sendAlongPath_51 : decode cX1_sendAlongPath 51 = .ok (.iload_n 2, 1) := by decide +kernel
theorem dX1_sendAlongPath_52 : decode cX1_sendAlongPath 52 = .ok (.iadd, 1) := by decide +kernel
theorem dX1_sendAlongPath_53 : decode cX1_sendAlongPath 53 = .ok (.iastore, 1) := by decide +kernel
theorem dX1_sendAlongPath_54 : decode cX1_sendAlongPath 54 = .ok (.aload_n 0, 1) := by decide +kernel
theorem dX1_sendAlongPath_55 : decode cX1_sendAlongPath 55 = .ok (.getfield 18, 3) := by decide +kernel
theorem dX1_sendAlongPath_58 : decode cX1_sendAlongPath 58 = .ok (.iload 5, 2) := by decide +kernel
theorem dX1_sendAlongPath_60 : decode cX1_sendAlongPath 60 = .ok (.iaload, 1) := by decide +kernel
theorem dX1_sendAlongPath_61 : decode cX1_sendAlongPath 61 = .ok (.istore_n 3, 1) := by decide +kernel
theorem dX1_sendAlongPath_62 : decode cX1_sendAlongPath 62 = .ok (.iinc 4 1, 3) := by decide +kernel
theorem dX1_sendAlongPath_65 : decode cX1_sendAlongPath 65 = .ok (.goto (-60), 3) := by decide +kernel
theorem dX1_sendAlongPath_68 : decode cX1_sendAlongPath 68 = .ok (.return_, 1) := by decide +kernel
theorem dX1_nearestShortNode_0 : decode cX1_nearestShortNode 0 = .ok (.iconst (-1), 1) := by decide +kernel
theorem dX1_nearestShortNode_1 : decode cX1_nearestShortNode 1 = .ok (.istore_n 1, 1) := by decide +kernel
theorem dX1_nearestShortNode_2 : decode cX1_nearestShortNode 2 = .ok (.ldc 77, 2) := by decide +kernel
theorem dX1_nearestShortNode_4 : decode cX1_nearestShortNode 4 = .ok (.istore_n 2, 1) := by decide +kernel
theorem dX1_nearestShortNode_5 : decode cX1_nearestShortNode 5 = .ok (.iconst 0, 1) := by decide +kernel
theorem dX1_nearestShortNode_6 : decode cX1_nearestShortNode 6 = .ok (.istore_n 3, 1) := by decide +kernel
theorem dX1_nearestShortNode_7 : decode cX1_nearestShortNode 7 = .ok (.iload_n 3, 1) := by decide +kernel
theorem dX1_nearestShortNode_8 : decode cX1_nearestShortNode 8 = .ok (.bipush 8, 2) := by decide +kernel
theorem dX1_nearestShortNode_10 : decode cX1_nearestShortNode 10 = .ok (.if_icmp .ge 37, 3) := by decide +kernel
theorem dX1_nearestShortNode_13 : decode cX1_nearestShortNode 13 = .ok (.aload_n 0, 1) := by decide +kernel
theorem dX1_nearestShortNode_14 : decode cX1_nearestShortNode 14 = .ok (.getfield 31, 3) := by decide +kernel
theorem dX1_nearestShortNode_17 : decode cX1_nearestShortNode 17 = .ok (.iload_n 3, 1) := by decide +kernel
theorem dX1_nearestShortNode_18 : decode cX1_nearestShortNode 18 = .ok (.iaload, 1) := by decide +kernel
theorem dX1_nearestShortNode_19 : decode cX1_nearestShortNode 19 = .ok (.ifCond .ge 22, 3) := by decide +kernel
theorem dX1_nearestShortNode_22 : decode cX1_nearestShortNode 22 = .ok (.aload_n 0, 1) := by decide +kernel
theorem dX1_nearestShortNode_23 : decode cX1_nearestShortNode 23 = .ok (.getfield 34, 3) := by decide +kernel
theorem dX1_nearestShortNode_26 : decode cX1_nearestShortNode 26 = .ok (.iload_n 3, 1) := by decide +kernel
theorem dX1_nearestShortNode_27 : decode cX1_nearestShortNode 27 = .ok (.iaload, 1) := by decide +kernel
theorem dX1_nearestShortNode_28 : decode cX1_nearestShortNode 28 = .ok (.iload_n 2, 1) := by decide +kernel
theorem dX1_nearestShortNode_29 : decode cX1_nearestShortNode 29 = .ok (.if_icmp .ge 12, 3) := by decide +kernel
theorem dX1_nearestShortNode_32 : decode cX1_nearestShortNode 32 = .ok (.iload_n 3, 1) := by decide +kernel
theorem dX1_nearestShortNode_33 : decode cX1_nearestShortNode 33 = .ok (.istore_n 1, 1) := by decide +kernel
theorem dX1_nearestShortNode_34 : decode cX1_nearestShortNode 34 = .ok (.aload_n 0, 1) := by decide +kernel
theorem dX1_nearestShortNode_35 : decode cX1_nearestShortNode 35 = .ok (.getfield 34, 3) := by decide +kernel
theorem dX1_nearestShortNode_38 : decode cX1_nearestShortNode 38 = .ok (.iload_n 3, 1) := by decide +kernel
theorem dX1_nearestShortNode_39 : decode cX1_nearestShortNode 39 = .ok (.iaload, 1) := by decide +kernel
theorem dX1_nearestShortNode_40 : decode cX1_nearestShortNode 40 = .ok (.istore_n 2, 1) := by decide +kernel
theorem dX1_nearestShortNode_41 : decode cX1_nearestShortNode 41 = .ok (.iinc 3 1, 3) := by decide +kernel
theorem dX1_nearestShortNode_44 : decode cX1_nearestShortNode 44 = .ok (.goto (-37), 3) := by decide +kernel
theorem dX1_nearestShortNode_47 : decode cX1_nearestShortNode 47 = .ok (.iload_n 1, 1) := by decide +kernel
theorem dX1_nearestShortNode_48 : decode cX1_nearestShortNode 48 = .ok (.ireturn, 1) := by decide +kernel
set_option maxRecDepth 20000 in
theorem ggX1_startAtExcess_X1_setStart : GoodIn wsX1_startAtExcess wsX1_setStart := goodIn_r _ [6, 7, 8, 9, 10, 11, 12, 13, 14, 15, 16, 17] (by decide +kernel) (by decide +kernel)
set_option maxRecDepth 20000 in
theorem gX1_startAtExcess_X1_setStart : GoodIn wsX1_startAtExcess (wsV RX1 78 RX1 yX1_setStart wsX1_setStart) := goodIn_app (goodIn_of _ (by decide +kernel)) ggX1_startAtExcess_X1_setStart
theorem dX1_startAtExcess_0 : decode cX1_startAtExcess 0 = .ok (.iconst 0, 1) := by decide +kernel
theorem dX1_startAtExcess_1 : decode cX1_startAtExcess 1 = .ok (.istore_n 1, 1) := by decide +kernel
theorem dX1_startAtExcess_2 : decode cX1_startAtExcess 2 = .ok (.iload_n 1, 1) := by decide +kernel
theorem dX1_startAtExcess_3 : decode cX1_startAtExcess 3 = .ok (.bipush 8, 2) := by decide +kernel
theorem dX1_startAtExcess_5 : decode cX1_startAtExcess 5 = .ok (.if_icmp .ge 28, 3) := by decide +kernel
theorem dX1_startAtExcess_8 : decode cX1_startAtExcess 8 = .ok (.aload_n 0, 1) := by decide +kernel
theorem dX1_startAtExcess_9 : decode cX1_startAtExcess 9 = .ok (.iload_n 1, 1) := by decide +kernel
theorem dX1_startAtExcess_10 : decode cX1_startAtExcess 10 = .ok (.aload_n 0, 1) := by decide +kernel
theorem dX1_startAtExcess_11 : decode cX1_startAtExcess 11 = .ok (.getfield 31, 3) := by decide +kernel
theorem dX1_startAtExcess_14 : decode cX1_startAtExcess 14 = .ok (.iload_n 1, 1) := by decide +kernel
theorem dX1_startAtExcess_15 : decode cX1_startAtExcess 15 = .ok (.iaload, 1) := by decide +kernel
theorem dX1_startAtExcess_16 : decode cX1_startAtExcess 16 = .ok (.ifCond .le 7, 3) := by decide +kernel
theorem dX1_startAtExcess_19 : decode cX1_startAtExcess 19 = .ok (.iconst 1, 1) := by decide +kernel
theorem dX1_startAtExcess_20 : decode cX1_startAtExcess 20 = .ok (.goto 4, 3) := by decide +kernel
theorem dX1_startAtExcess_23 : decode cX1_startAtExcess 23 = .ok (.iconst 0, 1) := by decide +kernel
theorem dX1_startAtExcess_24 : decode cX1_startAtExcess 24 = .ok (.invokevirtual 78, 3) := by decide +kernel
theorem dX1_startAtExcess_27 : decode cX1_startAtExcess 27 = .ok (.iinc 1 1, 3) := by decide +kernel
theorem dX1_startAtExcess_30 : decode cX1_startAtExcess 30 = .ok (.goto (-28), 3) := by decide +kernel
theorem dX1_startAtExcess_33 : decode cX1_startAtExcess 33 = .ok (.return_, 1) := by decide +kernel
theorem dX1_setStart_0 : decode cX1_setStart 0 = .ok (.aload_n 0, 1) := by decide +kernel
theorem dX1_setStart_1 : decode cX1_setStart 1 = .ok (.getfield 34, 3) := by decide +kernel
theorem dX1_setStart_4 : decode cX1_setStart 4 = .ok (.iload_n 1, 1) := by decide +kernel
theorem dX1_setStart_5 : decode cX1_setStart 5 = .ok (.iload_n 2, 1) := by decide +kernel
theorem dX1_setStart_6 : decode cX1_setStart 6 = .ok (.ifCond .eq 7, 3) := by decide +kernel
theorem dX1_setStart_9 : decode cX1_setStart 9 = .ok (.iconst 0, 1) := by decide +kernel
theorem dX1_setStart_10 : decode cX1_setStart 10 = .ok (.goto 5, 3) := by decide +kernel
theorem dX1_setStart_13 : decode cX1_setStart 13 = .ok (.ldc 77, 2) := by decide +kernel
theorem dX1_setStart_15 : decode cX1_setStart 15 = .ok (.iastore, 1) := by decide +kernel
theorem dX1_setStart_16 : decode cX1_setStart 16 = .ok (.aload_n 0, 1) := by decide +kernel
theorem dX1_setStart_17 : decode cX1_setStart 17 = .ok (.getfield 37, 3) := by decide +kernel
theorem dX1_setStart_20 : decode cX1_setStart 20 = .ok (.iload_n 1, 1) := by decide +kernel
theorem dX1_setStart_21 : decode cX1_setStart 21 = .ok (.iconst (-1), 1) := by decide +kernel
theorem dX1_setStart_22 : decode cX1_setStart 22 = .ok (.iastore, 1) := by decide +kernel
theorem dX1_setStart_23 : decode cX1_setStart 23 = .ok (.return_, 1) := by decide +kernel
set_option maxRecDepth 20000 in
theorem ggX1_measure_X1_isShortcut : GoodIn wsX1_measure wsX1_isShortcut := goodIn_r _ [14, 4, 5, 8, 7, 15, 16, 17, 18, 19, 20, 21, 22] (by decide +kernel) (by decide +kernel)
set_option maxRecDepth 20000 in
theorem gX1_measure_X1_isShortcut : GoodIn wsX1_measure (wsV RX1 85 RX1 yX1_isShortcut wsX1_isShortcut) := goodIn_app (goodIn_of _ (by decide +kernel)) ggX1_measure_X1_isShortcut
