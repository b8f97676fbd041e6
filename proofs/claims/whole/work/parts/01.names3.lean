theorem dX3_add_39 : decode cX3_add 39 = .ok (.bipush 20, 2) := by decide +kernel
theorem dX3_add_41 : decode cX3_add 41 = .ok (.invokestatic 50, 3) := by decide +kernel
theorem dX3_add_44 : decode cX3_add 44 = .ok (.ifCond .ne 6, 3) := by decide +kernel
theorem dX3_add_47 : decode cX3_add 47 = .ok (.ldc 54, 2) := by decide +kernel
theorem dX3_add_49 : decode cX3_add 49 = .ok (.ireturn, 1) := by decide +kernel
theorem dX3_add_50 : decode cX3_add 50 = .ok (.aload_n 0, 1) := by decide +kernel
theorem dX3_add_51 : decode cX3_add 51 = .ok (.getfield 55, 3) := by decide +kernel
theorem dX3_add_54 : decode cX3_add 54 = .ok (.bipush 20, 2) := by decide +kernel
theorem dX3_add_56 : decode cX3_add 56 = .ok (.if_icmp .ne 6, 3) := by decide +kernel
theorem dX3_add_59 : decode cX3_add 59 = .ok (.ldc 59, 2) := by decide +kernel
theorem dX3_add_61 : decode cX3_add 61 = .ok (.ireturn, 1) := by decide +kernel
theorem dX3_add_62 : decode cX3_add 62 = .ok (.aload_n 0, 1) := by decide +kernel
theorem dX3_add_63 : decode cX3_add 63 = .ok (.getfield 7, 3) := by decide +kernel
theorem dX3_add_66 : decode cX3_add 66 = .ok (.aload_n 0, 1) := by decide +kernel
theorem dX3_add_67 : decode cX3_add 67 = .ok (.getfield 55, 3) := by decide +kernel
theorem dX3_add_70 : decode cX3_add 70 = .ok (.iload_n 1, 1) := by decide +kernel
theorem dX3_add_71 : decode cX3_add 71 = .ok (.iastore, 1) := by decide +kernel
theorem dX3_add_72 : decode cX3_add 72 = .ok (.aload_n 0, 1) := by decide +kernel
theorem dX3_add_73 : decode cX3_add 73 = .ok (.getfield 13, 3) := by decide +kernel
theorem dX3_add_76 : decode cX3_add 76 = .ok (.aload_n 0, 1) := by decide +kernel
theorem dX3_add_77 : decode cX3_add 77 = .ok (.getfield 55, 3) := by decide +kernel
theorem dX3_add_80 : decode cX3_add 80 = .ok (.iload_n 2, 1) := by decide +kernel
theorem dX3_add_81 : decode cX3_add 81 = .ok (.iastore, 1) := by decide +kernel
theorem dX3_add_82 : decode cX3_add 82 = .ok (.aload_n 0, 1) := by decide +kernel
theorem dX3_add_83 : decode cX3_add 83 = .ok (.getfield 16, 3) := by decide +kernel
theorem dX3_add_86 : decode cX3_add 86 = .ok (.aload_n 0, 1) := by decide +kernel
theorem dX3_add_87 : decode cX3_add 87 = .ok (.getfield 55, 3) := by decide +kernel
theorem dX3_add_90 : decode cX3_add 90 = .ok (.iload_n 3, 1) := by decide +kernel
theorem dX3_add_91 : decode cX3_add 91 = .ok (.ifCond .ge 8, 3) := by decide +kernel
theorem dX3_add_94 : decode cX3_add 94 = .ok (.ldc 60, 2) := by decide +kernel
theorem dX3_add_96 : decode cX3_add 96 = .ok (.goto 4, 3) := by decide +kernel
theorem dX3_add_99 : decode cX3_add 99 = .ok (.iload_n 3, 1) := by decide +kernel
theorem dX3_add_100 : decode cX3_add 100 = .ok (.iastore, 1) := by decide +kernel
theorem dX3_add_101 : decode cX3_add 101 = .ok (.aload_n 0, 1) := by decide +kernel
theorem dX3_add_102 : decode cX3_add 102 = .ok (.getfield 19, 3) := by decide +kernel
theorem dX3_add_105 : decode cX3_add 105 = .ok (.aload_n 0, 1) := by decide +kernel
theorem dX3_add_106 : decode cX3_add 106 = .ok (.getfield 55, 3) := by decide +kernel
theorem dX3_add_109 : decode cX3_add 109 = .ok (.iload 4, 2) := by decide +kernel
theorem dX3_add_111 : decode cX3_add 111 = .ok (.iastore, 1) := by decide +kernel
theorem dX3_add_112 : decode cX3_add 112 = .ok (.aload_n 0, 1) := by decide +kernel
theorem dX3_add_113 : decode cX3_add 113 = .ok (.dup, 1) := by decide +kernel
theorem dX3_add_114 : decode cX3_add 114 = .ok (.getfield 55, 3) := by decide +kernel
theorem dX3_add_117 : decode cX3_add 117 = .ok (.iconst 1, 1) := by decide +kernel
theorem dX3_add_118 : decode cX3_add 118 = .ok (.iadd, 1) := by decide +kernel
theorem dX3_add_119 : decode cX3_add 119 = .ok (.putfield 55, 3) := by decide +kernel
theorem dX3_add_122 : decode cX3_add 122 = .ok (.aload_n 0, 1) := by decide +kernel
theorem dX3_add_123 : decode cX3_add 123 = .ok (.getfield 55, 3) := by decide +kernel
theorem dX3_add_126 : decode cX3_add 126 = .ok (.iconst 1, 1) := by decide +kernel
theorem dX3_add_127 : decode cX3_add 127 = .ok (.isub, 1) := by decide +kernel
theorem dX3_add_128 : decode cX3_add 128 = .ok (.ireturn, 1) := by decide +kernel
set_option maxRecDepth 20000 in
theorem ggX3_change_X3_in : GoodIn wsX3_change wsX3_in := goodIn_r _ [8] (by decide +kernel) (by decide +kernel)
set_option maxRecDepth 20000 in
theorem gX3_change_X3_in : GoodIn wsX3_change (va_wsS RX3 50 yX3_in wsX3_in) := goodIn_app (goodIn_of _ (by decide +kernel)) ggX3_change_X3_in
theorem dX3_change_0 : decode cX3_change 0 = .ok (.iload_n 1, 1) := by decide +kernel
theorem dX3_change_1 : decode cX3_change 1 = .ok (.iconst 0, 1) := by decide +kernel
theorem dX3_change_2 : decode cX3_change 2 = .ok (.aload_n 0, 1) := by decide +kernel
theorem dX3_change_3 : decode cX3_change 3 = .ok (.getfield 55, 3) := by decide +kernel
theorem dX3_change_6 : decode cX3_change 6 = .ok (.iconst 1, 1) := by decide +kernel
theorem dX3_change_7 : decode cX3_change 7 = .ok (.isub, 1) := by decide +kernel
theorem dX3_change_8 : decode cX3_change 8 = .ok (.invokestatic 50, 3) := by decide +kernel
theorem dX3_change_11 : decode cX3_change 11 = .ok (.ifCond .eq 24, 3) := by decide +kernel
theorem dX3_change_14 : decode cX3_change 14 = .ok (.iload_n 2, 1) := by decide +kernel
theorem dX3_change_15 : decode cX3_change 15 = .ok (.iconst (-1), 1) := by decide +kernel
theorem dX3_change_16 : decode cX3_change 16 = .ok (.bipush 30, 2) := by decide +kernel
theorem dX3_change_18 : decode cX3_change 18 = .ok (.invokestatic 50, 3) := by decide +kernel
theorem dX3_change_21 : decode cX3_change 21 = .ok (.ifCond .eq 14, 3) := by decide +kernel
theorem dX3_change_24 : decode cX3_change 24 = .ok (.iload_n 3, 1) := by decide +kernel
theorem dX3_change_25 : decode cX3_change 25 = .ok (.bipush (-20), 2) := by decide +kernel
theorem dX3_change_27 : decode cX3_change 27 = .ok (.bipush 20, 2) := by decide +kernel
theorem dX3_change_29 : decode cX3_change 29 = .ok (.invokestatic 50, 3) := by decide +kernel
theorem dX3_change_32 : decode cX3_change 32 = .ok (.ifCond .ne 5, 3) := by decide +kernel
theorem dX3_change_35 : decode cX3_change 35 = .ok (.iconst 0, 1) := by decide +kernel
theorem dX3_change_36 : decode cX3_change 36 = .ok (.ireturn, 1) := by decide +kernel
theorem dX3_change_37 : decode cX3_change 37 = .ok (.aload_n 0, 1) := by decide +kernel
theorem dX3_change_38 : decode cX3_change 38 = .ok (.getfield 16, 3) := by decide +kernel
theorem dX3_change_41 : decode cX3_change 41 = .ok (.iload_n 1, 1) := by decide +kernel
theorem dX3_change_42 : decode cX3_change 42 = .ok (.iload_n 2, 1) := by decide +kernel
theorem dX3_change_43 : decode cX3_change 43 = .ok (.ifCond .ge 8, 3) := by decide +kernel
theorem dX3_change_46 : decode cX3_change 46 = .ok (.ldc 60, 2) := by decide +kernel
theorem dX3_change_48 : decode cX3_change 48 = .ok (.goto 4, 3) := by decide +kernel
theorem dX3_change_51 : decode cX3_change 51 = .ok (.iload_n 2, 1) := by decide +kernel
theorem dX3_change_52 : decode cX3_change 52 = .ok (.iastore, 1) := by decide +kernel
theorem dX3_change_53 : decode cX3_change 53 = .ok (.aload_n 0, 1) := by decide +kernel
theorem dX3_change_54 : decode cX3_change 54 = .ok (.getfield 19, 3) := by decide +kernel
theorem dX3_change_57 : decode cX3_change 57 = .ok (.iload_n 1, 1) := by decide +kernel
theorem dX3_change_58 : decode cX3_change 58 = .ok (.iload_n 3, 1) := by decide +kernel
theorem dX3_change_59 : decode cX3_change 59 = .ok (.iastore, 1) := by decide +kernel
theorem dX3_change_60 : decode cX3_change 60 = .ok (.iconst 1, 1) := by decide +kernel
theorem dX3_change_61 : decode cX3_change 61 = .ok (.ireturn, 1) := by decide +kernel
set_option maxRecDepth 20000 in
theorem ggX3_supply_X3_in : GoodIn wsX3_supply wsX3_in := goodIn_r _ [5] (by decide +kernel) (by decide +kernel)
set_option maxRecDepth 20000 in
theorem gX3_supply_X3_in : GoodIn wsX3_supply (va_wsS RX3 50 yX3_in wsX3_in) := goodIn_app (goodIn_of _ (by decide +kernel)) ggX3_supply_X3_in
theorem dX3_supply_0 : decode cX3_supply 0 = .ok (.iload_n 1, 1) := by decide +kernel
theorem dX3_supply_1 : decode cX3_supply 1 = .ok (.iconst 0, 1) := by decide +kernel
theorem dX3_supply_2 : decode cX3_supply 2 = .ok (.bipush 7, 2) := by decide +kernel
theorem dX3_supply_4 : decode cX3_supply 4 = .ok (.invokestatic 50, 3) := by decide +kernel
theorem dX3_supply_7 : decode cX3_supply 7 = .ok (.ifCond .eq 14, 3) := by decide +kernel
theorem dX3_supply_10 : decode cX3_supply 10 = .ok (.iload_n 2, 1) := by decide +kernel
theorem dX3_supply_11 : decode cX3_supply 11 = .ok (.bipush (-30), 2) := by decide +kernel
theorem dX3_supply_13 : decode cX3_supply 13 = .ok (.bipush 30, 2) := by decide +kernel
theorem dX3_supply_15 : decode cX3_supply 15 = .ok (.invokestatic 50, 3) := by decide +kernel
theorem dX3_supply_18 : decode cX3_supply 18 = .ok (.ifCond .ne 5, 3) := by decide +kernel
theorem dX3_supply_21 : decode cX3_supply 21 = .ok (.iconst 0, 1) := by decide +kernel
theorem dX3_supply_22 : decode cX3_supply 22 = .ok (.ireturn, 1) := by decide +kernel
theorem dX3_supply_23 : decode cX3_supply 23 = .ok (.aload_n 0, 1) := by decide +kernel
theorem dX3_supply_24 : decode cX3_supply 24 = .ok (.getfield 22, 3) := by decide +kernel
theorem dX3_supply_27 : decode cX3_supply 27 = .ok (.iload_n 1, 1) := by decide +kernel
theorem dX3_supply_28 : decode cX3_supply 28 = .ok (.iload_n 2, 1) := by decide +kernel
theorem dX3_supply_29 : decode cX3_supply 29 = .ok (.iastore, 1) := by decide +kernel
theorem dX3_supply_30 : decode cX3_supply 30 = .ok (.iconst 1, 1) := by decide +kernel
theorem dX3_supply_31 : decode cX3_supply 31 = .ok (.ireturn, 1) := by decide +kernel
theorem dX3_clear_0 : decode cX3_clear 0 = .ok (.aload_n 0, 1) := by decide +kernel
theorem dX3_clear_1 : decode cX3_clear 1 = .ok (.iconst 0, 1) := by decide +kernel
theorem dX3_clear_2 : decode cX3_clear 2 = .ok (.putfield 55, 3) := by decide +kernel
theorem dX3_clear_5 : decode cX3_clear 5 = .ok (.iconst 0, 1) := by decide +kernel
theorem dX3_clear_6 : decode cX3_clear 6 = .ok (.istore_n 1, 1) := by decide +kernel
theorem dX3_clear_7 : decode cX3_clear 7 = .ok (.iload_n 1, 1) := by decide +kernel
theorem dX3_clear_8 : decode cX3_clear 8 = .ok (.bipush 8, 2) := by decide +kernel
theorem dX3_clear_10 : decode cX3_clear 10 = .ok (.if_icmp .ge 16, 3) := by decide +kernel
theorem dX3_clear_13 : decode cX3_clear 13 = .ok (.aload_n 0, 1) := by decide +kernel
theorem dX3_clear_14 : decode cX3_clear 14 = .ok (.getfield 22, 3) := by decide +kernel
theorem dX3_clear_17 : decode cX3_clear 17 = .ok (.iload_n 1, 1) := by decide +kernel
theorem dX3_clear_18 : decode cX3_clear 18 = .ok (.iconst 0, 1) := by decide +kernel
theorem dX3_clear_19 : decode cX3_clear 19 = .ok (.iastore, 1) := by decide +kernel
theorem dX3_clear_20 : decode cX3_clear 20 = .ok (.iinc 1 1, 3) := by decide +kernel
theorem dX3_clear_23 : decode cX3_clear 23 = .ok (.goto (-16), 3) := by decide +kernel
theorem dX3_clear_26 : decode cX3_clear 26 = .ok (.return_, 1) := by decide +kernel
theorem dX3_arcs_0 : decode cX3_arcs 0 = .ok (.aload_n 0, 1) := by decide +kernel
theorem dX3_arcs_1 : decode cX3_arcs 1 = .ok (.getfield 55, 3) := by decide +kernel
theorem dX3_arcs_4 : decode cX3_arcs 4 = .ok (.ireturn, 1) := by decide +kernel
theorem dX3_lead_0 : decode cX3_lead 0 = .ok (.aload_n 0, 1) := by decide +kernel
theorem dX3_lead_1 : decode cX3_lead 1 = .ok (.getfield 7, 3) := by decide +kernel
theorem dX3_lead_4 : decode cX3_lead 4 = .ok (.aload_n 0, 1) := by decide +kernel
theorem dX3_lead_5 : decode cX3_lead 5 = .ok (.getfield 61, 3) := by decide +kernel
theorem dX3_lead_8 : decode cX3_lead 8 = .ok (.iload_n 1, 1) := by decide +kernel
theorem dX3_lead_9 : decode cX3_lead 9 = .ok (.iastore, 1) := by decide +kernel
theorem dX3_lead_10 : decode cX3_lead 10 = .ok (.aload_n 0, 1) := by decide +kernel
theorem dX3_lead_11 : decode cX3_lead 11 = .ok (.getfield 13, 3) := by decide +kernel
theorem dX3_lead_14 : decode cX3_lead 14 = .ok (.aload_n 0, 1) := by decide +kernel
theorem dX3_lead_15 : decode cX3_lead 15 = .ok (.getfield 61, 3) := by decide +kernel
theorem dX3_lead_18 : decode cX3_lead 18 = .ok (.iload_n 2, 1) := by decide +kernel
theorem dX3_lead_19 : decode cX3_lead 19 = .ok (.iastore, 1) := by decide +kernel
theorem dX3_lead_20 : decode cX3_lead 20 = .ok (.aload_n 0, 1) := by decide +kernel
theorem dX3_lead_21 : decode cX3_lead 21 = .ok (.getfield 16, 3) := by decide +kernel
theorem dX3_lead_24 : decode cX3_lead 24 = .ok (.aload_n 0, 1) := by decide +kernel
theorem dX3_lead_25 : decode cX3_lead 25 = .ok (.getfield 61, 3) := by decide +kernel
theorem dX3_lead_28 : decode cX3_lead 28 = .ok (.iload_n 3, 1) := by decide +kernel
theorem dX3_lead_29 : decode cX3_lead 29 = .ok (.iastore, 1) := by decide +kernel
theorem dX3_lead_30 : decode cX3_lead 30 = .ok (.aload_n 0, 1) := by decide +kernel
theorem dX3_lead_31 : decode cX3_lead 31 = .ok (.getfield 19, 3) := by decide +kernel
theorem dX3_lead_34 : decode cX3_lead 34 = .ok (.aload_n 0, 1) := by decide +kernel
theorem dX3_lead_35 : decode cX3_lead 35 = .ok (.getfield 61, 3) := by decide +kernel
theorem dX3_lead_38 : decode cX3_lead 38 = .ok (.iconst 0, 1) := by decide +kernel
theorem dX3_lead_39 : decode cX3_lead 39 = .ok (.iastore, 1) := by decide +kernel
theorem dX3_lead_40 : decode cX3_lead 40 = .ok (.aload_n 0, 1) := by decide +kernel
theorem dX3_lead_41 : decode cX3_lead 41 = .ok (.dup, 1) := by decide +kernel
theorem dX3_lead_42 : decode cX3_lead 42 = .ok (.getfield 61, 3) := by decide +kernel
theorem dX3_lead_45 : decode cX3_lead 45 = .ok (.iconst 1, 1) := by decide +kernel
theorem dX3_lead_46 : decode cX3_lead 46 = .ok (.iadd, 1) := by decide +kernel
theorem dX3_lead_47 : decode cX3_lead 47 = .ok (.putfield 61, 3) := by decide +kernel
theorem dX3_lead_50 : decode cX3_lead 50 = .ok (.return_, 1) := by decide +kernel
theorem dX3_leftFrom_0 : decode cX3_leftFrom 0 = .ok (.aload_n 0, 1) := by decide +kernel
theorem dX3_leftFrom_1 : decode cX3_leftFrom 1 = .ok (.getfield 41, 3) := by decide +kernel
theorem dX3_leftFrom_4 : decode cX3_leftFrom 4 = .ok (.iload_n 2, 1) := by decide +kernel
theorem dX3_leftFrom_5 : decode cX3_leftFrom 5 = .ok (.baload, 1) := by decide +kernel
theorem dX3_leftFrom_6 : decode cX3_leftFrom 6 = .ok (.ifCond .ne 7, 3) := by decide +kernel
theorem dX3_leftFrom_9 : decode cX3_leftFrom 9 = .ok (.iconst 0, 1) := by decide +kernel
theorem dX3_leftFrom_10 : decode cX3_leftFrom 10 = .ok (.goto 43, 3) := by decide +kernel
theorem dX3_leftFrom_13 : decode cX3_leftFrom 13 = .ok (.aload_n 0, 1) := by decide +kernel
theorem dX3_leftFrom_14 : decode cX3_leftFrom 14 = .ok (.getfield 7, 3) := by decide +kernel
theorem dX3_leftFrom_17 : decode cX3_leftFrom 17 = .ok (.iload_n 2, 1) := by decide +kernel
theorem dX3_leftFrom_18 : decode cX3_leftFrom 18 = .ok (.iaload, 1) := by decide +kernel
theorem dX3_leftFrom_19 : decode cX3_leftFrom 19 = .ok (.iload_n 3, 1) := by decide +kernel
theorem dX3_leftFrom_20 : decode cX3_leftFrom 20 = .ok (.if_icmp .ne 16, 3) := by decide +kernel
theorem dX3_leftFrom_23 : decode cX3_leftFrom 23 = .ok (.aload_n 0, 1) := by decide +kernel
theorem dX3_leftFrom_24 : decode cX3_leftFrom 24 = .ok (.getfield 16, 3) := by decide +kernel
theorem dX3_leftFrom_27 : decode cX3_leftFrom 27 = .ok (.iload_n 2, 1) := by decide +kernel
theorem dX3_leftFrom_28 : decode cX3_leftFrom 28 = .ok (.iaload, 1) := by decide +kernel
theorem dX3_leftFrom_29 : decode cX3_leftFrom 29 = .ok (.aload_n 1, 1) := by decide +kernel
theorem dX3_leftFrom_30 : decode cX3_leftFrom 30 = .ok (.iload_n 2, 1) := by decide +kernel
theorem dX3_leftFrom_31 : decode cX3_leftFrom 31 = .ok (.iaload, 1) := by decide +kernel
theorem dX3_leftFrom_32 : decode cX3_leftFrom 32 = .ok (.isub, 1) := by decide +kernel
theorem dX3_leftFrom_33 : decode cX3_leftFrom 33 = .ok (.goto 20, 3) := by decide +kernel
theorem dX3_leftFrom_36 : decode cX3_leftFrom 36 = .ok (.aload_n 0, 1) := by decide +kernel
theorem dX3_leftFrom_37 : decode cX3_leftFrom 37 = .ok (.getfield 13, 3) := by decide +kernel
theorem dX3_leftFrom_40 : decode cX3_leftFrom 40 = .ok (.iload_n 2, 1) := by decide +kernel
theorem dX3_leftFrom_41 : decode cX3_leftFrom 41 = .ok (.iaload, 1) := by decide +kernel
theorem dX3_leftFrom_42 : decode cX3_leftFrom 42 = .ok (.iload_n 3, 1) := by decide +kernel
theorem dX3_leftFrom_43 : decode cX3_leftFrom 43 = .ok (.if_icmp .ne 9, 3) := by decide +kernel
theorem dX3_leftFrom_46 : decode cX3_leftFrom 46 = .ok (.aload_n 1, 1) := by decide +kernel
theorem dX3_leftFrom_47 : decode cX3_leftFrom 47 = .ok (.iload_n 2, 1) := by decide +kernel
theorem dX3_leftFrom_48 : decode cX3_leftFrom 48 = .ok (.iaload, 1) := by decide +kernel
theorem dX3_leftFrom_49 : decode cX3_leftFrom 49 = .ok (.goto 4, 3) := by decide +kernel
theorem dX3_leftFrom_52 : decode cX3_leftFrom 52 = .ok (.iconst 0, 1) := by decide +kernel
theorem dX3_leftFrom_53 : decode cX3_leftFrom 53 = .ok (.ireturn, 1) := by decide +kernel
set_option maxRecDepth 20000 in
theorem ggX3_isReached_X3_leftFrom : GoodIn wsX3_isReached wsX3_leftFrom := goodIn_r _ [11, 12, 4, 13, 5, 14, 15, 16, 17, 18, 19, 20, 21, 22, 23, 24, 25, 26, 27, 28, 29] (by decide +kernel) (by decide +kernel)
set_option maxRecDepth 20000 in
theorem gX3_isReached_X3_leftFrom : GoodIn wsX3_isReached (wsV RX3 64 RX3 yX3_leftFrom wsX3_leftFrom) := goodIn_app (goodIn_of _ (by decide +kernel)) ggX3_isReached_X3_leftFrom
theorem dX3_isReached_0 : decode cX3_isReached 0 = .ok (.iconst 0, 1) := by decide +kernel
theorem dX3_isReached_1 : decode cX3_isReached 1 = .ok (.istore 4, 2) := by decide +kernel
theorem dX3_isReached_3 : decode cX3_isReached 3 = .ok (.iload 4, 2) := by decide +kernel
theorem dX3_isReached_5 : decode cX3_isReached 5 = .ok (.bipush 10, 2) := by decide +kernel
theorem dX3_isReached_7 : decode cX3_isReached 7 = .ok (.if_icmp .ge 27, 3) := by decide +kernel
theorem dX3_isReached_10 : decode cX3_isReached 10 = .ok (.aload_n 0, 1) := by decide +kernel
theorem dX3_isReached_11 : decode cX3_isReached 11 = .ok (.getfield 31, 3) := by decide +kernel
theorem dX3_isReached_14 : decode cX3_isReached 14 = .ok (.iload 4, 2) := by decide +kernel
theorem dX3_isReached_16 : decode cX3_isReached 16 = .ok (.iload 4, 2) := by decide +kernel
theorem dX3_isReached_18 : decode cX3_isReached 18 = .ok (.iload_n 2, 1) := by decide +kernel
theorem dX3_isReached_19 : decode cX3_isReached 19 = .ok (.if_icmp .ne 7, 3) := by decide +kernel
theorem dX3_isReached_22 : decode cX3_isReached 22 = .ok (.iconst 1, 1) := by decide +kernel
theorem dX3_isReached_23 : decode cX3_isReached 23 = .ok (.goto 4, 3) := by decide +kernel
theorem dX3_isReached_26 : decode cX3_isReached 26 = .ok (.iconst 0, 1) := by decide +kernel
theorem dX3_isReached_27 : decode cX3_isReached 27 = .ok (.bastore, 1) := by decide +kernel
theorem dX3_isReached_28 : decode cX3_isReached 28 = .ok (.iinc 4 1, 3) := by decide +kernel
theorem dX3_isReached_31 : decode cX3_isReached 31 = .ok (.goto (-28), 3) := by decide +kernel
theorem dX3_isReached_34 : decode cX3_isReached 34 = .ok (.aload_n 0, 1) := by decide +kernel
theorem dX3_isReached_35 : decode cX3_isReached 35 = .ok (.getfield 47, 3) := by decide +kernel
theorem dX3_isReached_38 : decode cX3_isReached 38 = .ok (.iconst 0, 1) := by decide +kernel
theorem dX3_isReached_39 : decode cX3_isReached 39 = .ok (.iload_n 2, 1) := by decide +kernel
theorem dX3_isReached_40 : decode cX3_isReached 40 = .ok (.iastore, 1) := by decide +kernel
theorem dX3_isReached_41 : decode cX3_isReached 41 = .ok (.iconst 1, 1) := by decide +kernel
theorem dX3_isReached_42 : decode cX3_isReached 42 = .ok (.istore 4, 2) := by decide +kernel
theorem dX3_isReached_44 : decode cX3_isReached 44 = .ok (.iconst 0, 1) := by decide +kernel
theorem dX3_isReached_45 : decode cX3_isReached 45 = .ok (.istore 5, 2) := by decide +kernel
theorem dX3_isReached_47 : decode cX3_isReached 47 = .ok (.iload 5, 2) := by decide +kernel
theorem dX3_isReached_49 : decode cX3_isReached 49 = .ok (.iload 4, 2) := by decide +kernel
theorem dX3_isReached_51 : decode cX3_isReached 51 = .ok (.if_icmp .ge 137, 3) := by decide +kernel
theorem dX3_isReached_54 : decode cX3_isReached 54 = .ok (.aload_n 0, 1) := by decide +kernel
theorem dX3_isReached_55 : decode cX3_isReached 55 = .ok (.getfield 47, 3) := by decide +kernel
theorem dX3_isReached_58 : decode cX3_isReached 58 = .ok (.iload 5, 2) := by decide +kernel
theorem dX3_isReached_60 : decode cX3_isReached 60 = .ok (.iaload, 1) := by decide +kernel
theorem dX3_isReached_61 : decode cX3_isReached 61 = .ok (.istore 6, 2) := by decide +kernel
theorem dX3_isReached_63 : decode cX3_isReached 63 = .ok (.iconst 0, 1) := by decide +kernel
theorem dX3_isReached_64 : decode cX3_isReached 64 = .ok (.istore 7, 2) := by decide +kernel
theorem dX3_isReached_66 : decode cX3_isReached 66 = .ok (.iload 7, 2) := by decide +kernel
theorem dX3_isReached_68 : decode cX3_isReached 68 = .ok (.aload_n 0, 1) := by decide +kernel
theorem dX3_isReached_69 : decode cX3_isReached 69 = .ok (.getfield 61, 3) := by decide +kernel
theorem dX3_isReached_72 : decode cX3_isReached 72 = .ok (.if_icmp .ge 110, 3) := by decide +kernel
theorem dX3_isReached_75 : decode cX3_isReached 75 = .ok (.aload_n 0, 1) := by decide +kernel
theorem dX3_isReached_76 : decode cX3_isReached 76 = .ok (.getfield 7, 3) := by decide +kernel
theorem dX3_isReached_79 : decode cX3_isReached 79 = .ok (.iload 7, 2) := by decide +kernel
theorem dX3_isReached_81 : decode cX3_isReached 81 = .ok (.iaload, 1) := by decide +kernel
theorem dX3_isReached_82 : decode cX3_isReached 82 = .ok (.iload 6, 2) := by decide +kernel
theorem dX3_isReached_84 : decode cX3_isReached 84 = .ok (.if_icmp .ne 13, 3) := by decide +kernel
theorem dX3_isReached_87 : decode cX3_isReached 87 = .ok (.aload_n 0, 1) := by decide +kernel
theorem dX3_isReached_88 : decode cX3_isReached 88 = .ok (.getfield 13, 3) := by decide +kernel
theorem dX3_isReached_91 : decode cX3_isReached 91 = .ok (.iload 7, 2) := by decide +kernel
theorem dX3_isReached_93 : decode cX3_isReached 93 = .ok (.iaload, 1) := by decide +kernel
theorem dX3_isReached_94 : decode cX3_isReached 94 = .ok (.goto 10, 3) := by decide +kernel
theorem dX3_isReached_97 : decode cX3_isReached 97 = .ok (.aload_n 0, 1) := by decide +kernel
theorem dX3_isReached_98 : decode cX3_isReached 98 = .ok (.getfield 7, 3) := by decide +kernel
theorem dX3_isReached_101 : decode cX3_isReached 101 = .ok (.iload 7, 2) := by decide +kernel
theorem dX3_isReached_103 : decode cX3_isReached 103 = .ok (.iaload, 1) := by decide +kernel
theorem dX3_isReached_104 : decode cX3_isReached 104 = .ok (.istore 8, 2) := by decide +kernel
theorem dX3_isReached_106 : decode cX3_isReached 106 = .ok (.aload_n 0, 1) := by decide +kernel
theorem dX3_isReached_107 : decode cX3_isReached 107 = .ok (.aload_n 1, 1) := by decide +kernel
theorem dX3_isReached_108 : decode cX3_isReached 108 = .ok (.iload 7, 2) := by decide +kernel
theorem dX3_isReached_110 : decode cX3_isReached 110 = .ok (.iload 6, 2) := by decide +kernel
theorem dX3_isReached_112 : decode cX3_isReached 112 = .ok (.invokevirtual 64, 3) := by decide +kernel
theorem dX3_isReached_115 : decode cX3_isReached 115 = .ok (.ifCond .le 61, 3) := by decide +kernel
theorem dX3_isReached_118 : decode cX3_isReached 118 = .ok (.aload_n 0, 1) := by decide +kernel
theorem dX3_isReached_119 : decode cX3_isReached 119 = .ok (.getfield 31, 3) := by decide +kernel
theorem dX3_isReached_122 : decode cX3_isReached 122 = .ok (.iload 8, 2) := by decide +kernel
theorem dX3_isReached_124 : decode cX3_isReached 124 = .ok (.baload, 1) := by decide +kernel
theorem dX3_isReached_125 : decode cX3_isReached 125 = .ok (.ifCond .ne 51, 3) := by decide +kernel
theorem dX3_isReached_128 : decode cX3_isReached 128 = .ok (.aload_n 0, 1) := by decide +kernel
theorem dX3_isReached_129 : decode cX3_isReached 129 = .ok (.getfield 31, 3) := by decide +kernel
theorem dX3_isReached_132 : decode cX3_isReached 132 = .ok (.iload 8, 2) := by decide +kernel
theorem dX3_isReached_134 : decode cX3_isReached 134 = .ok (.iconst 1, 1) := by decide +kernel
theorem dX3_isReached_135 : decode cX3_isReached 135 = .ok (.bastore, 1) := by decide +kernel
theorem dX3_isReached_136 : decode cX3_isReached 136 = .ok (.aload_n 0, 1) := by decide +kernel
theorem dX3_isReached_137 : decode cX3_isReached 137 = .ok (.getfield 44, 3) := by decide +kernel
theorem dX3_isReached_140 : decode cX3_isReached 140 = .ok (.iload 8, 2) := by decide +kernel
theorem dX3_isReached_142 : decode cX3_isReached 142 = .ok (.aload_n 0, 1) := by decide +kernel
theorem dX3_isReached_143 : decode cX3_isReached 143 = .ok (.getfield 7, 3) := by decide +kernel
theorem dX3_isReached_146 : decode cX3_isReached 146 = .ok (.iload 7, 2) := by decide +kernel
theorem dX3_isReached_148 : decode cX3_isReached 148 = .ok (.iaload, 1) := by decide +kernel
theorem dX3_isReached_149 : decode cX3_isReached 149 = .ok (.iload 6, 2) := by decide +kernel
theorem dX3_isReached_151 : decode cX3_isReached 151 = .ok (.if_icmp .ne 8, 3) := by decide +kernel
theorem dX3_isReached_154 : decode cX3_isReached 154 = .ok (.iload 7, 2) := by decide +kernel
theorem dX3_isReached_156 : decode cX3_isReached 156 = .ok (.goto 7, 3) := by decide +kernel
theorem dX3_isReached_159 : decode cX3_isReached 159 = .ok (.iconst (-1), 1) := by decide +kernel
theorem dX3_isReached_160 : decode cX3_isReached 160 = .ok (.iload 7, 2) := by decide +kernel
theorem dX3_isReached_162 : decode cX3_isReached 162 = .ok (.isub, 1) := by decide +kernel
theorem dX3_isReached_163 : decode cX3_isReached 163 = .ok (.iastore, 1) := by decide +kernel
theorem dX3_isReached_164 : decode cX3_isReached 164 = .ok (.aload_n 0, 1) := by decide +kernel
theorem dX3_isReached_165 : decode cX3_isReached 165 = .ok (.getfield 47, 3) := by decide +kernel
theorem dX3_isReached_168 : decode cX3_isReached 168 = .ok (.iload 4, 2) := by decide +kernel
theorem dX3_isReached_170 : decode cX3_isReached 170 = .ok (.iload 8, 2) := by decide +kernel
theorem dX3_isReached_172 : decode cX3_isReached 172 = .ok (.iastore, 1) := by decide +kernel
theorem dX3_isReached_173 : decode cX3_isReached 173 = .ok (.iinc 4 1, 3) := by decide +kernel
theorem dX3_isReached_176 : decode cX3_isReached 176 = .ok (.iinc 7 1, 3) := by decide +kernel
theorem dX3_isReached_179 : decode cX3_isReached 179 = .ok (.goto (-113), 3) := by decide +kernel
theorem dX3_isReached_182 : decode cX3_isReached 182 = .ok (.iinc 5 1, 3) := by decide +kernel
theorem dX3_isReached_185 : decode cX3_isReached 185 = .ok (.goto (-138), 3) := by decide +kernel
theorem dX3_isReached_188 : decode cX3_isReached 188 = .ok (.aload_n 0, 1) := by decide +kernel
theorem dX3_isReached_189 : decode cX3_isReached 189 = .ok (.getfield 31, 3) := by decide +kernel
theorem dX3_isReached_192 : decode cX3_isReached 192 = .ok (.iload_n 3, 1) := by decide +kernel
theorem dX3_isReached_193 : decode cX3_isReached 193 = .ok (.baload, 1) := by decide +kernel
theorem dX3_isReached_194 : decode cX3_isReached 194 = .ok (.ireturn, 1) := by decide +kernel
set_option maxRecDepth 20000 in
theorem ggX3_pushAll_X3_isReached : GoodIn wsX3_pushAll wsX3_isReached := goodIn_r _ [9, 10, 11, 12, 3, 4, 1, 13, 14, 15, 8, 16, 17, 2, 18, 19, 20, 21, 22, 23, 24, 25, 26, 27, 28, 29, 30, 31, 32, 33] (by decide +kernel) (by decide +kernel)
set_option maxRecDepth 20000 in
theorem gX3_pushAll_X3_isReached : GoodIn wsX3_pushAll (wsV RX3 68 RX3 yX3_isReached wsX3_isReached) := goodIn_app (goodIn_of _ (by decide +kernel)) ggX3_pushAll_X3_isReached
theorem dX3_pushAll_0 : decode cX3_pushAll 0 = .ok (.iconst 0, 1) := by decide +kernel
theorem dX3_pushAll_1 : decode cX3_pushAll 1 = .ok (.istore 5, 2) := by decide +kernel
theorem dX3_pushAll_3 : decode cX3_pushAll 3 = .ok (.iload 5, 2) := by decide +kernel
theorem dX3_pushAll_5 : decode cX3_pushAll 5 = .ok (.iload 4, 2) := by decide +kernel
theorem dX3_pushAll_7 : decode cX3_pushAll 7 = .ok (.if_icmp .ge 243, 3) := by decide +kernel
theorem dX3_pushAll_10 : decode cX3_pushAll 10 = .ok (.aload_n 0, 1) := by decide +kernel
theorem dX3_pushAll_11 : decode cX3_pushAll 11 = .ok (.aload_n 1, 1) := by decide +kernel
theorem dX3_pushAll_12 : decode cX3_pushAll 12 = .ok (.iload_n 2, 1) := by decide +kernel
theorem dX3_pushAll_13 : decode cX3_pushAll 13 = .ok (.iload_n 3, 1) := by decide +kernel
theorem dX3_pushAll_14 : decode cX3_pushAll 14 = .ok (.invokevirtual 68, 3) := by decide +kernel
theorem dX3_pushAll_17 : decode cX3_pushAll 17 = .ok (.ifCond .eq 233, 3) := by decide +kernel
theorem dX3_pushAll_20 : decode cX3_pushAll 20 = .ok (.iload 4, 2) := by decide +kernel
theorem dX3_pushAll_22 : decode cX3_pushAll 22 = .ok (.iload 5, 2) := by decide +kernel
theorem dX3_pushAll_24 : decode cX3_pushAll 24 = .ok (.isub, 1) := by decide +kernel
theorem dX3_pushAll_25 : decode cX3_pushAll 25 = .ok (.istore 6, 2) := by decide +kernel
theorem dX3_pushAll_27 : decode cX3_pushAll 27 = .ok (.iload_n 3, 1) := by decide +kernel
theorem dX3_pushAll_28 : decode cX3_pushAll 28 = .ok (.istore 7, 2) := by decide +kernel
theorem dX3_pushAll_30 : decode cX3_pushAll 30 = .ok (.iload 7, 2) := by decide +kernel
theorem dX3_pushAll_32 : decode cX3_pushAll 32 = .ok (.iload_n 2, 1) := by decide +kernel
theorem dX3_pushAll_33 : decode cX3_pushAll 33 = .ok (.if_icmp .eq 111, 3) := by decide +kernel
theorem dX3_pushAll_36 : decode cX3_pushAll 36 = .ok (.aload_n 0, 1) := by decide +kernel
theorem dX3_pushAll_37 : decode cX3_pushAll 37 = .ok (.getfield 44, 3) := by decide +kernel
theorem dX3_pushAll_40 : decode cX3_pushAll 40 = .ok (.iload 7, 2) := by decide +kernel
theorem dX3_pushAll_42 : decode cX3_pushAll 42 = .ok (.iaload, 1) := by decide +kernel
theorem dX3_pushAll_43 : decode cX3_pushAll 43 = .ok (.ifCond .lt 28, 3) := by decide +kernel
theorem dX3_pushAll_46 : decode cX3_pushAll 46 = .ok (.aload_n 0, 1) := by decide +kernel
theorem dX3_pushAll_47 : decode cX3_pushAll 47 = .ok (.getfield 16, 3) := by decide +kernel
theorem dX3_pushAll_50 : decode cX3_pushAll 50 = .ok (.aload_n 0, 1) := by decide +kernel
theorem dX3_pushAll_51 : decode cX3_pushAll 51 = .ok (.getfield 44, 3) := by decide +kernel
theorem dX3_pushAll_54 : decode cX3_pushAll 54 = .ok (.iload 7, 2) := by decide +kernel
theorem dX3_pushAll_56 : decode cX3_pushAll 56 = .ok (.iaload, 1) := by decide +kernel
theorem dX3_pushAll_57 : decode cX3_pushAll 57 = .ok (.iaload, 1) := by decide +kernel
theorem dX3_pushAll_58 : decode cX3_pushAll 58 = .ok (.aload_n 1, 1) := by decide +kernel
theorem dX3_pushAll_59 : decode cX3_pushAll 59 = .ok (.aload_n 0, 1) := by decide +kernel
theorem dX3_pushAll_60 : decode cX3_pushAll 60 = .ok (.getfield 44, 3) := by decide +kernel
theorem dX3_pushAll_63 : decode cX3_pushAll 63 = .ok (.iload 7, 2) := by decide +kernel
theorem dX3_pushAll_65 : decode cX3_pushAll 65 = .ok (.iaload, 1) := by decide +kernel
theorem dX3_pushAll_66 : decode cX3_pushAll 66 = .ok (.iaload, 1) := by decide +kernel
theorem dX3_pushAll_67 : decode cX3_pushAll 67 = .ok (.isub, 1) := by decide +kernel
theorem dX3_pushAll_68 : decode cX3_pushAll 68 = .ok (.goto 14, 3) := by decide +kernel
theorem dX3_pushAll_71 : decode cX3_pushAll 71 = .ok (.aload_n 1, 1) := by decide +kernel
theorem dX3_pushAll_72 : decode cX3_pushAll 72 = .ok (.iconst (-1), 1) := by decide +kernel
theorem dX3_pushAll_73 : decode cX3_pushAll 73 = .ok (.aload_n 0, 1) := by decide +kernel
theorem dX3_pushAll_74 : decode cX3_pushAll 74 = .ok (.getfield 44, 3) := by decide +kernel
theorem dX3_pushAll_77 : decode cX3_pushAll 77 = .ok (.iload 7, 2) := by decide +kernel
theorem dX3_pushAll_79 : decode cX3_pushAll 79 = .ok (.iaload, 1) := by decide +kernel
theorem dX3_pushAll_80 : decode cX3_pushAll 80 = .ok (.isub, 1) := by decide +kernel
theorem dX3_pushAll_81 : decode cX3_pushAll 81 = .ok (.iaload, 1) := by decide +kernel
theorem dX3_pushAll_82 : decode cX3_pushAll 82 = .ok (.istore 8, 2) := by decide +kernel
theorem dX3_pushAll_84 : decode cX3_pushAll 84 = .ok (.iload 8, 2) := by decide +kernel
theorem dX3_pushAll_86 : decode cX3_pushAll 86 = .ok (.iload 6, 2) := by decide +kernel
theorem dX3_pushAll_88 : decode cX3_pushAll 88 = .ok (.if_icmp .ge 8, 3) := by decide +kernel
theorem dX3_pushAll_91 : decode cX3_pushAll 91 = .ok (.iload 8, 2) := by decide +kernel
theorem dX3_pushAll_93 : decode cX3_pushAll 93 = .ok (.goto 5, 3) := by decide +kernel
theorem dX3_pushAll_96 : decode cX3_pushAll 96 = .ok (.iload 6, 2) := by decide +kernel
theorem dX3_pushAll_98 : decode cX3_pushAll 98 = .ok (.istore 6, 2) := by decide +kernel
theorem dX3_pushAll_100 : decode cX3_pushAll 100 = .ok (.aload_n 0, 1) := by decide +kernel
theorem dX3_pushAll_101 : decode cX3_pushAll 101 = .ok (.getfield 44, 3) := by decide +kernel
theorem dX3_pushAll_104 : decode cX3_pushAll 104 = .ok (.iload 7, 2) := by decide +kernel
theorem dX3_pushAll_106 : decode cX3_pushAll 106 = .ok (.iaload, 1) := by decide +kernel
theorem dX3_pushAll_107 : decode cX3_pushAll 107 = .ok (.ifCond .lt 18, 3) := by decide +kernel
theorem dX3_pushAll_110 : decode cX3_pushAll 110 = .ok (.aload_n 0, 1) := by decide +kernel
theorem dX3_pushAll_111 : decode cX3_pushAll 111 = .ok (.getfield 7, 3) := by decide +kernel
theorem dX3_pushAll_114 : decode cX3_pushAll 114 = .ok (.aload_n 0, 1) := by decide +kernel
theorem dX3_pushAll_115 : decode cX3_pushAll 115 = .ok (.getfield 44, 3) := by decide +kernel
theorem dX3_pushAll_118 : decode cX3_pushAll 118 = .ok (.iload 7, 2) := by decide +kernel
theorem dX3_pushAll_120 : decode cX3_pushAll 120 = .ok (.iaload, 1) := by decide +kernel
theorem dX3_pushAll_121 : decode cX3_pushAll 121 = .ok (.iaload, 1) := by decide +kernel
theorem dX3_pushAll_122 : decode cX3_pushAll 122 = .ok (.goto 17, 3) := by decide +kernel
theorem dX3_pushAll_125 : decode cX3_pushAll 125 = .ok (.aload_n 0, 1) := by decide +kernel
theorem dX3_pushAll_126 : decode cX3_pushAll 126 = .ok (.getfield 13, 3) := by decide +kernel
theorem dX3_pushAll_129 : decode cX3_pushAll 129 = .ok (.iconst (-1), 1) := by decide +kernel
theorem dX3_pushAll_130 : decode cX3_pushAll 130 = .ok (.aload_n 0, 1) := by decide +kernel
theorem dX3_pushAll_131 : decode cX3_pushAll 131 = .ok (.getfield 44, 3) := by decide +kernel
theorem dX3_pushAll_134 : decode cX3_pushAll 134 = .ok (.iload 7, 2) := by decide +kernel
theorem dX3_pushAll_136 : decode cX3_pushAll 136 = .ok (.iaload, 1) := by decide +kernel
theorem dX3_pushAll_137 : decode cX3_pushAll 137 = .ok (.isub, 1) := by decide +kernel
theorem dX3_pushAll_138 : decode cX3_pushAll 138 = .ok (.iaload, 1) := by decide +kernel
theorem dX3_pushAll_139 : decode cX3_pushAll 139 = .ok (.istore 7, 2) := by decide +kernel
theorem dX3_pushAll_141 : decode cX3_pushAll 141 = .ok (.goto (-111), 3) := by decide +kernel
theorem dX3_pushAll_144 : decode cX3_pushAll 144 = .ok (.iload_n 3, 1) := by decide +kernel
theorem dX3_pushAll_145 : decode cX3_pushAll 145 = .ok (.istore 7, 2) := by decide +kernel
theorem dX3_pushAll_147 : decode cX3_pushAll 147 = .ok (.iload 7, 2) := by decide +kernel
theorem dX3_pushAll_149 : decode cX3_pushAll 149 = .ok (.iload_n 2, 1) := by decide +kernel
theorem dX3_pushAll_150 : decode cX3_pushAll 150 = .ok (.if_icmp .eq 90, 3) := by decide +kernel
theorem dX3_pushAll_153 : decode cX3_pushAll 153 = .ok (.aload_n 0, 1) := by decide +kernel
theorem dX3_pushAll_154 : decode cX3_pushAll 154 = .ok (.getfield 44, 3) := by decide +kernel
theorem dX3_pushAll_157 : decode cX3_pushAll 157 = .ok (.iload 7, 2) := by decide +kernel
theorem dX3_pushAll_159 : decode cX3_pushAll 159 = .ok (.iaload, 1) := by decide +kernel
theorem dX3_pushAll_160 : decode cX3_pushAll 160 = .ok (.ifCond .lt 20, 3) := by decide +kernel
theorem dX3_pushAll_163 : decode cX3_pushAll 163 = .ok (.aload_n 1, 1) := by decide +kernel
theorem dX3_pushAll_164 : decode cX3_pushAll 164 = .ok (.aload_n 0, 1) := by decide +kernel
theorem dX3_pushAll_165 : decode cX3_pushAll 165 = .ok (.getfield 44, 3) := by decide +kernel
theorem dX3_pushAll_168 : decode cX3_pushAll 168 = .ok (.iload 7, 2) := by decide +kernel
theorem dX3_pushAll_170 : decode cX3_pushAll 170 = .ok (.iaload, 1) := by decide +kernel
theorem dX3_pushAll_171 : decode cX3_pushAll 171 = .ok (.dup2, 1) := by decide +kernel
theorem dX3_pushAll_172 : decode cX3_pushAll 172 = .ok (.iaload, 1) := by decide +kernel
theorem dX3_pushAll_173 : decode cX3_pushAll 173 = .ok (.iload 6, 2) := by decide +kernel
theorem dX3_pushAll_175 : decode cX3_pushAll 175 = .ok (.iadd, 1) := by decide +kernel
theorem dX3_pushAll_176 : decode cX3_pushAll 176 = .ok (.iastore, 1) := by decide +kernel
theorem dX3_pushAll_177 : decode cX3_pushAll 177 = .ok (.goto 19, 3) := by decide +kernel
theorem dX3_pushAll_180 : decode cX3_pushAll 180 = .ok (.aload_n 1, 1) := by decide +kernel
theorem dX3_pushAll_181 : decode cX3_pushAll 181 = .ok (.iconst (-1), 1) := by decide +kernel
theorem dX3_pushAll_182 : decode cX3_pushAll 182 = .ok (.aload_n 0, 1) := by decide +kernel
theorem dX3_pushAll_183 : decode cX3_pushAll 183 = .ok (.getfield 44, 3) := by decide +kernel
theorem dX3_pushAll_186 : decode cX3_pushAll 186 = .ok (.iload 7, 2) := by decide +kernel
theorem dX3_pushAll_188 : decode cX3_pushAll 188 = .ok (.iaload, 1) := by decide +kernel
theorem dX3_pushAll_189 : decode cX3_pushAll 189 = .ok (.isub, 1) := by decide +kernel
theorem dX3_pushAll_190 : decode cX3_pushAll 190 = .ok (.dup2, 1) := by decide +kernel
theorem dX3_pushAll_191 : decode cX3_pushAll 191 = .ok (.iaload, 1) := by decide +kernel
theorem dX3_pushAll_192 : decode cX3_pushAll 192 = .ok (.iload 6, 2) := by decide +kernel
theorem dX3_pushAll_194 : decode cX3_pushAll 194 = .ok (.isub, 1) := by decide +kernel
theorem dX3_pushAll_195 : decode cX3_pushAll 195 = .ok (.iastore, 1) := by decide +kernel
theorem dX3_pushAll_196 : decode cX3_pushAll 196 = .ok (.aload_n 0, 1) := by decide +kernel
theorem dX3_pushAll_197 : decode cX3_pushAll 197 = .ok (.getfield 44, 3) := by decide +kernel
theorem dX3_pushAll_200 : decode cX3_pushAll 200 = .ok (.iload 7, 2) := by decide +kernel
theorem dX3_pushAll_202 : decode cX3_pushAll 202 = .ok (.iaload, 1) := by decide +kernel
theorem dX3_pushAll_203 : decode cX3_pushAll 203 = .ok (.ifCond .lt 18, 3) := by decide +kernel
theorem dX3_pushAll_206 : decode cX3_pushAll 206 = .ok (.aload_n 0, 1) := by decide +kernel
theorem dX3_pushAll_207 : decode cX3_pushAll 207 = .ok (.getfield 7, 3) := by decide +kernel
theorem dX3_pushAll_210 : decode cX3_pushAll 210 = .ok (.aload_n 0, 1) := by decide +kernel
theorem dX3_pushAll_211 : decode cX3_pushAll 211 = .ok (.getfield 44, 3) := by decide +kernel
theorem dX3_pushAll_214 : decode cX3_pushAll 214 = .ok (.iload 7, 2) := by decide +kernel
theorem dX3_pushAll_216 : decode cX3_pushAll 216 = .ok (.iaload, 1) := by decide +kernel
theorem dX3_pushAll_217 : decode cX3_pushAll 217 = .ok (.iaload, 1) := by decide +kernel
theorem dX3_pushAll_218 : decode cX3_pushAll 218 = .ok (.goto 17, 3) := by decide +kernel
theorem dX3_pushAll_221 : decode cX3_pushAll 221 = .ok (.aload_n 0, 1) := by decide +kernel
theorem dX3_pushAll_222 : decode cX3_pushAll 222 = .ok (.getfield 13, 3) := by decide +kernel
theorem dX3_pushAll_225 : decode cX3_pushAll 225 = .ok (.iconst (-1), 1) := by decide +kernel
theorem dX3_pushAll_226 : decode cX3_pushAll 226 = .ok (.aload_n 0, 1) := by decide +kernel
theorem dX3_pushAll_227 : decode cX3_pushAll 227 = .ok (.getfield 44, 3) := by decide +kernel
theorem dX3_pushAll_230 : decode cX3_pushAll 230 = .ok (.iload 7, 2) := by decide +kernel
theorem dX3_pushAll_232 : decode cX3_pushAll 232 = .ok (.iaload, 1) := by decide +kernel
theorem dX3_pushAll_233 : decode cX3_pushAll 233 = .ok (.isub, 1) := by decide +kernel
theorem dX3_pushAll_234 : decode cX3_pushAll 234 = .ok (.iaload, 1) := by decide +kernel
theorem dX3_pushAll_235 : decode cX3_pushAll 235 = .ok (.istore 7, 2) := by decide +kernel
theorem dX3_pushAll_237 : decode cX3_pushAll 237 = .ok (.goto (-90), 3) := by decide +kernel
theorem dX3_pushAll_240 : decode cX3_pushAll 240 = .ok (.iload 5, 2) := by decide +kernel
theorem dX3_pushAll_242 : decode cX3_pushAll 242 = .ok (.iload 6, 2) := by decide +kernel
theorem dX3_pushAll_244 : decode cX3_pushAll 244 = .ok (.iadd, 1) := by decide +kernel
theorem dX3_pushAll_245 : decode cX3_pushAll 245 = .ok (.istore 5, 2) := by decide +kernel
theorem dX3_pushAll_247 : decode cX3_pushAll 247 = .ok (.goto (-244), 3) := by decide +kernel
theorem dX3_pushAll_250 : decode cX3_pushAll 250 = .ok (.iload 5, 2) := by decide +kernel
theorem dX3_pushAll_252 : decode cX3_pushAll 252 = .ok (.ireturn, 1) := by decide +kernel
set_option maxRecDepth 20000 in
theorem ggX3_fill_X3_lead : GoodIn wsX3_fill wsX3_lead := goodIn_r _ [11, 12, 2, 13, 14, 15, 31, 32, 33, 34, 35, 36, 37, 38, 39, 40, 41, 42, 43, 44, 45, 46] (by decide +kernel) (by decide +kernel)
set_option maxRecDepth 20000 in
theorem gX3_fill_X3_lead : GoodIn wsX3_fill (wsV RX3 72 RX3 yX3_lead wsX3_lead) := goodIn_app (goodIn_of _ (by decide +kernel)) ggX3_fill_X3_lead
set_option maxRecDepth 20000 in
theorem ggX3_fill_X3_pushAll : GoodIn wsX3_fill wsX3_pushAll := goodIn_r _ [19, 20, 14, 12, 13, 21, 22, 23, 10, 24, 25, 26, 2, 27, 28, 29, 30, 5, 31, 32, 33, 34, 35, 36, 37, 38, 39, 40, 41, 42, 43, 44, 45, 46] (by decide +kernel) (by decide +kernel)
set_option maxRecDepth 20000 in
theorem gX3_fill_X3_pushAll : GoodIn wsX3_fill (wsV RX3 76 RX3 yX3_pushAll wsX3_pushAll) := goodIn_app (goodIn_of _ (by decide +kernel)) ggX3_fill_X3_pushAll
theorem dX3_fill_0 : decode cX3_fill 0 = .ok (.aload_n 0, 1) := by decide +kernel
theorem dX3_fill_1 : decode cX3_fill 1 = .ok (.aload_n 0, 1) := by decide +kernel
theorem dX3_fill_2 : decode cX3_fill 2 = .ok (.getfield 55, 3) := by decide +kernel
theorem dX3_fill_5 : decode cX3_fill 5 = .ok (.putfield 61, 3) := by decide +kernel
theorem dX3_fill_8 : decode cX3_fill 8 = .ok (.iconst 0, 1) := by decide +kernel
theorem dX3_fill_9 : decode cX3_fill 9 = .ok (.istore_n 1, 1) := by decide +kernel
theorem dX3_fill_10 : decode cX3_fill 10 = .ok (.iload_n 1, 1) := by decide +kernel
theorem dX3_fill_11 : decode cX3_fill 11 = .ok (.bipush 8, 2) := by decide +kernel
theorem dX3_fill_13 : decode cX3_fill 13 = .ok (.if_icmp .ge 57, 3) := by decide +kernel
theorem dX3_fill_16 : decode cX3_fill 16 = .ok (.aload_n 0, 1) := by decide +kernel
theorem dX3_fill_17 : decode cX3_fill 17 = .ok (.getfield 22, 3) := by decide +kernel
theorem dX3_fill_20 : decode cX3_fill 20 = .ok (.iload_n 1, 1) := by decide +kernel
theorem dX3_fill_21 : decode cX3_fill 21 = .ok (.iaload, 1) := by decide +kernel
theorem dX3_fill_22 : decode cX3_fill 22 = .ok (.ifCond .le 19, 3) := by decide +kernel
theorem dX3_fill_25 : decode cX3_fill 25 = .ok (.aload_n 0, 1) := by decide +kernel
theorem dX3_fill_26 : decode cX3_fill 26 = .ok (.bipush 8, 2) := by decide +kernel
theorem dX3_fill_28 : decode cX3_fill 28 = .ok (.iload_n 1, 1) := by decide +kernel
theorem dX3_fill_29 : decode cX3_fill 29 = .ok (.aload_n 0, 1) := by decide +kernel
theorem dX3_fill_30 : decode cX3_fill 30 = .ok (.getfield 22, 3) := by decide +kernel
theorem dX3_fill_33 : decode cX3_fill 33 = .ok (.iload_n 1, 1) := by decide +kernel
theorem dX3_fill_34 : decode cX3_fill 34 = .ok (.iaload, 1) := by decide +kernel
theorem dX3_fill_35 : decode cX3_fill 35 = .ok (.invokevirtual 72, 3) := by decide +kernel
theorem dX3_fill_38 : decode cX3_fill 38 = .ok (.goto 26, 3) := by decide +kernel
theorem dX3_fill_41 : decode cX3_fill 41 = .ok (.aload_n 0, 1) := by decide +kernel
theorem dX3_fill_42 : decode cX3_fill 42 = .ok (.getfield 22, 3) := by decide +kernel
theorem dX3_fill_45 : decode cX3_fill 45 = .ok (.iload_n 1, 1) := by decide +kernel
theorem dX3_fill_46 : decode cX3_fill 46 = .ok (.iaload, 1) := by decide +kernel
theorem dX3_fill_47 : decode cX3_fill 47 = .ok (.ifCond .ge 17, 3) := by decide +kernel
theorem dX3_fill_50 : decode cX3_fill 50 = .ok (.aload_n 0, 1) := by decide +kernel
theorem dX3_fill_51 : decode cX3_fill 51 = .ok (.iload_n 1, 1) := by decide +kernel
theorem dX3_fill_52 : decode cX3_fill 52 = .ok (.bipush 9, 2) := by decide +kernel
theorem dX3_fill_54 : decode cX3_fill 54 = .ok (.aload_n 0, 1) := by decide +kernel
theorem dX3_fill_55 : decode cX3_fill 55 = .ok (.getfield 22, 3) := by decide +kernel
theorem dX3_fill_58 : decode cX3_fill 58 = .ok (.iload_n 1, 1) := by decide +kernel
theorem dX3_fill_59 : decode cX3_fill 59 = .ok (.iaload, 1) := by decide +kernel
theorem dX3_fill_60 : decode cX3_fill 60 = .ok (.ineg, 1) := by decide +kernel
theorem dX3_fill_61 : decode cX3_fill 61 = .ok (.invokevirtual 72, 3) := by decide +kernel
theorem dX3_fill_64 : decode cX3_fill 64 = .ok (.iinc 1 1, 3) := by decide +kernel
theorem dX3_fill_67 : decode cX3_fill 67 = .ok (.goto (-57), 3) := by decide +kernel
theorem dX3_fill_70 : decode cX3_fill 70 = .ok (.iconst 0, 1) := by decide +kernel
theorem dX3_fill_71 : decode cX3_fill 71 = .ok (.istore_n 1, 1) := by decide +kernel
theorem dX3_fill_72 : decode cX3_fill 72 = .ok (.iload_n 1, 1) := by decide +kernel
theorem dX3_fill_73 : decode cX3_fill 73 = .ok (.aload_n 0, 1) := by decide +kernel
theorem dX3_fill_74 : decode cX3_fill 74 = .ok (.getfield 61, 3) := by decide +kernel
theorem dX3_fill_77 : decode cX3_fill 77 = .ok (.if_icmp .ge 23, 3) := by decide +kernel
theorem dX3_fill_80 : decode cX3_fill 80 = .ok (.aload_n 0, 1) := by decide +kernel
theorem dX3_fill_81 : decode cX3_fill 81 = .ok (.getfield 25, 3) := by decide +kernel
theorem dX3_fill_84 : decode cX3_fill 84 = .ok (.iload_n 1, 1) := by decide +kernel
theorem dX3_fill_85 : decode cX3_fill 85 = .ok (.iconst 0, 1) := by decide +kernel
theorem dX3_fill_86 : decode cX3_fill 86 = .ok (.iastore, 1) := by decide +kernel
theorem dX3_fill_87 : decode cX3_fill 87 = .ok (.aload_n 0, 1) := by decide +kernel
theorem dX3_fill_88 : decode cX3_fill 88 = .ok (.getfield 41, 3) := by decide +kernel
theorem dX3_fill_91 : decode cX3_fill 91 = .ok (.iload_n 1, 1) := by decide +kernel
theorem dX3_fill_92 : decode cX3_fill 92 = .ok (.iconst 1, 1) := by decide +kernel
theorem dX3_fill_93 : decode cX3_fill 93 = .ok (.bastore, 1) := by decide +kernel
theorem dX3_fill_94 : decode cX3_fill 94 = .ok (.iinc 1 1, 3) := by decide +kernel
theorem dX3_fill_97 : decode cX3_fill 97 = .ok (.goto (-25), 3) := by decide +kernel
theorem dX3_fill_100 : decode cX3_fill 100 = .ok (.aload_n 0, 1) := by decide +kernel
theorem dX3_fill_101 : decode cX3_fill 101 = .ok (.aload_n 0, 1) := by decide +kernel
theorem dX3_fill_102 : decode cX3_fill 102 = .ok (.getfield 25, 3) := by decide +kernel
theorem dX3_fill_105 : decode cX3_fill 105 = .ok (.bipush 8, 2) := by decide +kernel
theorem dX3_fill_107 : decode cX3_fill 107 = .ok (.bipush 9, 2) := by decide +kernel
theorem dX3_fill_109 : decode cX3_fill 109 = .ok (.ldc 60, 2) := by decide +kernel
theorem dX3_fill_111 : decode cX3_fill 111 = .ok (.invokevirtual 76, 3) := by decide +kernel
theorem dX3_fill_114 : decode cX3_fill 114 = .ok (.ireturn, 1) := by decide +kernel
set_option maxRecDepth 20000 in
theorem ggX3_amount_X3_fill : GoodIn wsX3_amount wsX3_fill := goodIn_r _ [5, 6, 7, 8, 9, 10, 11, 12, 13, 14, 4, 15, 16, 17, 18, 19, 20, 21, 22, 23, 24, 25, 26, 27, 28, 29, 30, 31, 32, 33, 34, 35, 36, 37, 38, 39, 40, 41, 42, 43, 44, 45, 46, 47, 48, 49, 50] (by decide +kernel) (by decide +kernel)
set_option maxRecDepth 20000 in
theorem gX3_amount_X3_fill : GoodIn wsX3_amount (wsV RX3 80 RX3 yX3_fill wsX3_fill) := goodIn_app (goodIn_of _ (by decide +kernel)) ggX3_amount_X3_fill
theorem dX3_amount_0 : decode cX3_amount 0 = .ok (.aload_n 0, 1) := by decide +kernel
theorem dX3_amount_1 : decode cX3_amount 1 = .ok (.invokevirtual 80, 3) := by decide +kernel
theorem dX3_amount_4 : decode cX3_amount 4 = .ok (.ireturn, 1) := by decide +kernel
theorem dX3_bottleneck_0 : decode cX3_bottleneck 0 = .ok (.ldc 84, 2) := by decide +kernel
theorem dX3_bottleneck_2 : decode cX3_bottleneck 2 = .ok (.istore_n 1, 1) := by decide +kernel
theorem dX3_bottleneck_3 : decode cX3_bottleneck 3 = .ok (.iconst 0, 1) := by decide +kernel
theorem dX3_bottleneck_4 : decode cX3_bottleneck 4 = .ok (.istore_n 2, 1) := by decide +kernel
theorem dX3_bottleneck_5 : decode cX3_bottleneck 5 = .ok (.iconst 0, 1) := by decide +kernel
theorem dX3_bottleneck_6 : decode cX3_bottleneck 6 = .ok (.istore_n 3, 1) := by decide +kernel
theorem dX3_bottleneck_7 : decode cX3_bottleneck 7 = .ok (.iload_n 3, 1) := by decide +kernel
theorem dX3_bottleneck_8 : decode cX3_bottleneck 8 = .ok (.sipush 256, 3) := by decide +kernel
theorem dX3_bottleneck_11 : decode cX3_bottleneck 11 = .ok (.if_icmp .ge 214, 3) := by decide +kernel
theorem dX3_bottleneck_14 : decode cX3_bottleneck 14 = .ok (.iconst 0, 1) := by decide +kernel
theorem dX3_bottleneck_15 : decode cX3_bottleneck 15 = .ok (.istore 4, 2) := by decide +kernel
theorem dX3_bottleneck_17 : decode cX3_bottleneck 17 = .ok (.iconst 0, 1) := by decide +kernel
theorem dX3_bottleneck_18 : decode cX3_bottleneck 18 = .ok (.istore 5, 2) := by decide +kernel
theorem dX3_bottleneck_20 : decode cX3_bottleneck 20 = .ok (.iload 5, 2) := by decide +kernel
theorem dX3_bottleneck_22 : decode cX3_bottleneck 22 = .ok (.bipush 8, 2) := by decide +kernel
theorem dX3_bottleneck_24 : decode cX3_bottleneck 24 = .ok (.if_icmp .ge 83, 3) := by decide +kernel
theorem dX3_bottleneck_27 : decode cX3_bottleneck 27 = .ok (.iload_n 3, 1) := by decide +kernel
theorem dX3_bottleneck_28 : decode cX3_bottleneck 28 = .ok (.iload 5, 2) := by decide +kernel
theorem dX3_bottleneck_30 : decode cX3_bottleneck 30 = .ok (.ishr, 1) := by decide +kernel
theorem dX3_bottleneck_31 : decode cX3_bottleneck 31 = .ok (.iconst 1, 1) := by decide +kernel
theorem dX3_bottleneck_32 : decode cX3_bottleneck 32 = .ok (.iand, 1) := by decide +kernel
theorem dX3_bottleneck_33 : decode cX3_bottleneck 33 = .ok (.iconst 1, 1) := by decide +kernel
theorem dX3_bottleneck_34 : decode cX3_bottleneck 34 = .ok (.if_icmp .ne 7, 3) := by decide +kernel
theorem dX3_bottleneck_37 : decode cX3_bottleneck 37 = .ok (.iconst 1, 1) := by decide +kernel
theorem dX3_bottleneck_38 : decode cX3_bottleneck 38 = .ok (.goto 4, 3) := by decide +kernel
theorem dX3_bottleneck_41 : decode cX3_bottleneck 41 = .ok (.iconst 0, 1) := by decide +kernel
theorem dX3_bottleneck_42 : decode cX3_bottleneck 42 = .ok (.istore 6, 2) := by decide +kernel
theorem dX3_bottleneck_44 : decode cX3_bottleneck 44 = .ok (.iload 4, 2) := by decide +kernel
theorem dX3_bottleneck_46 : decode cX3_bottleneck 46 = .ok (.iload 6, 2) := by decide +kernel
theorem dX3_bottleneck_48 : decode cX3_bottleneck 48 = .ok (.ifCond .ne 23, 3) := by decide +kernel
theorem dX3_bottleneck_51 : decode cX3_bottleneck 51 = .ok (.aload_n 0, 1) := by decide +kernel
theorem dX3_bottleneck_52 : decode cX3_bottleneck 52 = .ok (.getfield 22, 3) := by decide +kernel
theorem dX3_bottleneck_55 : decode cX3_bottleneck 55 = .ok (.iload 5, 2) := by decide +kernel
theorem dX3_bottleneck_57 : decode cX3_bottleneck 57 = .ok (.iaload, 1) := by decide +kernel
theorem dX3_bottleneck_58 : decode cX3_bottleneck 58 = .ok (.ifCond .le 13, 3) := by decide +kernel
theorem dX3_bottleneck_61 : decode cX3_bottleneck 61 = .ok (.aload_n 0, 1) := by decide +kernel
theorem dX3_bottleneck_62 : decode cX3_bottleneck 62 = .ok (.getfield 22, 3) := by decide +kernel
theorem dX3_bottleneck_65 : decode cX3_bottleneck 65 = .ok (.iload 5, 2) := by decide +kernel
theorem dX3_bottleneck_67 : decode cX3_bottleneck 67 = .ok (.iaload, 1) := by decide +kernel
theorem dX3_bottleneck_68 : decode cX3_bottleneck 68 = .ok (.goto 30, 3) := by decide +kernel
theorem dX3_bottleneck_71 : decode cX3_bottleneck 71 = .ok (.iload 6, 2) := by decide +kernel
theorem dX3_bottleneck_73 : decode cX3_bottleneck 73 = .ok (.ifCond .eq 24, 3) := by decide +kernel
theorem dX3_bottleneck_76 : decode cX3_bottleneck 76 = .ok (.aload_n 0, 1) := by decide +kernel
theorem dX3_bottleneck_77 : decode cX3_bottleneck 77 = .ok (.getfield 22, 3) := by decide +kernel
theorem dX3_bottleneck_80 : decode cX3_bottleneck 80 = .ok (.iload 5, 2) := by decide +kernel
theorem dX3_bottleneck_82 : decode cX3_bottleneck 82 = .ok (.iaload, 1) := by decide +kernel
theorem dX3_bottleneck_83 : decode cX3_bottleneck 83 = .ok (.ifCond .ge 14, 3) := by decide +kernel
theorem dX3_bottleneck_86 : decode cX3_bottleneck 86 = .ok (.aload_n 0, 1) := by decide +kernel
theorem dX3_bottleneck_87 : decode cX3_bottleneck 87 = .ok (.getfield 22, 3) := by decide +kernel
theorem dX3_bottleneck_90 : decode cX3_bottleneck 90 = .ok (.iload 5, 2) := by decide +kernel
theorem dX3_bottleneck_92 : decode cX3_bottleneck 92 = .ok (.iaload, 1) := by decide +kernel
theorem dX3_bottleneck_93 : decode cX3_bottleneck 93 = .ok (.ineg, 1) := by decide +kernel
theorem dX3_bottleneck_94 : decode cX3_bottleneck 94 = .ok (.goto 4, 3) := by decide +kernel
theorem dX3_bottleneck_97 : decode cX3_bottleneck 97 = .ok (.iconst 0, 1) := by decide +kernel
theorem dX3_bottleneck_98 : decode cX3_bottleneck 98 = .ok (.iadd, 1) := by decide +kernel
theorem dX3_bottleneck_99 : decode cX3_bottleneck 99 = .ok (.istore 4, 2) := by decide +kernel
theorem dX3_bottleneck_101 : decode cX3_bottleneck 101 = .ok (.iinc 5 1, 3) := by decide +kernel
theorem dX3_bottleneck_104 : decode cX3_bottleneck 104 = .ok (.goto (-84), 3) := by decide +kernel
theorem dX3_bottleneck_107 : decode cX3_bottleneck 107 = .ok (.iconst 0, 1) := by decide +kernel
theorem dX3_bottleneck_108 : decode cX3_bottleneck 108 = .ok (.istore 5, 2) := by decide +kernel
theorem dX3_bottleneck_110 : decode cX3_bottleneck 110 = .ok (.iload 5, 2) := by decide +kernel
theorem dX3_bottleneck_112 : decode cX3_bottleneck 112 = .ok (.aload_n 0, 1) := by decide +kernel
theorem dX3_bottleneck_113 : decode cX3_bottleneck 113 = .ok (.getfield 55, 3) := by decide +kernel
theorem dX3_bottleneck_116 : decode cX3_bottleneck 116 = .ok (.if_icmp .ge 66, 3) := by decide +kernel
theorem dX3_bottleneck_119 : decode cX3_bottleneck 119 = .ok (.iload_n 3, 1) := by decide +kernel
theorem dX3_bottleneck_120 : decode cX3_bottleneck 120 = .ok (.aload_n 0, 1) := by decide +kernel
theorem dX3_bottleneck_121 : decode cX3_bottleneck 121 = .ok (.getfield 7, 3) := by decide +kernel
theorem dX3_bottleneck_124 : decode cX3_bottleneck 124 = .ok (.iload 5, 2) := by decide +kernel
theorem dX3_bottleneck_126 : decode cX3_bottleneck 126 = .ok (.iaload, 1) := by decide +kernel
theorem dX3_bottleneck_127 : decode cX3_bottleneck 127 = .ok (.ishr, 1) := by decide +kernel
theorem dX3_bottleneck_128 : decode cX3_bottleneck 128 = .ok (.iconst 1, 1) := by decide +kernel
theorem dX3_bottleneck_129 : decode cX3_bottleneck 129 = .ok (.iand, 1) := by decide +kernel
theorem dX3_bottleneck_130 : decode cX3_bottleneck 130 = .ok (.iconst 1, 1) := by decide +kernel
theorem dX3_bottleneck_131 : decode cX3_bottleneck 131 = .ok (.if_icmp .ne 21, 3) := by decide +kernel
theorem dX3_bottleneck_134 : decode cX3_bottleneck 134 = .ok (.iload_n 3, 1) := by decide +kernel
theorem dX3_bottleneck_135 : decode cX3_bottleneck 135 = .ok (.aload_n 0, 1) := by decide +kernel
theorem dX3_bottleneck_136 : decode cX3_bottleneck 136 = .ok (.getfield 13, 3) := by decide +kernel
theorem dX3_bottleneck_139 : decode cX3_bottleneck 139 = .ok (.iload 5, 2) := by decide +kernel
theorem dX3_bottleneck_141 : decode cX3_bottleneck 141 = .ok (.iaload, 1) := by decide +kernel
theorem dX3_bottleneck_142 : decode cX3_bottleneck 142 = .ok (.ishr, 1) := by decide +kernel
theorem dX3_bottleneck_143 : decode cX3_bottleneck 143 = .ok (.iconst 1, 1) := by decide +kernel
theorem dX3_bottleneck_144 : decode cX3_bottleneck 144 = .ok (.iand, 1) := by decide +kernel
theorem dX3_bottleneck_145 : decode cX3_bottleneck 145 = .ok (.ifCond .ne 7, 3) := by decide +kernel
theorem dX3_bottleneck_148 : decode cX3_bottleneck 148 = .ok (.iconst 1, 1) := by decide +kernel
theorem dX3_bottleneck_149 : decode cX3_bottleneck 149 = .ok (.goto 4, 3) := by decide +kernel
theorem dX3_bottleneck_152 : decode cX3_bottleneck 152 = .ok (.iconst 0, 1) := by decide +kernel
theorem dX3_bottleneck_153 : decode cX3_bottleneck 153 = .ok (.istore 6, 2) := by decide +kernel
theorem dX3_bottleneck_155 : decode cX3_bottleneck 155 = .ok (.iload 4, 2) := by decide +kernel
theorem dX3_bottleneck_157 : decode cX3_bottleneck 157 = .ok (.iload 6, 2) := by decide +kernel
theorem dX3_bottleneck_159 : decode cX3_bottleneck 159 = .ok (.ifCond .eq 13, 3) := by decide +kernel
theorem dX3_bottleneck_162 : decode cX3_bottleneck 162 = .ok (.aload_n 0, 1) := by decide +kernel
theorem dX3_bottleneck_163 : decode cX3_bottleneck 163 = .ok (.getfield 16, 3) := by decide +kernel
theorem dX3_bottleneck_166 : decode cX3_bottleneck 166 = .ok (.iload 5, 2) := by decide +kernel
theorem dX3_bottleneck_168 : decode cX3_bottleneck 168 = .ok (.iaload, 1) := by decide +kernel
theorem dX3_bottleneck_169 : decode cX3_bottleneck 169 = .ok (.goto 4, 3) := by decide +kernel
theorem dX3_bottleneck_172 : decode cX3_bottleneck 172 = .ok (.iconst 0, 1) := by decide +kernel
theorem dX3_bottleneck_173 : decode cX3_bottleneck 173 = .ok (.iadd, 1) := by decide +kernel
theorem dX3_bottleneck_174 : decode cX3_bottleneck 174 = .ok (.istore 4, 2) := by decide +kernel
theorem dX3_bottleneck_176 : decode cX3_bottleneck 176 = .ok (.iinc 5 1, 3) := by decide +kernel
theorem dX3_bottleneck_179 : decode cX3_bottleneck 179 = .ok (.goto (-69), 3) := by decide +kernel
theorem dX3_bottleneck_182 : decode cX3_bottleneck 182 = .ok (.iload 4, 2) := by decide +kernel
theorem dX3_bottleneck_184 : decode cX3_bottleneck 184 = .ok (.ldc 85, 2) := by decide +kernel
theorem dX3_bottleneck_186 : decode cX3_bottleneck 186 = .ok (.if_icmp .ge 33, 3) := by decide +kernel
theorem dX3_bottleneck_189 : decode cX3_bottleneck 189 = .ok (.iload_n 1, 1) := by decide +kernel
theorem dX3_bottleneck_190 : decode cX3_bottleneck 190 = .ok (.ldc 84, 2) := by decide +kernel
theorem dX3_bottleneck_192 : decode cX3_bottleneck 192 = .ok (.if_icmp .eq 9, 3) := by decide +kernel
theorem dX3_bottleneck_195 : decode cX3_bottleneck 195 = .ok (.iload 4, 2) := by decide +kernel
theorem dX3_bottleneck_197 : decode cX3_bottleneck 197 = .ok (.iload_n 2, 1) := by decide +kernel
theorem dX3_bottleneck_198 : decode cX3_bottleneck 198 = .ok (.if_icmp .ge 11, 3) := by decide +kernel
theorem dX3_bottleneck_201 : decode cX3_bottleneck 201 = .ok (.iload_n 3, 1) := by decide +kernel
theorem dX3_bottleneck_202 : decode cX3_bottleneck 202 = .ok (.istore_n 1, 1) := by decide +kernel
theorem dX3_bottleneck_203 : decode cX3_bottleneck 203 = .ok (.iload 4, 2) := by decide +kernel
theorem dX3_bottleneck_205 : decode cX3_bottleneck 205 = .ok (.istore_n 2, 1) := by decide +kernel
theorem dX3_bottleneck_206 : decode cX3_bottleneck 206 = .ok (.goto 13, 3) := by decide +kernel
theorem dX3_bottleneck_209 : decode cX3_bottleneck 209 = .ok (.iload 4, 2) := by decide +kernel
theorem dX3_bottleneck_211 : decode cX3_bottleneck 211 = .ok (.iload_n 2, 1) := by decide +kernel
theorem dX3_bottleneck_212 : decode cX3_bottleneck 212 = .ok (.if_icmp .ne 7, 3) := by decide +kernel
theorem dX3_bottleneck_215 : decode cX3_bottleneck 215 = .ok (.iload_n 1, 1) := by decide +kernel
theorem dX3_bottleneck_216 : decode cX3_bottleneck 216 = .ok (.iload_n 3, 1) := by decide +kernel
theorem dX3_bottleneck_217 : decode cX3_bottleneck 217 = .ok (.iand, 1) := by decide +kernel
theorem dX3_bottleneck_218 : decode cX3_bottleneck 218 = .ok (.istore_n 1, 1) := by decide +kernel
theorem dX3_bottleneck_219 : decode cX3_bottleneck 219 = .ok (.iinc 3 1, 3) := by decide +kernel
theorem dX3_bottleneck_222 : decode cX3_bottleneck 222 = .ok (.goto (-215), 3) := by decide +kernel
theorem dX3_bottleneck_225 : decode cX3_bottleneck 225 = .ok (.iload_n 1, 1) := by decide +kernel
theorem dX3_bottleneck_226 : decode cX3_bottleneck 226 = .ok (.ireturn, 1) := by decide +kernel
theorem dX3_findRound_0 : decode cX3_findRound 0 = .ok (.iconst 0, 1) := by decide +kernel
theorem dX3_findRound_1 : decode cX3_findRound 1 = .ok (.istore_n 2, 1) := by decide +kernel
theorem dX3_findRound_2 : decode cX3_findRound 2 = .ok (.iload_n 2, 1) := by decide +kernel
theorem dX3_findRound_3 : decode cX3_findRound 3 = .ok (.bipush 8, 2) := by decide +kernel
theorem dX3_findRound_5 : decode cX3_findRound 5 = .ok (.if_icmp .ge 24, 3) := by decide +kernel
theorem dX3_findRound_8 : decode cX3_findRound 8 = .ok (.aload_n 0, 1) := by decide +kernel
theorem dX3_findRound_9 : decode cX3_findRound 9 = .ok (.getfield 35, 3) := by decide +kernel
theorem dX3_findRound_12 : decode cX3_findRound 12 = .ok (.iload_n 2, 1) := by decide +kernel
theorem dX3_findRound_13 : decode cX3_findRound 13 = .ok (.iconst 0, 1) := by decide +kernel
theorem dX3_findRound_14 : decode cX3_findRound 14 = .ok (.iastore, 1) := by decide +kernel
theorem dX3_findRound_15 : decode cX3_findRound 15 = .ok (.aload_n 0, 1) := by decide +kernel
theorem dX3_findRound_16 : decode cX3_findRound 16 = .ok (.getfield 38, 3) := by decide +kernel
theorem dX3_findRound_19 : decode cX3_findRound 19 = .ok (.iload_n 2, 1) := by decide +kernel
theorem dX3_findRound_20 : decode cX3_findRound 20 = .ok (.ldc 84, 2) := by decide +kernel
theorem dX3_findRound_22 : decode cX3_findRound 22 = .ok (.iastore, 1) := by decide +kernel
theorem dX3_findRound_23 : decode cX3_findRound 23 = .ok (.iinc 2 1, 3) := by decide +kernel
theorem dX3_findRound_26 : decode cX3_findRound 26 = .ok (.goto (-24), 3) := by decide +kernel
theorem dX3_findRound_29 : decode cX3_findRound 29 = .ok (.ldc 84, 2) := by decide +kernel
theorem dX3_findRound_31 : decode cX3_findRound 31 = .ok (.istore_n 2, 1) := by decide +kernel
theorem dX3_findRound_32 : decode cX3_findRound 32 = .ok (.iconst 0, 1) := by decide +kernel
theorem dX3_findRound_33 : decode cX3_findRound 33 = .ok (.istore_n 3, 1) := by decide +kernel
theorem dX3_findRound_34 : decode cX3_findRound 34 = .ok (.iload_n 3, 1) := by decide +kernel
theorem dX3_findRound_35 : decode cX3_findRound 35 = .ok (.bipush 8, 2) := by decide +kernel
theorem dX3_findRound_37 : decode cX3_findRound 37 = .ok (.if_icmp .gt 277, 3) := by decide +kernel
theorem dX3_findRound_40 : decode cX3_findRound 40 = .ok (.ldc 84, 2) := by decide +kernel
theorem dX3_findRound_42 : decode cX3_findRound 42 = .ok (.istore_n 2, 1) := by decide +kernel
theorem dX3_findRound_43 : decode cX3_findRound 43 = .ok (.iconst 0, 1) := by decide +kernel
theorem dX3_findRound_44 : decode cX3_findRound 44 = .ok (.istore 4, 2) := by decide +kernel
theorem dX3_findRound_46 : decode cX3_findRound 46 = .ok (.iload 4, 2) := by decide +kernel
theorem dX3_findRound_48 : decode cX3_findRound 48 = .ok (.aload_n 0, 1) := by decide +kernel
theorem dX3_findRound_49 : decode cX3_findRound 49 = .ok (.getfield 55, 3) := by decide +kernel
theorem dX3_findRound_52 : decode cX3_findRound 52 = .ok (.if_icmp .ge 256, 3) := by decide +kernel
theorem dX3_findRound_55 : decode cX3_findRound 55 = .ok (.iload_n 1, 1) := by decide +kernel
theorem dX3_findRound_56 : decode cX3_findRound 56 = .ok (.ifCond .eq 23, 3) := by decide +kernel
theorem dX3_findRound_59 : decode cX3_findRound 59 = .ok (.aload_n 0, 1) := by decide +kernel
theorem dX3_findRound_60 : decode cX3_findRound 60 = .ok (.getfield 16, 3) := by decide +kernel
theorem dX3_findRound_63 : decode cX3_findRound 63 = .ok (.iload 4, 2) := by decide +kernel
theorem dX3_findRound_65 : decode cX3_findRound 65 = .ok (.iaload, 1) := by decide +kernel
theorem dX3_findRound_66 : decode cX3_findRound 66 = .ok (.ldc 60, 2) := by decide +kernel
theorem dX3_findRound_68 : decode cX3_findRound 68 = .ok (.if_icmp .ne 7, 3) := by decide +kernel
theorem dX3_findRound_71 : decode cX3_findRound 71 = .ok (.iconst 1, 1) := by decide +kernel
theorem dX3_findRound_72 : decode cX3_findRound 72 = .ok (.goto 29, 3) := by decide +kernel
theorem dX3_findRound_75 : decode cX3_findRound 75 = .ok (.iconst 0, 1) := by decide +kernel
theorem dX3_findRound_76 : decode cX3_findRound 76 = .ok (.goto 25, 3) := by decide +kernel
theorem dX3_findRound_79 : decode cX3_findRound 79 = .ok (.aload_n 0, 1) := by decide +kernel
theorem dX3_findRound_80 : decode cX3_findRound 80 = .ok (.getfield 25, 3) := by decide +kernel
theorem dX3_findRound_83 : decode cX3_findRound 83 = .ok (.iload 4, 2) := by decide +kernel
theorem dX3_findRound_85 : decode cX3_findRound 85 = .ok (.iaload, 1) := by decide +kernel
theorem dX3_findRound_86 : decode cX3_findRound 86 = .ok (.aload_n 0, 1) := by decide +kernel
theorem dX3_findRound_87 : decode cX3_findRound 87 = .ok (.getfield 16, 3) := by decide +kernel
theorem dX3_findRound_90 : decode cX3_findRound 90 = .ok (.iload 4, 2) := by decide +kernel
theorem dX3_findRound_92 : decode cX3_findRound 92 = .ok (.iaload, 1) := by decide +kernel
theorem dX3_findRound_93 : decode cX3_findRound 93 = .ok (.if_icmp .ge 7, 3) := by decide +kernel
theorem dX3_findRound_96 : decode cX3_findRound 96 = .ok (.iconst 1, 1) := by decide +kernel
theorem dX3_findRound_97 : decode cX3_findRound 97 = .ok (.goto 4, 3) := by decide +kernel
theorem dX3_findRound_100 : decode cX3_findRound 100 = .ok (.iconst 0, 1) := by decide +kernel
theorem dX3_findRound_101 : decode cX3_findRound 101 = .ok (.istore 5, 2) := by decide +kernel
theorem dX3_findRound_103 : decode cX3_findRound 103 = .ok (.iload 5, 2) := by decide +kernel
theorem dX3_findRound_105 : decode cX3_findRound 105 = .ok (.ifCond .eq 92, 3) := by decide +kernel
theorem dX3_findRound_108 : decode cX3_findRound 108 = .ok (.aload_n 0, 1) := by decide +kernel
theorem dX3_findRound_109 : decode cX3_findRound 109 = .ok (.getfield 35, 3) := by decide +kernel
theorem dX3_findRound_112 : decode cX3_findRound 112 = .ok (.aload_n 0, 1) := by decide +kernel
theorem dX3_findRound_113 : decode cX3_findRound 113 = .ok (.getfield 7, 3) := by decide +kernel
theorem dX3_findRound_116 : decode cX3_findRound 116 = .ok (.iload 4, 2) := by decide +kernel
theorem dX3_findRound_118 : decode cX3_findRound 118 = .ok (.iaload, 1) := by decide +kernel
theorem dX3_findRound_119 : decode cX3_findRound 119 = .ok (.iaload, 1) := by decide +kernel
theorem dX3_findRound_120 : decode cX3_findRound 120 = .ok (.aload_n 0, 1) := by decide +kernel
theorem dX3_findRound_121 : decode cX3_findRound 121 = .ok (.getfield 19, 3) := by decide +kernel
theorem dX3_findRound_124 : decode cX3_findRound 124 = .ok (.iload 4, 2) := by decide +kernel
theorem dX3_findRound_126 : decode cX3_findRound 126 = .ok (.iaload, 1) := by decide +kernel
theorem dX3_findRound_127 : decode cX3_findRound 127 = .ok (.iadd, 1) := by decide +kernel
theorem dX3_findRound_128 : decode cX3_findRound 128 = .ok (.aload_n 0, 1) := by decide +kernel
theorem dX3_findRound_129 : decode cX3_findRound 129 = .ok (.getfield 35, 3) := by decide +kernel
theorem dX3_findRound_132 : decode cX3_findRound 132 = .ok (.aload_n 0, 1) := by decide +kernel
theorem dX3_findRound_133 : decode cX3_findRound 133 = .ok (.getfield 13, 3) := by decide +kernel
theorem dX3_findRound_136 : decode cX3_findRound 136 = .ok (.iload 4, 2) := by decide +kernel
theorem dX3_findRound_138 : decode cX3_findRound 138 = .ok (.iaload, 1) := by decide +kernel
theorem dX3_findRound_139 : decode cX3_findRound 139 = .ok (.iaload, 1) := by decide +kernel
theorem dX3_findRound_140 : decode cX3_findRound 140 = .ok (.if_icmp .ge 57, 3) := by decide +kernel
theorem dX3_findRound_143 : decode cX3_findRound 143 = .ok (.aload_n 0, 1) := by decide +kernel
theorem dX3_findRound_144 : decode cX3_findRound 144 = .ok (.getfield 35, 3) := by decide +kernel
theorem dX3_findRound_147 : decode cX3_findRound 147 = .ok (.aload_n 0, 1) := by decide +kernel
theorem dX3_findRound_148 : decode cX3_findRound 148 = .ok (.getfield 13, 3) := by decide +kernel
theorem dX3_findRound_151 : decode cX3_findRound 151 = .ok (.iload 4, 2) := by decide +kernel
theorem dX3_findRound_153 : decode cX3_findRound 153 = .ok (.iaload, 1) := by decide +kernel
theorem dX3_findRound_154 : decode cX3_findRound 154 = .ok (.aload_n 0, 1) := by decide +kernel
theorem dX3_findRound_155 : decode cX3_findRound 155 = .ok (.getfield 35, 3) := by decide +kernel
theorem dX3_findRound_158 : decode cX3_findRound 158 = .ok (.aload_n 0, 1) := by decide +kernel
theorem dX3_findRound_159 : decode cX3_findRound 159 = .ok (.getfield 7, 3) := by decide +kernel
theorem dX3_findRound_162 : decode cX3_findRound 162 = .ok (.iload 4, 2) := by decide +kernel
theorem dX3_findRound_164 : decode cX3_findRound 164 = .ok (.iaload, 1) := by decide +kernel
theorem dX3_findRound_165 : decode cX3_findRound 165 = .ok (.iaload, 1) := by decide +kernel
theorem dX3_findRound_166 : decode cX3_findRound 166 = .ok (.aload_n 0, 1) := by decide +kernel
theorem dX3_findRound_167 : decode cX3_findRound 167 = .ok (.getfield 19, 3) := by decide +kernel
