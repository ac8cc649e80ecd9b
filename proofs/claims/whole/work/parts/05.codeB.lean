theorem dX0_init_0 : decode cX0_init 0 = .ok (.aload_n 0, 1) := by decide +kernel
theorem dX0_init_1 : decode cX0_init 1 = .ok (.invokespecial 3, 3) := by decide +kernel
theorem dX0_init_4 : decode cX0_init 4 = .ok (.aload_n 0, 1) := by decide +kernel
theorem dX0_init_5 : decode cX0_init 5 = .ok (.sipush 144, 3) := by decide +kernel
theorem dX0_init_8 : decode cX0_init 8 = .ok (.newarray .int, 2) := by decide +kernel
theorem dX0_init_10 : decode cX0_init 10 = .ok (.putfield 11, 3) := by decide +kernel
theorem dX0_init_13 : decode cX0_init 13 = .ok (.aload_n 0, 1) := by decide +kernel
theorem dX0_init_14 : decode cX0_init 14 = .ok (.sipush 144, 3) := by decide +kernel
theorem dX0_init_17 : decode cX0_init 17 = .ok (.newarray .int, 2) := by decide +kernel
theorem dX0_init_19 : decode cX0_init 19 = .ok (.putfield 15, 3) := by decide +kernel
theorem dX0_init_22 : decode cX0_init 22 = .ok (.return_, 1) := by decide +kernel
theorem dX0_standOf_0 : decode cX0_standOf 0 = .ok (.iload_n 0, 1) := by decide +kernel
theorem dX0_standOf_1 : decode cX0_standOf 1 = .ok (.iconst 4, 1) := by decide +kernel
theorem dX0_standOf_2 : decode cX0_standOf 2 = .ok (.imul, 1) := by decide +kernel
theorem dX0_standOf_3 : decode cX0_standOf 3 = .ok (.iload_n 1, 1) := by decide +kernel
theorem dX0_standOf_4 : decode cX0_standOf 4 = .ok (.iadd, 1) := by decide +kernel
theorem dX0_standOf_5 : decode cX0_standOf 5 = .ok (.ireturn, 1) := by decide +kernel
set_option maxRecDepth 20000 in
theorem ggX0_spread_X0_forgetDistances : GoodIn wsX0_spread wsX0_forgetDistances := goodIn_r _ [7, 8, 2, 51, 52] (by decide +kernel) (by decide +kernel)
set_option maxRecDepth 20000 in
theorem gX0_spread_X0_forgetDistances : GoodIn wsX0_spread (wsV RX0 18 RX0 yX0_forgetDistances wsX0_forgetDistances) := goodIn_app (goodIn_of _ (by decide +kernel)) ggX0_spread_X0_forgetDistances
set_option maxRecDepth 20000 in
theorem ggX0_spread_X0_setDistance : GoodIn wsX0_spread wsX0_setDistance := goodIn_r _ [12, 8, 51, 52] (by decide +kernel) (by decide +kernel)
set_option maxRecDepth 20000 in
theorem gX0_spread_X0_setDistance : GoodIn wsX0_spread (wsV RX0 21 RX0 yX0_setDistance wsX0_setDistance) := goodIn_app (goodIn_of _ (by decide +kernel)) ggX0_spread_X0_setDistance
set_option maxRecDepth 20000 in
theorem ggX0_spread_X0_standAfter : GoodIn wsX0_spread wsX0_standAfter := goodIn_r _ [15, 16, 17, 18, 19, 20, 21, 6, 22, 23, 24, 25, 26, 27, 28, 29, 30, 31, 32, 33, 34, 35, 36, 37, 38, 53, 54, 55, 56, 57, 58, 59, 60, 61, 62, 63, 64] (by decide +kernel) (by decide +kernel)
set_option maxRecDepth 20000 in
theorem gX0_spread_X0_standAfter : GoodIn wsX0_spread (va_wsS RX0 25 yX0_standAfter wsX0_standAfter) := goodIn_app (goodIn_of _ (by decide +kernel)) ggX0_spread_X0_standAfter
set_option maxRecDepth 20000 in
theorem ggX0_spread_X0_distance : GoodIn wsX0_spread wsX0_distance := goodIn_r _ [42, 8, 2, 51, 52] (by decide +kernel) (by decide +kernel)
set_option maxRecDepth 20000 in
theorem gX0_spread_X0_distance : GoodIn wsX0_spread (wsV RX0 29 RX0 yX0_distance wsX0_distance) := goodIn_app (goodIn_of _ (by decide +kernel)) ggX0_spread_X0_distance
set_option maxRecDepth 20000 in
theorem ggX0_spread_X0_leastDistance : GoodIn wsX0_spread wsX0_leastDistance := goodIn_r _ [46, 2, 47, 48, 49, 50, 33, 34, 6, 35, 39, 40, 41, 42, 8, 51, 52] (by decide +kernel) (by decide +kernel)
set_option maxRecDepth 20000 in
theorem gX0_spread_X0_leastDistance : GoodIn wsX0_spread (wsV RX0 34 RX0 yX0_leastDistance wsX0_leastDistance) := goodIn_app (goodIn_of _ (by decide +kernel)) ggX0_spread_X0_leastDistance
theorem dX0_spread_0 : decode cX0_spread 0 = .ok (.aload_n 0, 1) := by decide +kernel
theorem dX0_spread_1 : decode cX0_spread 1 = .ok (.invokevirtual 18, 3) := by decide +kernel
theorem dX0_spread_4 : decode cX0_spread 4 = .ok (.aload_n 0, 1) := by decide +kernel
theorem dX0_spread_5 : decode cX0_spread 5 = .ok (.iload_n 2, 1) := by decide +kernel
theorem dX0_spread_6 : decode cX0_spread 6 = .ok (.iconst 0, 1) := by decide +kernel
theorem dX0_spread_7 : decode cX0_spread 7 = .ok (.invokevirtual 21, 3) := by decide +kernel
theorem dX0_spread_10 : decode cX0_spread 10 = .ok (.aload_n 0, 1) := by decide +kernel
theorem dX0_spread_11 : decode cX0_spread 11 = .ok (.getfield 15, 3) := by decide +kernel
theorem dX0_spread_14 : decode cX0_spread 14 = .ok (.iconst 0, 1) := by decide +kernel
theorem dX0_spread_15 : decode cX0_spread 15 = .ok (.iload_n 2, 1) := by decide +kernel
theorem dX0_spread_16 : decode cX0_spread 16 = .ok (.iastore, 1) := by decide +kernel
theorem dX0_spread_17 : decode cX0_spread 17 = .ok (.iconst 1, 1) := by decide +kernel
theorem dX0_spread_18 : decode cX0_spread 18 = .ok (.istore 4, 2) := by decide +kernel
theorem dX0_spread_20 : decode cX0_spread 20 = .ok (.iconst 0, 1) := by decide +kernel
theorem dX0_spread_21 : decode cX0_spread 21 = .ok (.istore 5, 2) := by decide +kernel
theorem dX0_spread_23 : decode cX0_spread 23 = .ok (.iload 5, 2) := by decide +kernel
theorem dX0_spread_25 : decode cX0_spread 25 = .ok (.iload 4, 2) := by decide +kernel
theorem dX0_spread_27 : decode cX0_spread 27 = .ok (.if_icmp .ge 106, 3) := by decide +kernel
theorem dX0_spread_30 : decode cX0_spread 30 = .ok (.iload 5, 2) := by decide +kernel
theorem dX0_spread_32 : decode cX0_spread 32 = .ok (.aload_n 0, 1) := by decide +kernel
theorem dX0_spread_33 : decode cX0_spread 33 = .ok (.getfield 15, 3) := by decide +kernel
theorem dX0_spread_36 : decode cX0_spread 36 = .ok (.arraylength, 1) := by decide +kernel
theorem dX0_spread_37 : decode cX0_spread 37 = .ok (.if_icmp .ge 96, 3) := by decide +kernel
theorem dX0_spread_40 : decode cX0_spread 40 = .ok (.aload_n 0, 1) := by decide +kernel
theorem dX0_spread_41 : decode cX0_spread 41 = .ok (.getfield 15, 3) := by decide +kernel
theorem dX0_spread_44 : decode cX0_spread 44 = .ok (.iload 5, 2) := by decide +kernel
theorem dX0_spread_46 : decode cX0_spread 46 = .ok (.iaload, 1) := by decide +kernel
theorem dX0_spread_47 : decode cX0_spread 47 = .ok (.istore 6, 2) := by decide +kernel
theorem dX0_spread_49 : decode cX0_spread 49 = .ok (.iconst 0, 1) := by decide +kernel
theorem dX0_spread_50 : decode cX0_spread 50 = .ok (.istore 7, 2) := by decide +kernel
theorem dX0_spread_52 : decode cX0_spread 52 = .ok (.iload 7, 2) := by decide +kernel
theorem dX0_spread_54 : decode cX0_spread 54 = .ok (.iconst 4, 1) := by decide +kernel
theorem dX0_spread_55 : decode cX0_spread 55 = .ok (.if_icmp .gt 72, 3) := by decide +kernel
theorem dX0_spread_58 : decode cX0_spread 58 = .ok (.aload_n 1, 1) := by decide +kernel
theorem dX0_spread_59 : decode cX0_spread 59 = .ok (.iload 6, 2) := by decide +kernel
theorem dX0_spread_61 : decode cX0_spread 61 = .ok (.iload 7, 2) := by decide +kernel
theorem dX0_spread_63 : decode cX0_spread 63 = .ok (.invokestatic 25, 3) := by decide +kernel
theorem dX0_spread_66 : decode cX0_spread 66 = .ok (.istore 8, 2) := by decide +kernel
theorem dX0_spread_68 : decode cX0_spread 68 = .ok (.iload 8, 2) := by decide +kernel
theorem dX0_spread_70 : decode cX0_spread 70 = .ok (.iconst (-1), 1) := by decide +kernel
theorem dX0_spread_71 : decode cX0_spread 71 = .ok (.if_icmp .eq 50, 3) := by decide +kernel
theorem dX0_spread_74 : decode cX0_spread 74 = .ok (.aload_n 0, 1) := by decide +kernel
theorem dX0_spread_75 : decode cX0_spread 75 = .ok (.iload 8, 2) := by decide +kernel
theorem dX0_spread_77 : decode cX0_spread 77 = .ok (.invokevirtual 29, 3) := by decide +kernel
theorem dX0_spread_80 : decode cX0_spread 80 = .ok (.ldc 33, 2) := by decide +kernel
theorem dX0_spread_82 : decode cX0_spread 82 = .ok (.if_icmp .ne 39, 3) := by decide +kernel
theorem dX0_spread_85 : decode cX0_spread 85 = .ok (.iload 4, 2) := by decide +kernel
theorem dX0_spread_87 : decode cX0_spread 87 = .ok (.aload_n 0, 1) := by decide +kernel
theorem dX0_spread_88 : decode cX0_spread 88 = .ok (.getfield 15, 3) := by decide +kernel
theorem dX0_spread_91 : decode cX0_spread 91 = .ok (.arraylength, 1) := by decide +kernel
theorem dX0_spread_92 : decode cX0_spread 92 = .ok (.if_icmp .ge 29, 3) := by decide +kernel
theorem dX0_spread_95 : decode cX0_spread 95 = .ok (.aload_n 0, 1) := by decide +kernel
theorem dX0_spread_96 : decode cX0_spread 96 = .ok (.iload 8, 2) := by decide +kernel
theorem dX0_spread_98 : decode cX0_spread 98 = .ok (.aload_n 0, 1) := by decide +kernel
theorem dX0_spread_99 : decode cX0_spread 99 = .ok (.iload 6, 2) := by decide +kernel
theorem dX0_spread_101 : decode cX0_spread 101 = .ok (.invokevirtual 29, 3) := by decide +kernel
theorem dX0_spread_104 : decode cX0_spread 104 = .ok (.iconst 1, 1) := by decide +kernel
theorem dX0_spread_105 : decode cX0_spread 105 = .ok (.iadd, 1) := by decide +kernel
theorem dX0_spread_106 : decode cX0_spread 106 = .ok (.invokevirtual 21, 3) := by decide +kernel
theorem dX0_spread_109 : decode cX0_spread 109 = .ok (.aload_n 0, 1) := by decide +kernel
theorem dX0_spread_110 : decode cX0_spread 110 = .ok (.getfield 15, 3) := by decide +kernel
theorem dX0_spread_113 : decode cX0_spread 113 = .ok (.iload 4, 2) := by decide +kernel
theorem dX0_spread_115 : decode cX0_spread 115 = .ok (.iload 8, 2) := by decide +kernel
theorem dX0_spread_117 : decode cX0_spread 117 = .ok (.iastore, 1) := by decide +kernel
theorem dX0_spread_118 : decode cX0_spread 118 = .ok (.iinc 4 1, 3) := by decide +kernel
theorem dX0_spread_121 : decode cX0_spread 121 = .ok (.iinc 7 1, 3) := by decide +kernel
theorem dX0_spread_124 : decode cX0_spread 124 = .ok (.goto (-72), 3) := by decide +kernel
theorem dX0_spread_127 : decode cX0_spread 127 = .ok (.iinc 5 1, 3) := by decide +kernel
theorem dX0_spread_130 : decode cX0_spread 130 = .ok (.goto (-107), 3) := by decide +kernel
theorem dX0_spread_133 : decode cX0_spread 133 = .ok (.aload_n 0, 1) := by decide +kernel
theorem dX0_spread_134 : decode cX0_spread 134 = .ok (.iload_n 3, 1) := by decide +kernel
theorem dX0_spread_135 : decode cX0_spread 135 = .ok (.invokevirtual 34, 3) := by decide +kernel
theorem dX0_spread_138 : decode cX0_spread 138 = .ok (.ireturn, 1) := by decide +kernel
set_option maxRecDepth 20000 in
theorem ggX0_sweep_X0_forgetDistances : GoodIn wsX0_sweep wsX0_forgetDistances := goodIn_r _ [5, 6, 7, 54, 55] (by decide +kernel) (by decide +kernel)
set_option maxRecDepth 20000 in
theorem gX0_sweep_X0_forgetDistances : GoodIn wsX0_sweep (wsV RX0 18 RX0 yX0_forgetDistances wsX0_forgetDistances) := goodIn_app (goodIn_of _ (by decide +kernel)) ggX0_sweep_X0_forgetDistances
set_option maxRecDepth 20000 in
theorem ggX0_sweep_X0_setDistance : GoodIn wsX0_sweep wsX0_setDistance := goodIn_r _ [11, 6, 54, 55] (by decide +kernel) (by decide +kernel)
set_option maxRecDepth 20000 in
theorem gX0_sweep_X0_setDistance : GoodIn wsX0_sweep (wsV RX0 21 RX0 yX0_setDistance wsX0_setDistance) := goodIn_app (goodIn_of _ (by decide +kernel)) ggX0_sweep_X0_setDistance
set_option maxRecDepth 20000 in
theorem ggX0_sweep_X0_sweepOnce : GoodIn wsX0_sweep wsX0_sweepOnce := goodIn_r _ [15, 16, 17, 4, 18, 19, 20, 21, 22, 23, 24, 25, 26, 27, 28, 29, 30, 31, 32, 33, 34, 35, 36, 37, 38, 39, 40, 41, 42, 43, 44, 45, 6, 7, 8, 9, 10, 11, 56, 57, 58, 59, 60, 61, 62, 63, 64, 65, 66, 67, 54, 55] (by decide +kernel) (by decide +kernel)
set_option maxRecDepth 20000 in
theorem gX0_sweep_X0_sweepOnce : GoodIn wsX0_sweep (wsV RX0 37 RX0 yX0_sweepOnce wsX0_sweepOnce) := goodIn_app (goodIn_of _ (by decide +kernel)) ggX0_sweep_X0_sweepOnce
set_option maxRecDepth 20000 in
theorem ggX0_sweep_X0_leastDistance : GoodIn wsX0_sweep wsX0_leastDistance := goodIn_r _ [49, 7, 50, 51, 52, 53, 36, 37, 4, 38, 42, 43, 44, 45, 6, 54, 55] (by decide +kernel) (by decide +kernel)
set_option maxRecDepth 20000 in
theorem gX0_sweep_X0_leastDistance : GoodIn wsX0_sweep (wsV RX0 34 RX0 yX0_leastDistance wsX0_leastDistance) := goodIn_app (goodIn_of _ (by decide +kernel)) ggX0_sweep_X0_leastDistance
theorem dX0_sweep_0 : decode cX0_sweep 0 = .ok (.aload_n 0, 1) := by decide +kernel
theorem dX0_sweep_1 : decode cX0_sweep 1 = .ok (.invokevirtual 18, 3) := by decide +kernel
theorem dX0_sweep_4 : decode cX0_sweep 4 = .ok (.aload_n 0, 1) := by decide +kernel
theorem dX0_sweep_5 : decode cX0_sweep 5 = .ok (.iload_n 2, 1) := by decide +kernel
theorem dX0_sweep_6 : decode cX0_sweep 6 = .ok (.iconst 0, 1) := by decide +kernel
theorem dX0_sweep_7 : decode cX0_sweep 7 = .ok (.invokevirtual 21, 3) := by decide +kernel
theorem dX0_sweep_10 : decode cX0_sweep 10 = .ok (.iconst 1, 1) := by decide +kernel
theorem dX0_sweep_11 : decode cX0_sweep 11 = .ok (.istore 4, 2) := by decide +kernel
theorem dX0_sweep_13 : decode cX0_sweep 13 = .ok (.iconst 0, 1) := by decide +kernel
theorem dX0_sweep_14 : decode cX0_sweep 14 = .ok (.istore 5, 2) := by decide +kernel
theorem dX0_sweep_16 : decode cX0_sweep 16 = .ok (.iload 4, 2) := by decide +kernel
theorem dX0_sweep_18 : decode cX0_sweep 18 = .ok (.ifCond .eq 24, 3) := by decide +kernel
theorem dX0_sweep_21 : decode cX0_sweep 21 = .ok (.iload 5, 2) := by decide +kernel
theorem dX0_sweep_23 : decode cX0_sweep 23 = .ok (.sipush 144, 3) := by decide +kernel
theorem dX0_sweep_26 : decode cX0_sweep 26 = .ok (.if_icmp .gt 16, 3) := by decide +kernel
theorem dX0_sweep_29 : decode cX0_sweep 29 = .ok (.aload_n 0, 1) := by decide +kernel
theorem dX0_sweep_30 : decode cX0_sweep 30 = .ok (.aload_n 1, 1) := by decide +kernel
theorem dX0_sweep_31 : decode cX0_sweep 31 = .ok (.invokevirtual 37, 3) := by decide +kernel
theorem dX0_sweep_34 : decode cX0_sweep 34 = .ok (.istore 4, 2) := by decide +kernel
theorem dX0_sweep_36 : decode cX0_sweep 36 = .ok (.iinc 5 1, 3) := by decide +kernel
theorem dX0_sweep_39 : decode cX0_sweep 39 = .ok (.goto (-23), 3) := by decide +kernel
theorem dX0_sweep_42 : decode cX0_sweep 42 = .ok (.aload_n 0, 1) := by decide +kernel
theorem dX0_sweep_43 : decode cX0_sweep 43 = .ok (.iload_n 3, 1) := by decide +kernel
theorem dX0_sweep_44 : decode cX0_sweep 44 = .ok (.invokevirtual 34, 3) := by decide +kernel
theorem dX0_sweep_47 : decode cX0_sweep 47 = .ok (.ireturn, 1) := by decide +kernel
set_option maxRecDepth 20000 in
theorem ggX0_sweepOnce_X0_standAfter : GoodIn wsX0_sweepOnce wsX0_standAfter := goodIn_r _ [4, 5, 6, 7, 8, 9, 10, 3, 11, 12, 13, 14, 15, 16, 17, 18, 19, 20, 21, 22, 23, 24, 25, 26, 27, 38, 39, 40, 41, 42, 43, 44, 45, 46, 47, 48, 49] (by decide +kernel) (by decide +kernel)
set_option maxRecDepth 20000 in
theorem gX0_sweepOnce_X0_standAfter : GoodIn wsX0_sweepOnce (va_wsS RX0 25 yX0_standAfter wsX0_standAfter) := goodIn_app (goodIn_of _ (by decide +kernel)) ggX0_sweepOnce_X0_standAfter
set_option maxRecDepth 20000 in
theorem ggX0_sweepOnce_X0_distance : GoodIn wsX0_sweepOnce wsX0_distance := goodIn_r _ [31, 32, 33, 50, 51] (by decide +kernel) (by decide +kernel)
set_option maxRecDepth 20000 in
theorem gX0_sweepOnce_X0_distance : GoodIn wsX0_sweepOnce (wsV RX0 29 RX0 yX0_distance wsX0_distance) := goodIn_app (goodIn_of _ (by decide +kernel)) ggX0_sweepOnce_X0_distance
set_option maxRecDepth 20000 in
theorem ggX0_sweepOnce_X0_setDistance : GoodIn wsX0_sweepOnce wsX0_setDistance := goodIn_r _ [37, 32, 50, 51] (by decide +kernel) (by decide +kernel)
set_option maxRecDepth 20000 in
theorem gX0_sweepOnce_X0_setDistance : GoodIn wsX0_sweepOnce (wsV RX0 21 RX0 yX0_setDistance wsX0_setDistance) := goodIn_app (goodIn_of _ (by decide +kernel)) ggX0_sweepOnce_X0_setDistance
theorem dX0_sweepOnce_0 : decode cX0_sweepOnce 0 = .ok (.iconst 0, 1) := by decide +kernel
theorem dX0_sweepOnce_1 : decode cX0_sweepOnce 1 = .ok (.istore_n 2, 1) := by decide +kernel
theorem dX0_sweepOnce_2 : decode cX0_sweepOnce 2 = .ok (.iconst 0, 1) := by decide +kernel
theorem dX0_sweepOnce_3 : decode cX0_sweepOnce 3 = .ok (.istore_n 3, 1) := by decide +kernel
theorem dX0_sweepOnce_4 : decode cX0_sweepOnce 4 = .ok (.iload_n 3, 1) := by decide +kernel
theorem dX0_sweepOnce_5 : decode cX0_sweepOnce 5 = .ok (.sipush 144, 3) := by decide +kernel
theorem dX0_sweepOnce_8 : decode cX0_sweepOnce 8 = .ok (.if_icmp .ge 70, 3) := by decide +kernel
theorem dX0_sweepOnce_11 : decode cX0_sweepOnce 11 = .ok (.iconst 0, 1) := by decide +kernel
theorem dX0_sweepOnce_12 : decode cX0_sweepOnce 12 = .ok (.istore 4, 2) := by decide +kernel
theorem dX0_sweepOnce_14 : decode cX0_sweepOnce 14 = .ok (.iload 4, 2) := by decide +kernel
theorem dX0_sweepOnce_16 : decode cX0_sweepOnce 16 = .ok (.iconst 4, 1) := by decide +kernel
theorem dX0_sweepOnce_17 : decode cX0_sweepOnce 17 = .ok (.if_icmp .gt 55, 3) := by decide +kernel
theorem dX0_sweepOnce_20 : decode cX0_sweepOnce 20 = .ok (.aload_n 1, 1) := by decide +kernel
theorem dX0_sweepOnce_21 : decode cX0_sweepOnce 21 = .ok (.iload_n 3, 1) := by decide +kernel
theorem dX0_sweepOnce_22 : decode cX0_sweepOnce 22 = .ok (.iload 4, 2) := by decide +kernel
theorem dX0_sweepOnce_24 : decode cX0_sweepOnce 24 = .ok (.invokestatic 25, 3) := by decide +kernel
theorem dX0_sweepOnce_27 : decode cX0_sweepOnce 27 = .ok (.istore 5, 2) := by decide +kernel
theorem dX0_sweepOnce_29 : decode cX0_sweepOnce 29 = .ok (.iload 5, 2) := by decide +kernel
theorem dX0_sweepOnce_31 : decode cX0_sweepOnce 31 = .ok (.iconst (-1), 1) := by decide +kernel
theorem dX0_sweepOnce_32 : decode cX0_sweepOnce 32 = .ok (.if_icmp .eq 34, 3) := by decide +kernel
theorem dX0_sweepOnce_35 : decode cX0_sweepOnce 35 = .ok (.aload_n 0, 1) := by decide +kernel
theorem dX0_sweepOnce_36 : decode cX0_sweepOnce 36 = .ok (.iload 5, 2) := by decide +kernel
theorem dX0_sweepOnce_38 : decode cX0_sweepOnce 38 = .ok (.invokevirtual 29, 3) := by decide +kernel
theorem dX0_sweepOnce_41 : decode cX0_sweepOnce 41 = .ok (.aload_n 0, 1) := by decide +kernel
theorem dX0_sweepOnce_42 : decode cX0_sweepOnce 42 = .ok (.iload_n 3, 1) := by decide +kernel
theorem dX0_sweepOnce_43 : decode cX0_sweepOnce 43 = .ok (.invokevirtual 29, 3) := by decide +kernel
theorem dX0_sweepOnce_46 : decode cX0_sweepOnce 46 = .ok (.iconst 1, 1) := by decide +kernel
theorem dX0_sweepOnce_47 : decode cX0_sweepOnce 47 = .ok (.iadd, 1) := by decide +kernel
theorem dX0_sweepOnce_48 : decode cX0_sweepOnce 48 = .ok (.if_icmp .le 18, 3) := by decide +kernel
theorem dX0_sweepOnce_51 : decode cX0_sweepOnce 51 = .ok (.aload_n 0, 1) := by decide +kernel
theorem dX0_sweepOnce_52 : decode cX0_sweepOnce 52 = .ok (.iload 5, 2) := by decide +kernel
theorem dX0_sweepOnce_54 : decode cX0_sweepOnce 54 = .ok (.aload_n 0, 1) := by decide +kernel
theorem dX0_sweepOnce_55 : decode cX0_sweepOnce 55 = .ok (.iload_n 3, 1) := by decide +kernel
theorem dX0_sweepOnce_56 : decode cX0_sweepOnce 56 = .ok (.invokevirtual 29, 3) := by decide +kernel
theorem dX0_sweepOnce_59 : decode cX0_sweepOnce 59 = .ok (.iconst 1, 1) := by decide +kernel
theorem dX0_sweepOnce_60 : decode cX0_sweepOnce 60 = .ok (.iadd, 1) := by decide +kernel
theorem dX0_sweepOnce_61 : decode cX0_sweepOnce 61 = .ok (.invokevirtual 21, 3) := by decide +kernel
theorem dX0_sweepOnce_64 : decode cX0_sweepOnce 64 = .ok (.iconst 1, 1) := by decide +kernel
theorem dX0_sweepOnce_65 : decode cX0_sweepOnce 65 = .ok (.istore_n 2, 1) := by decide +kernel
theorem dX0_sweepOnce_66 : decode cX0_sweepOnce 66 = .ok (.iinc 4 1, 3) := by decide +kernel
theorem dX0_sweepOnce_69 : decode cX0_sweepOnce 69 = .ok (.goto (-55), 3) := by decide +kernel
theorem dX0_sweepOnce_72 : decode cX0_sweepOnce 72 = .ok (.iinc 3 1, 3) := by decide +kernel
theorem dX0_sweepOnce_75 : decode cX0_sweepOnce 75 = .ok (.goto (-71), 3) := by decide +kernel
theorem dX0_sweepOnce_78 : decode cX0_sweepOnce 78 = .ok (.iload_n 2, 1) := by decide +kernel
theorem dX0_sweepOnce_79 : decode cX0_sweepOnce 79 = .ok (.ireturn, 1) := by decide +kernel
set_option maxRecDepth 20000 in
theorem ggX0_standAfter_X2_beside : GoodIn wsX0_standAfter wsX2_beside := goodIn_r _ [4] (by decide +kernel) (by decide +kernel)
set_option maxRecDepth 20000 in
theorem gX0_standAfter_X2_beside : GoodIn wsX0_standAfter (va_wsS RX0 41 yX2_beside wsX2_beside) := goodIn_app (goodIn_of _ (by decide +kernel)) ggX0_standAfter_X2_beside
set_option maxRecDepth 20000 in
theorem ggX0_standAfter_X0_standOn : GoodIn wsX0_standAfter wsX0_standOn := goodIn_r _ [8, 9, 10, 11, 12, 13, 14, 15, 16, 17, 18, 19, 20, 7, 21, 25, 26, 27, 28, 29, 30, 31, 32, 33, 34, 35, 36] (by decide +kernel) (by decide +kernel)
set_option maxRecDepth 20000 in
theorem gX0_standAfter_X0_standOn : GoodIn wsX0_standAfter (va_wsS RX0 47 yX0_standOn wsX0_standOn) := goodIn_app (goodIn_of _ (by decide +kernel)) ggX0_standAfter_X0_standOn
set_option maxRecDepth 20000 in
theorem ggX0_standAfter_X2_turned : GoodIn wsX0_standAfter wsX2_turned := goodIn_r _ [24] (by decide +kernel) (by decide +kernel)
set_option maxRecDepth 20000 in
theorem gX0_standAfter_X2_turned : GoodIn wsX0_standAfter (va_wsS RX0 50 yX2_turned wsX2_turned) := goodIn_app (goodIn_of _ (by decide +kernel)) ggX0_standAfter_X2_turned
set_option maxRecDepth 20000 in
theorem ggX0_standAfter_X0_standOf : GoodIn wsX0_standAfter wsX0_standOf := goodIn_r _ [21] (by decide +kernel) (by decide +kernel)
set_option maxRecDepth 20000 in
theorem gX0_standAfter_X0_standOf : GoodIn wsX0_standAfter (va_wsS RX0 53 yX0_standOf wsX0_standOf) := goodIn_app (goodIn_of _ (by decide +kernel)) ggX0_standAfter_X0_standOf
theorem dX0_standAfter_0 : decode cX0_standAfter 0 = .ok (.iload_n 1, 1) := by decide +kernel
theorem dX0_standAfter_1 : decode cX0_standAfter 1 = .ok (.iconst 4, 1) := by decide +kernel
theorem dX0_standAfter_2 : decode cX0_standAfter 2 = .ok (.idiv, 1) := by decide +kernel
theorem dX0_standAfter_3 : decode cX0_standAfter 3 = .ok (.istore_n 3, 1) := by decide +kernel
theorem dX0_standAfter_4 : decode cX0_standAfter 4 = .ok (.iload_n 1, 1) := by decide +kernel
theorem dX0_standAfter_5 : decode cX0_standAfter 5 = .ok (.iconst 4, 1) := by decide +kernel
theorem dX0_standAfter_6 : decode cX0_standAfter 6 = .ok (.irem, 1) := by decide +kernel
theorem dX0_standAfter_7 : decode cX0_standAfter 7 = .ok (.istore 4, 2) := by decide +kernel
theorem dX0_standAfter_9 : decode cX0_standAfter 9 = .ok (.iload_n 2, 1) := by decide +kernel
theorem dX0_standAfter_10 : decode cX0_standAfter 10 = .ok (.tableswitch 82 0 3 #[30, 43, 60, 71], 30) := by decide +kernel
theorem dX0_standAfter_40 : decode cX0_standAfter 40 = .ok (.aload_n 0, 1) := by decide +kernel
theorem dX0_standAfter_41 : decode cX0_standAfter 41 = .ok (.iload_n 3, 1) := by decide +kernel
theorem dX0_standAfter_42 : decode cX0_standAfter 42 = .ok (.iload 4, 2) := by decide +kernel
theorem dX0_standAfter_44 : decode cX0_standAfter 44 = .ok (.invokestatic 41, 3) := by decide +kernel
theorem dX0_standAfter_47 : decode cX0_standAfter 47 = .ok (.iload 4, 2) := by decide +kernel
theorem dX0_standAfter_49 : decode cX0_standAfter 49 = .ok (.invokestatic 47, 3) := by decide +kernel
theorem dX0_standAfter_52 : decode cX0_standAfter 52 = .ok (.ireturn, 1) := by decide +kernel
theorem dX0_standAfter_53 : decode cX0_standAfter 53 = .ok (.aload_n 0, 1) := by decide +kernel
theorem dX0_standAfter_54 : decode cX0_standAfter 54 = .ok (.iload_n 3, 1) := by decide +kernel
theorem dX0_standAfter_55 : decode cX0_standAfter 55 = .ok (.iload 4, 2) := by decide +kernel
theorem dX0_standAfter_57 : decode cX0_standAfter 57 = .ok (.iconst 2, 1) := by decide +kernel
theorem dX0_standAfter_58 : decode cX0_standAfter 58 = .ok (.invokestatic 50, 3) := by decide +kernel
theorem dX0_standAfter_61 : decode cX0_standAfter 61 = .ok (.invokestatic 41, 3) := by decide +kernel
theorem dX0_standAfter_64 : decode cX0_standAfter 64 = .ok (.iload 4, 2) := by decide +kernel
theorem dX0_standAfter_66 : decode cX0_standAfter 66 = .ok (.invokestatic 47, 3) := by decide +kernel
theorem dX0_standAfter_69 : decode cX0_standAfter 69 = .ok (.ireturn, 1) := by decide +kernel
theorem dX0_standAfter_70 : decode cX0_standAfter 70 = .ok (.iload_n 3, 1) := by decide +kernel
theorem dX0_standAfter_71 : decode cX0_standAfter 71 = .ok (.iload 4, 2) := by decide +kernel
theorem dX0_standAfter_73 : decode cX0_standAfter 73 = .ok (.iconst 3, 1) := by decide +kernel
theorem dX0_standAfter_74 : decode cX0_standAfter 74 = .ok (.invokestatic 50, 3) := by decide +kernel
theorem dX0_standAfter_77 : decode cX0_standAfter 77 = .ok (.invokestatic 53, 3) := by decide +kernel
theorem dX0_standAfter_80 : decode cX0_standAfter 80 = .ok (.ireturn, 1) := by decide +kernel
theorem dX0_standAfter_81 : decode cX0_standAfter 81 = .ok (.iload_n 3, 1) := by decide +kernel
theorem dX0_standAfter_82 : decode cX0_standAfter 82 = .ok (.iload 4, 2) := by decide +kernel
theorem dX0_standAfter_84 : decode cX0_standAfter 84 = .ok (.iconst 1, 1) := by decide +kernel
theorem dX0_standAfter_85 : decode cX0_standAfter 85 = .ok (.invokestatic 50, 3) := by decide +kernel
theorem dX0_standAfter_88 : decode cX0_standAfter 88 = .ok (.invokestatic 53, 3) := by decide +kernel
theorem dX0_standAfter_91 : decode cX0_standAfter 91 = .ok (.ireturn, 1) := by decide +kernel
theorem dX0_standAfter_92 : decode cX0_standAfter 92 = .ok (.iload_n 3, 1) := by decide +kernel
theorem dX0_standAfter_93 : decode cX0_standAfter 93 = .ok (.iload 4, 2) := by decide +kernel
theorem dX0_standAfter_95 : decode cX0_standAfter 95 = .ok (.iconst 2, 1) := by decide +kernel
theorem dX0_standAfter_96 : decode cX0_standAfter 96 = .ok (.invokestatic 50, 3) := by decide +kernel
theorem dX0_standAfter_99 : decode cX0_standAfter 99 = .ok (.invokestatic 53, 3) := by decide +kernel
theorem dX0_standAfter_102 : decode cX0_standAfter 102 = .ok (.ireturn, 1) := by decide +kernel
set_option maxRecDepth 20000 in
theorem ggX0_standOn_X1_isBlockOrPit : GoodIn wsX0_standOn wsX1_isBlockOrPit := goodIn_r _ [5, 6, 7, 8, 4, 9, 10, 15, 16, 17, 18, 19, 20, 21, 22, 23, 24, 25, 26] (by decide +kernel) (by decide +kernel)
set_option maxRecDepth 20000 in
theorem gX0_standOn_X1_isBlockOrPit : GoodIn wsX0_standOn (wsV RX0 56 RX1 yX1_isBlockOrPit wsX1_isBlockOrPit) := goodIn_app (goodIn_of _ (by decide +kernel)) ggX0_standOn_X1_isBlockOrPit
set_option maxRecDepth 20000 in
theorem ggX0_standOn_X0_standOf : GoodIn wsX0_standOn wsX0_standOf := goodIn_r _ [14] (by decide +kernel) (by decide +kernel)
set_option maxRecDepth 20000 in
theorem gX0_standOn_X0_standOf : GoodIn wsX0_standOn (va_wsS RX0 53 yX0_standOf wsX0_standOf) := goodIn_app (goodIn_of _ (by decide +kernel)) ggX0_standOn_X0_standOf
theorem dX0_standOn_0 : decode cX0_standOn 0 = .ok (.aload_n 0, 1) := by decide +kernel
theorem dX0_standOn_1 : decode cX0_standOn 1 = .ok (.iload_n 1, 1) := by decide +kernel
theorem dX0_standOn_2 : decode cX0_standOn 2 = .ok (.invokevirtual 56, 3) := by decide +kernel
theorem dX0_standOn_5 : decode cX0_standOn 5 = .ok (.ifCond .eq 7, 3) := by decide +kernel
theorem dX0_standOn_8 : decode cX0_standOn 8 = .ok (.iconst (-1), 1) := by decide +kernel
theorem dX0_standOn_9 : decode cX0_standOn 9 = .ok (.goto 8, 3) := by decide +kernel
theorem dX0_standOn_12 : decode cX0_standOn 12 = .ok (.iload_n 1, 1) := by decide +kernel
theorem dX0_standOn_13 : decode cX0_standOn 13 = .ok (.iload_n 2, 1) := by decide +kernel
theorem dX0_standOn_14 : decode cX0_standOn 14 = .ok (.invokestatic 53, 3) := by decide +kernel
theorem dX0_standOn_17 : decode cX0_standOn 17 = .ok (.ireturn, 1) := by decide +kernel
theorem dX0_forgetDistances_0 : decode cX0_forgetDistances 0 = .ok (.iconst 0, 1) := by decide +kernel
theorem dX0_forgetDistances_1 : decode cX0_forgetDistances 1 = .ok (.istore_n 1, 1) := by decide +kernel
theorem dX0_forgetDistances_2 : decode cX0_forgetDistances 2 = .ok (.iload_n 1, 1) := by decide +kernel
theorem dX0_forgetDistances_3 : decode cX0_forgetDistances 3 = .ok (.aload_n 0, 1) := by decide +kernel
theorem dX0_forgetDistances_4 : decode cX0_forgetDistances 4 = .ok (.getfield 11, 3) := by decide +kernel
theorem dX0_forgetDistances_7 : decode cX0_forgetDistances 7 = .ok (.arraylength, 1) := by decide +kernel
theorem dX0_forgetDistances_8 : decode cX0_forgetDistances 8 = .ok (.if_icmp .ge 17, 3) := by decide +kernel
theorem dX0_forgetDistances_11 : decode cX0_forgetDistances 11 = .ok (.aload_n 0, 1) := by decide +kernel
theorem dX0_forgetDistances_12 : decode cX0_forgetDistances 12 = .ok (.getfield 11, 3) := by decide +kernel
theorem dX0_forgetDistances_15 : decode cX0_forgetDistances 15 = .ok (.iload_n 1, 1) := by decide +kernel
theorem dX0_forgetDistances_16 : decode cX0_forgetDistances 16 = .ok (.ldc 33, 2) := by decide +kernel
theorem dX0_forgetDistances_18 : decode cX0_forgetDistances 18 = .ok (.iastore, 1) := by decide +kernel
theorem dX0_forgetDistances_19 : decode cX0_forgetDistances 19 = .ok (.iinc 1 1, 3) := by decide +kernel
theorem dX0_forgetDistances_22 : decode cX0_forgetDistances 22 = .ok (.goto (-20), 3) := by decide +kernel
theorem dX0_forgetDistances_25 : decode cX0_forgetDistances 25 = .ok (.return_, 1) := by decide +kernel
theorem dX0_distance_0 : decode cX0_distance 0 = .ok (.iload_n 1, 1) := by decide +kernel
theorem dX0_distance_1 : decode cX0_distance 1 = .ok (.ifCond .lt 21, 3) := by decide +kernel
theorem dX0_distance_4 : decode cX0_distance 4 = .ok (.iload_n 1, 1) := by decide +kernel
theorem dX0_distance_5 : decode cX0_distance 5 = .ok (.aload_n 0, 1) := by decide +kernel
theorem dX0_distance_6 : decode cX0_distance 6 = .ok (.getfield 11, 3) := by decide +kernel
theorem dX0_distance_9 : decode cX0_distance 9 = .ok (.arraylength, 1) := by decide +kernel
theorem dX0_distance_10 : decode cX0_distance 10 = .ok (.if_icmp .ge 12, 3) := by decide +kernel
theorem dX0_distance_13 : decode cX0_distance 13 = .ok (.aload_n 0, 1) := by decide +kernel
theorem dX0_distance_14 : decode cX0_distance 14 = .ok (.getfield 11, 3) := by decide +kernel
theorem dX0_distance_17 : decode cX0_distance 17 = .ok (.iload_n 1, 1) := by decide +kernel
theorem dX0_distance_18 : decode cX0_distance 18 = .ok (.iaload, 1) := by decide +kernel
theorem dX0_distance_19 : decode cX0_distance 19 = .ok (.goto 5, 3) := by decide +kernel
theorem dX0_distance_22 : decode cX0_distance 22 = .ok (.ldc 33, 2) := by decide +kernel
theorem dX0_distance_24 : decode cX0_distance 24 = .ok (.ireturn, 1) := by decide +kernel
theorem dX0_setDistance_0 : decode cX0_setDistance 0 = .ok (.iload_n 1, 1) := by decide +kernel
theorem dX0_setDistance_1 : decode cX0_setDistance 1 = .ok (.ifCond .lt 19, 3) := by decide +kernel
theorem dX0_setDistance_4 : decode cX0_setDistance 4 = .ok (.iload_n 1, 1) := by decide +kernel
theorem dX0_setDistance_5 : decode cX0_setDistance 5 = .ok (.aload_n 0, 1) := by decide +kernel
theorem dX0_setDistance_6 : decode cX0_setDistance 6 = .ok (.getfield 11, 3) := by decide +kernel
theorem dX0_setDistance_9 : decode cX0_setDistance 9 = .ok (.arraylength, 1) := by decide +kernel
theorem dX0_setDistance_10 : decode cX0_setDistance 10 = .ok (.if_icmp .ge 10, 3) := by decide +kernel
theorem dX0_setDistance_13 : decode cX0_setDistance 13 = .ok (.aload_n 0, 1) := by decide +kernel
theorem dX0_setDistance_14 : decode cX0_setDistance 14 = .ok (.getfield 11, 3) := by decide +kernel
theorem dX0_setDistance_17 : decode cX0_setDistance 17 = .ok (.iload_n 1, 1) := by decide +kernel
theorem dX0_setDistance_18 : decode cX0_setDistance 18 = .ok (.iload_n 2, 1) := by decide +kernel
theorem dX0_setDistance_19 : decode cX0_setDistance 19 = .ok (.iastore, 1) := by decide +kernel
theorem dX0_setDistance_20 : decode cX0_setDistance 20 = .ok (.return_, 1) := by decide +kernel
set_option maxRecDepth 20000 in
theorem ggX0_leastDistance_X0_standOf : GoodIn wsX0_leastDistance wsX0_standOf := goodIn_r _ [9] (by decide +kernel) (by decide +kernel)
set_option maxRecDepth 20000 in
theorem gX0_leastDistance_X0_standOf : GoodIn wsX0_leastDistance (va_wsS RX0 53 yX0_standOf wsX0_standOf) := goodIn_app (goodIn_of _ (by decide +kernel)) ggX0_leastDistance_X0_standOf
set_option maxRecDepth 20000 in
theorem ggX0_leastDistance_X0_distance : GoodIn wsX0_leastDistance wsX0_distance := goodIn_r _ [13, 14, 1, 15, 16] (by decide +kernel) (by decide +kernel)
set_option maxRecDepth 20000 in
theorem gX0_leastDistance_X0_distance : GoodIn wsX0_leastDistance (wsV RX0 29 RX0 yX0_distance wsX0_distance) := goodIn_app (goodIn_of _ (by decide +kernel)) ggX0_leastDistance_X0_distance
theorem dX0_leastDistance_0 : decode cX0_leastDistance 0 = .ok (.ldc 33, 2) := by decide +kernel
theorem dX0_leastDistance_2 : decode cX0_leastDistance 2 = .ok (.istore_n 2, 1) := by decide +kernel
theorem dX0_leastDistance_3 : decode cX0_leastDistance 3 = .ok (.iconst 0, 1) := by decide +kernel
theorem dX0_leastDistance_4 : decode cX0_leastDistance 4 = .ok (.istore_n 3, 1) := by decide +kernel
theorem dX0_leastDistance_5 : decode cX0_leastDistance 5 = .ok (.iload_n 3, 1) := by decide +kernel
theorem dX0_leastDistance_6 : decode cX0_leastDistance 6 = .ok (.iconst 4, 1) := by decide +kernel
theorem dX0_leastDistance_7 : decode cX0_leastDistance 7 = .ok (.if_icmp .ge 23, 3) := by decide +kernel
theorem dX0_leastDistance_10 : decode cX0_leastDistance 10 = .ok (.iload_n 2, 1) := by decide +kernel
theorem dX0_leastDistance_11 : decode cX0_leastDistance 11 = .ok (.aload_n 0, 1) := by decide +kernel
theorem dX0_leastDistance_12 : decode cX0_leastDistance 12 = .ok (.iload_n 1, 1) := by decide +kernel
theorem dX0_leastDistance_13 : decode cX0_leastDistance 13 = .ok (.iload_n 3, 1) := by decide +kernel
theorem dX0_leastDistance_14 : decode cX0_leastDistance 14 = .ok (.invokestatic 53, 3) := by decide +kernel
theorem dX0_leastDistance_17 : decode cX0_leastDistance 17 = .ok (.invokevirtual 29, 3) := by decide +kernel
theorem dX0_leastDistance_20 : decode cX0_leastDistance 20 = .ok (.invokestatic 62, 3) := by decide +kernel
theorem dX0_leastDistance_23 : decode cX0_leastDistance 23 = .ok (.istore_n 2, 1) := by decide +kernel
theorem dX0_leastDistance_24 : decode cX0_leastDistance 24 = .ok (.iinc 3 1, 3) := by decide +kernel
theorem dX0_leastDistance_27 : decode cX0_leastDistance 27 = .ok (.goto (-22), 3) := by decide +kernel
theorem dX0_leastDistance_30 : decode cX0_leastDistance 30 = .ok (.iload_n 2, 1) := by decide +kernel
theorem dX0_leastDistance_31 : decode cX0_leastDistance 31 = .ok (.ldc 33, 2) := by decide +kernel
theorem dX0_leastDistance_33 : decode cX0_leastDistance 33 = .ok (.if_icmp .ne 7, 3) := by decide +kernel
theorem dX0_leastDistance_36 : decode cX0_leastDistance 36 = .ok (.iconst (-1), 1) := by decide +kernel
theorem dX0_leastDistance_37 : decode cX0_leastDistance 37 = .ok (.goto 4, 3) := by decide +kernel
theorem dX0_leastDistance_40 : decode cX0_leastDistance 40 = .ok (.iload_n 2, 1) := by decide +kernel
theorem dX0_leastDistance_41 : decode cX0_leastDistance 41 = .ok (.ireturn, 1) := by decide +kernel
set_option maxRecDepth 20000 in
theorem ggX3_init_X1_init : GoodIn wsX3_init wsX1_init := goodIn_r _ [10, 11, 2, 3, 12, 13, 14, 15, 16, 17, 18, 19, 20, 21, 22, 23, 24, 25, 26, 7, 27, 28, 29, 30, 31, 32, 33, 34, 35, 36, 37, 38, 39, 40, 41, 42, 43, 44, 45, 46, 47, 48, 49, 50, 51, 52, 56, 57, 58, 59, 60, 61, 62, 63, 64, 65, 66, 67, 68, 69, 70, 71, 72, 73, 74, 75, 76, 77] (by decide +kernel) (by decide +kernel)
set_option maxRecDepth 20000 in
theorem gX3_init_X1_init : GoodIn wsX3_init (wsX1_init) := ggX3_init_X1_init
theorem dX3_init_0 : decode cX3_init 0 = .ok (.aload_n 0, 1) := by decide +kernel
theorem dX3_init_1 : decode cX3_init 1 = .ok (.invokespecial 3, 3) := by decide +kernel
theorem dX3_init_4 : decode cX3_init 4 = .ok (.aload_n 0, 1) := by decide +kernel
theorem dX3_init_5 : decode cX3_init 5 = .ok (.bipush 14, 2) := by decide +kernel
theorem dX3_init_7 : decode cX3_init 7 = .ok (.anewarray 9, 3) := by decide +kernel
theorem dX3_init_10 : decode cX3_init 10 = .ok (.putfield 11, 3) := by decide +kernel
theorem dX3_init_13 : decode cX3_init 13 = .ok (.iconst 0, 1) := by decide +kernel
theorem dX3_init_14 : decode cX3_init 14 = .ok (.istore_n 1, 1) := by decide +kernel
theorem dX3_init_15 : decode cX3_init 15 = .ok (.iload_n 1, 1) := by decide +kernel
theorem dX3_init_16 : decode cX3_init 16 = .ok (.aload_n 0, 1) := by decide +kernel
theorem dX3_init_17 : decode cX3_init 17 = .ok (.getfield 11, 3) := by decide +kernel
theorem dX3_init_20 : decode cX3_init 20 = .ok (.arraylength, 1) := by decide +kernel
theorem dX3_init_21 : decode cX3_init 21 = .ok (.if_icmp .ge 22, 3) := by decide +kernel
theorem dX3_init_24 : decode cX3_init 24 = .ok (.aload_n 0, 1) := by decide +kernel
theorem dX3_init_25 : decode cX3_init 25 = .ok (.getfield 11, 3) := by decide +kernel
theorem dX3_init_28 : decode cX3_init 28 = .ok (.iload_n 1, 1) := by decide +kernel
theorem dX3_init_29 : decode cX3_init 29 = .ok (.new 9, 3) := by decide +kernel
theorem dX3_init_32 : decode cX3_init 32 = .ok (.dup, 1) := by decide +kernel
theorem dX3_init_33 : decode cX3_init 33 = .ok (.invokespecial 17, 3) := by decide +kernel
theorem dX3_init_36 : decode cX3_init 36 = .ok (.aastore, 1) := by decide +kernel
theorem dX3_init_37 : decode cX3_init 37 = .ok (.iinc 1 1, 3) := by decide +kernel
theorem dX3_init_40 : decode cX3_init 40 = .ok (.goto (-25), 3) := by decide +kernel
theorem dX3_init_43 : decode cX3_init 43 = .ok (.return_, 1) := by decide +kernel
set_option maxRecDepth 20000 in
theorem ggX3_remember_X3_stateAt : GoodIn wsX3_remember wsX3_stateAt := goodIn_r _ [12, 2, 45, 46, 47] (by decide +kernel) (by decide +kernel)
set_option maxRecDepth 20000 in
theorem gX3_remember_X3_stateAt : GoodIn wsX3_remember (wsV RX3 22 RX3 yX3_stateAt wsX3_stateAt) := goodIn_app (goodIn_of _ (by decide +kernel)) ggX3_remember_X3_stateAt
set_option maxRecDepth 20000 in
theorem ggX3_remember_X1_copyFrom : GoodIn wsX3_remember wsX1_copyFrom := goodIn_r _ [17, 18, 19, 20, 21, 22, 23, 24, 25, 26, 27, 28, 29, 30, 31, 32, 33, 34, 35, 36, 37, 38, 39, 40, 41, 42, 43, 44, 48, 49, 50, 51, 52, 53, 54, 55, 56, 57, 58, 59, 60, 61, 62, 63, 64, 65, 66, 67, 68, 69] (by decide +kernel) (by decide +kernel)
set_option maxRecDepth 20000 in
theorem gX3_remember_X1_copyFrom : GoodIn wsX3_remember (wsV RX3 26 RX1 yX1_copyFrom wsX1_copyFrom) := goodIn_app (goodIn_of _ (by decide +kernel)) ggX3_remember_X1_copyFrom
theorem dX3_remember_0 : decode cX3_remember 0 = .ok (.aload_n 0, 1) := by decide +kernel
theorem dX3_remember_1 : decode cX3_remember 1 = .ok (.aload_n 0, 1) := by decide +kernel
theorem dX3_remember_2 : decode cX3_remember 2 = .ok (.getfield 18, 3) := by decide +kernel
theorem dX3_remember_5 : decode cX3_remember 5 = .ok (.invokevirtual 22, 3) := by decide +kernel
theorem dX3_remember_8 : decode cX3_remember 8 = .ok (.astore_n 2, 1) := by decide +kernel
theorem dX3_remember_9 : decode cX3_remember 9 = .ok (.aload_n 2, 1) := by decide +kernel
theorem dX3_remember_10 : decode cX3_remember 10 = .ok (.ifnonnull 4, 3) := by decide +kernel
theorem dX3_remember_13 : decode cX3_remember 13 = .ok (.return_, 1) := by decide +kernel
theorem dX3_remember_14 : decode cX3_remember 14 = .ok (.aload_n 2, 1) := by decide +kernel
theorem dX3_remember_15 : decode cX3_remember 15 = .ok (.aload_n 1, 1) := by decide +kernel
theorem dX3_remember_16 : decode cX3_remember 16 = .ok (.invokevirtual 26, 3) := by decide +kernel
theorem dX3_remember_19 : decode cX3_remember 19 = .ok (.aload_n 0, 1) := by decide +kernel
theorem dX3_remember_20 : decode cX3_remember 20 = .ok (.aload_n 0, 1) := by decide +kernel
theorem dX3_remember_21 : decode cX3_remember 21 = .ok (.getfield 18, 3) := by decide +kernel
theorem dX3_remember_24 : decode cX3_remember 24 = .ok (.iconst 1, 1) := by decide +kernel
theorem dX3_remember_25 : decode cX3_remember 25 = .ok (.iadd, 1) := by decide +kernel
theorem dX3_remember_26 : decode cX3_remember 26 = .ok (.aload_n 0, 1) := by decide +kernel
theorem dX3_remember_27 : decode cX3_remember 27 = .ok (.getfield 11, 3) := by decide +kernel
theorem dX3_remember_30 : decode cX3_remember 30 = .ok (.arraylength, 1) := by decide +kernel
theorem dX3_remember_31 : decode cX3_remember 31 = .ok (.if_icmp .ge 12, 3) := by decide +kernel
theorem dX3_remember_34 : decode cX3_remember 34 = .ok (.aload_n 0, 1) := by decide +kernel
theorem dX3_remember_35 : decode cX3_remember 35 = .ok (.getfield 18, 3) := by decide +kernel
theorem dX3_remember_38 : decode cX3_remember 38 = .ok (.iconst 1, 1) := by decide +kernel
theorem dX3_remember_39 : decode cX3_remember 39 = .ok (.iadd, 1) := by decide +kernel
theorem dX3_remember_40 : decode cX3_remember 40 = .ok (.goto 4, 3) := by decide +kernel
theorem dX3_remember_43 : decode cX3_remember 43 = .ok (.iconst 0, 1) := by decide +kernel
theorem dX3_remember_44 : decode cX3_remember 44 = .ok (.putfield 18, 3) := by decide +kernel
theorem dX3_remember_47 : decode cX3_remember 47 = .ok (.aload_n 0, 1) := by decide +kernel
theorem dX3_remember_48 : decode cX3_remember 48 = .ok (.aload_n 0, 1) := by decide +kernel
theorem dX3_remember_49 : decode cX3_remember 49 = .ok (.getfield 30, 3) := by decide +kernel
theorem dX3_remember_52 : decode cX3_remember 52 = .ok (.iconst 1, 1) := by decide +kernel
theorem dX3_remember_53 : decode cX3_remember 53 = .ok (.iadd, 1) := by decide +kernel
theorem dX3_remember_54 : decode cX3_remember 54 = .ok (.aload_n 0, 1) := by decide +kernel
theorem dX3_remember_55 : decode cX3_remember 55 = .ok (.getfield 11, 3) := by decide +kernel
theorem dX3_remember_58 : decode cX3_remember 58 = .ok (.arraylength, 1) := by decide +kernel
theorem dX3_remember_59 : decode cX3_remember 59 = .ok (.invokestatic 33, 3) := by decide +kernel
theorem dX3_remember_62 : decode cX3_remember 62 = .ok (.putfield 30, 3) := by decide +kernel
theorem dX3_remember_65 : decode cX3_remember 65 = .ok (.return_, 1) := by decide +kernel
set_option maxRecDepth 20000 in
theorem ggX3_takeBack_X3_stateAt : GoodIn wsX3_takeBack wsX3_stateAt := goodIn_r _ [8, 2, 41, 42, 43] (by decide +kernel) (by decide +kernel)
set_option maxRecDepth 20000 in
theorem gX3_takeBack_X3_stateAt : GoodIn wsX3_takeBack (wsV RX3 22 RX3 yX3_stateAt wsX3_stateAt) := goodIn_app (goodIn_of _ (by decide +kernel)) ggX3_takeBack_X3_stateAt
set_option maxRecDepth 20000 in
theorem ggX3_takeBack_X1_copyFrom : GoodIn wsX3_takeBack wsX1_copyFrom := goodIn_r _ [13, 14, 15, 16, 17, 18, 19, 20, 21, 22, 23, 24, 25, 26, 27, 28, 29, 30, 31, 32, 33, 34, 35, 36, 37, 38, 39, 40, 44, 45, 46, 47, 48, 49, 50, 51, 52, 53, 54, 55, 56, 57, 58, 59, 60, 61, 62, 63, 64, 65] (by decide +kernel) (by decide +kernel)
set_option maxRecDepth 20000 in
theorem gX3_takeBack_X1_copyFrom : GoodIn wsX3_takeBack (wsV RX3 26 RX1 yX1_copyFrom wsX1_copyFrom) := goodIn_app (goodIn_of _ (by decide +kernel)) ggX3_takeBack_X1_copyFrom
theorem dX3_takeBack_0 : decode cX3_takeBack 0 = .ok (.aload_n 0, 1) := by decide +kernel
theorem dX3_takeBack_1 : decode cX3_takeBack 1 = .ok (.getfield 18, 3) := by decide +kernel
theorem dX3_takeBack_4 : decode cX3_takeBack 4 = .ok (.ifCond .le 12, 3) := by decide +kernel
theorem dX3_takeBack_7 : decode cX3_takeBack 7 = .ok (.aload_n 0, 1) := by decide +kernel
theorem dX3_takeBack_8 : decode cX3_takeBack 8 = .ok (.getfield 18, 3) := by decide +kernel
theorem dX3_takeBack_11 : decode cX3_takeBack 11 = .ok (.iconst 1, 1) := by decide +kernel
theorem dX3_takeBack_12 : decode cX3_takeBack 12 = .ok (.isub, 1) := by decide +kernel
theorem dX3_takeBack_13 : decode cX3_takeBack 13 = .ok (.goto 10, 3) := by decide +kernel
theorem dX3_takeBack_16 : decode cX3_takeBack 16 = .ok (.aload_n 0, 1) := by decide +kernel
theorem dX3_takeBack_17 : decode cX3_takeBack 17 = .ok (.getfield 11, 3) := by decide +kernel
theorem dX3_takeBack_20 : decode cX3_takeBack 20 = .ok (.arraylength, 1) := by decide +kernel
theorem dX3_takeBack_21 : decode cX3_takeBack 21 = .ok (.iconst 1, 1) := by decide +kernel
theorem dX3_takeBack_22 : decode cX3_takeBack 22 = .ok (.isub, 1) := by decide +kernel
theorem dX3_takeBack_23 : decode cX3_takeBack 23 = .ok (.istore_n 2, 1) := by decide +kernel
theorem dX3_takeBack_24 : decode cX3_takeBack 24 = .ok (.aload_n 0, 1) := by decide +kernel
theorem dX3_takeBack_25 : decode cX3_takeBack 25 = .ok (.iload_n 2, 1) := by decide +kernel
theorem dX3_takeBack_26 : decode cX3_takeBack 26 = .ok (.invokevirtual 22, 3) := by decide +kernel
theorem dX3_takeBack_29 : decode cX3_takeBack 29 = .ok (.astore_n 3, 1) := by decide +kernel
theorem dX3_takeBack_30 : decode cX3_takeBack 30 = .ok (.aload_n 3, 1) := by decide +kernel
theorem dX3_takeBack_31 : decode cX3_takeBack 31 = .ok (.ifnull 10, 3) := by decide +kernel
theorem dX3_takeBack_34 : decode cX3_takeBack 34 = .ok (.aload_n 0, 1) := by decide +kernel
theorem dX3_takeBack_35 : decode cX3_takeBack 35 = .ok (.getfield 30, 3) := by decide +kernel
theorem dX3_takeBack_38 : decode cX3_takeBack 38 = .ok (.ifCond .gt 4, 3) := by decide +kernel
theorem dX3_takeBack_41 : decode cX3_takeBack 41 = .ok (.return_, 1) := by decide +kernel
theorem dX3_takeBack_42 : decode cX3_takeBack 42 = .ok (.aload_n 1, 1) := by decide +kernel
theorem dX3_takeBack_43 : decode cX3_takeBack 43 = .ok (.aload_n 3, 1) := by decide +kernel
theorem dX3_takeBack_44 : decode cX3_takeBack 44 = .ok (.invokevirtual 26, 3) := by decide +kernel
theorem dX3_takeBack_47 : decode cX3_takeBack 47 = .ok (.aload_n 0, 1) := by decide +kernel
theorem dX3_takeBack_48 : decode cX3_takeBack 48 = .ok (.iload_n 2, 1) := by decide +kernel
theorem dX3_takeBack_49 : decode cX3_takeBack 49 = .ok (.putfield 18, 3) := by decide +kernel
theorem dX3_takeBack_52 : decode cX3_takeBack 52 = .ok (.aload_n 0, 1) := by decide +kernel
theorem dX3_takeBack_53 : decode cX3_takeBack 53 = .ok (.dup, 1) := by decide +kernel
theorem dX3_takeBack_54 : decode cX3_takeBack 54 = .ok (.getfield 30, 3) := by decide +kernel
theorem dX3_takeBack_57 : decode cX3_takeBack 57 = .ok (.iconst 1, 1) := by decide +kernel
theorem dX3_takeBack_58 : decode cX3_takeBack 58 = .ok (.isub, 1) := by decide +kernel
theorem dX3_takeBack_59 : decode cX3_takeBack 59 = .ok (.putfield 30, 3) := by decide +kernel
theorem dX3_takeBack_62 : decode cX3_takeBack 62 = .ok (.return_, 1) := by decide +kernel
theorem dX3_stateAt_0 : decode cX3_stateAt 0 = .ok (.iload_n 1, 1) := by decide +kernel
theorem dX3_stateAt_1 : decode cX3_stateAt 1 = .ok (.ifCond .lt 21, 3) := by decide +kernel
theorem dX3_stateAt_4 : decode cX3_stateAt 4 = .ok (.iload_n 1, 1) := by decide +kernel
theorem dX3_stateAt_5 : decode cX3_stateAt 5 = .ok (.aload_n 0, 1) := by decide +kernel
theorem dX3_stateAt_6 : decode cX3_stateAt 6 = .ok (.getfield 11, 3) := by decide +kernel
theorem dX3_stateAt_9 : decode cX3_stateAt 9 = .ok (.arraylength, 1) := by decide +kernel
theorem dX3_stateAt_10 : decode cX3_stateAt 10 = .ok (.if_icmp .ge 12, 3) := by decide +kernel
theorem dX3_stateAt_13 : decode cX3_stateAt 13 = .ok (.aload_n 0, 1) := by decide +kernel
theorem dX3_stateAt_14 : decode cX3_stateAt 14 = .ok (.getfield 11, 3) := by decide +kernel
theorem dX3_stateAt_17 : decode cX3_stateAt 17 = .ok (.iload_n 1, 1) := by decide +kernel
theorem dX3_stateAt_18 : decode cX3_stateAt 18 = .ok (.aaload, 1) := by decide +kernel
theorem dX3_stateAt_19 : decode cX3_stateAt 19 = .ok (.goto 4, 3) := by decide +kernel
theorem dX3_stateAt_22 : decode cX3_stateAt 22 = .ok (.aconst_null, 1) := by decide +kernel
theorem dX3_stateAt_23 : decode cX3_stateAt 23 = .ok (.areturn, 1) := by decide +kernel
set_option maxRecDepth 20000 in
theorem ggX5_init_X1_init : GoodIn wsX5_init wsX1_init := goodIn_r _ [10, 11, 2, 3, 12, 13, 14, 15, 16, 17, 18, 19, 20, 21, 22, 23, 24, 25, 26, 6, 27, 28, 29, 30, 31, 32, 33, 34, 35, 36, 37, 38, 39, 40, 41, 42, 43, 44, 45, 46, 47, 48, 49, 50, 51, 52, 53, 54, 55, 56, 57, 58, 59, 60, 61, 62, 63, 64, 67, 68, 69, 70, 71, 72, 73, 74, 75, 76] (by decide +kernel) (by decide +kernel)
set_option maxRecDepth 20000 in
theorem gX5_init_X1_init : GoodIn wsX5_init (wsX1_init) := ggX5_init_X1_init
theorem dX5_init_0 : decode cX5_init 0 = .ok (.aload_n 0, 1) := by decide +kernel
theorem dX5_init_1 : decode cX5_init 1 = .ok (.invokespecial 1, 3) := by decide +kernel
theorem dX5_init_4 : decode cX5_init 4 = .ok (.aload_n 0, 1) := by decide +kernel
theorem dX5_init_5 : decode cX5_init 5 = .ok (.new 7, 3) := by decide +kernel
theorem dX5_init_8 : decode cX5_init 8 = .ok (.dup, 1) := by decide +kernel
theorem dX5_init_9 : decode cX5_init 9 = .ok (.invokespecial 9, 3) := by decide +kernel
theorem dX5_init_12 : decode cX5_init 12 = .ok (.putfield 10, 3) := by decide +kernel
theorem dX5_init_15 : decode cX5_init 15 = .ok (.return_, 1) := by decide +kernel
theorem dX7_init_0 : decode cX7_init 0 = .ok (.aload_n 0, 1) := by decide +kernel
theorem dX7_init_1 : decode cX7_init 1 = .ok (.invokespecial 3, 3) := by decide +kernel
theorem dX7_init_4 : decode cX7_init 4 = .ok (.aload_n 0, 1) := by decide +kernel
theorem dX7_init_5 : decode cX7_init 5 = .ok (.bipush 120, 2) := by decide +kernel
theorem dX7_init_7 : decode cX7_init 7 = .ok (.newarray .char, 2) := by decide +kernel
theorem dX7_init_9 : decode cX7_init 9 = .ok (.putfield 9, 3) := by decide +kernel
theorem dX7_init_12 : decode cX7_init 12 = .ok (.return_, 1) := by decide +kernel
theorem dX7_add_0 : decode cX7_add 0 = .ok (.aload_n 0, 1) := by decide +kernel
theorem dX7_add_1 : decode cX7_add 1 = .ok (.getfield 15, 3) := by decide +kernel
theorem dX7_add_4 : decode cX7_add 4 = .ok (.ifCond .lt 36, 3) := by decide +kernel
theorem dX7_add_7 : decode cX7_add 7 = .ok (.aload_n 0, 1) := by decide +kernel
theorem dX7_add_8 : decode cX7_add 8 = .ok (.getfield 15, 3) := by decide +kernel
theorem dX7_add_11 : decode cX7_add 11 = .ok (.aload_n 0, 1) := by decide +kernel
theorem dX7_add_12 : decode cX7_add 12 = .ok (.getfield 9, 3) := by decide +kernel
theorem dX7_add_15 : decode cX7_add 15 = .ok (.arraylength, 1) := by decide +kernel
theorem dX7_add_16 : decode cX7_add 16 = .ok (.if_icmp .ge 24, 3) := by decide +kernel
theorem dX7_add_19 : decode cX7_add 19 = .ok (.aload_n 0, 1) := by decide +kernel
theorem dX7_add_20 : decode cX7_add 20 = .ok (.getfield 9, 3) := by decide +kernel
theorem dX7_add_23 : decode cX7_add 23 = .ok (.aload_n 0, 1) := by decide +kernel
theorem dX7_add_24 : decode cX7_add 24 = .ok (.getfield 15, 3) := by decide +kernel
theorem dX7_add_27 : decode cX7_add 27 = .ok (.iload_n 1, 1) := by decide +kernel
theorem dX7_add_28 : decode cX7_add 28 = .ok (.i2c, 1) := by decide +kernel
theorem dX7_add_29 : decode cX7_add 29 = .ok (.castore, 1) := by decide +kernel
theorem dX7_add_30 : decode cX7_add 30 = .ok (.aload_n 0, 1) := by decide +kernel
theorem dX7_add_31 : decode cX7_add 31 = .ok (.dup, 1) := by decide +kernel
theorem dX7_add_32 : decode cX7_add 32 = .ok (.getfield 15, 3) := by decide +kernel
theorem dX7_add_35 : decode cX7_add 35 = .ok (.iconst 1, 1) := by decide +kernel
theorem dX7_add_36 : decode cX7_add 36 = .ok (.iadd, 1) := by decide +kernel
theorem dX7_add_37 : decode cX7_add 37 = .ok (.putfield 15, 3) := by decide +kernel
theorem dX7_add_40 : decode cX7_add 40 = .ok (.return_, 1) := by decide +kernel
theorem dX7_signAt_0 : decode cX7_signAt 0 = .ok (.iload_n 1, 1) := by decide +kernel
theorem dX7_signAt_1 : decode cX7_signAt 1 = .ok (.ifCond .lt 29, 3) := by decide +kernel
theorem dX7_signAt_4 : decode cX7_signAt 4 = .ok (.iload_n 1, 1) := by decide +kernel
theorem dX7_signAt_5 : decode cX7_signAt 5 = .ok (.aload_n 0, 1) := by decide +kernel
theorem dX7_signAt_6 : decode cX7_signAt 6 = .ok (.getfield 15, 3) := by decide +kernel
theorem dX7_signAt_9 : decode cX7_signAt 9 = .ok (.if_icmp .ge 21, 3) := by decide +kernel
theorem dX7_signAt_12 : decode cX7_signAt 12 = .ok (.iload_n 1, 1) := by decide +kernel
theorem dX7_signAt_13 : decode cX7_signAt 13 = .ok (.aload_n 0, 1) := by decide +kernel
theorem dX7_signAt_14 : decode cX7_signAt 14 = .ok (.getfield 9, 3) := by decide +kernel
theorem dX7_signAt_17 : decode cX7_signAt 17 = .ok (.arraylength, 1) := by decide +kernel
theorem dX7_signAt_18 : decode cX7_signAt 18 = .ok (.if_icmp .ge 12, 3) := by decide +kernel
theorem dX7_signAt_21 : decode cX7_signAt 21 = .ok (.aload_n 0, 1) := by decide +kernel
theorem dX7_signAt_22 : decode cX7_signAt 22 = .ok (.getfield 9, 3) := by decide +kernel
theorem dX7_signAt_25 : decode cX7_signAt 25 = .ok (.iload_n 1, 1) := by decide +kernel
theorem dX7_signAt_26 : decode cX7_signAt 26 = .ok (.caload, 1) := by decide +kernel
theorem dX7_signAt_27 : decode cX7_signAt 27 = .ok (.goto 4, 3) := by decide +kernel
theorem dX7_signAt_30 : decode cX7_signAt 30 = .ok (.iconst (-1), 1) := by decide +kernel
theorem dX7_signAt_31 : decode cX7_signAt 31 = .ok (.ireturn, 1) := by decide +kernel
set_option maxRecDepth 20000 in
theorem ggX7_firstError_X7_signAt : GoodIn wsX7_firstError wsX7_signAt := goodIn_r _ [6, 1, 7, 43, 44] (by decide +kernel) (by decide +kernel)
set_option maxRecDepth 20000 in
theorem gX7_firstError_X7_signAt : GoodIn wsX7_firstError (wsV RX7 19 RX7 yX7_signAt wsX7_signAt) := goodIn_app (goodIn_of _ (by decide +kernel)) ggX7_firstError_X7_signAt
set_option maxRecDepth 20000 in
theorem ggX7_firstError_X7_kindOfSign : GoodIn wsX7_firstError wsX7_kindOfSign := goodIn_r _ [10] (by decide +kernel) (by decide +kernel)
set_option maxRecDepth 20000 in
theorem gX7_firstError_X7_kindOfSign : GoodIn wsX7_firstError (va_wsS RX7 23 yX7_kindOfSign wsX7_kindOfSign) := goodIn_app (goodIn_of _ (by decide +kernel)) ggX7_firstError_X7_kindOfSign
set_option maxRecDepth 20000 in
theorem ggX7_firstError_X7_errorInItem : GoodIn wsX7_firstError wsX7_errorInItem := goodIn_r _ [14, 2, 3, 4, 5, 6, 1, 7, 15, 16, 17, 18, 19, 20, 21, 22, 23, 24, 25, 26, 27, 28, 29, 30, 31, 32, 33, 34, 35, 36, 37, 38, 43, 44] (by decide +kernel) (by decide +kernel)
set_option maxRecDepth 20000 in
theorem gX7_firstError_X7_errorInItem : GoodIn wsX7_firstError (wsV RX7 26 RX7 yX7_errorInItem wsX7_errorInItem) := goodIn_app (goodIn_of _ (by decide +kernel)) ggX7_firstError_X7_errorInItem
set_option maxRecDepth 20000 in
theorem ggX7_firstError_X7_lengthOfItem : GoodIn wsX7_firstError wsX7_lengthOfItem := goodIn_r _ [42, 2, 3, 4, 5, 6, 1, 7, 35, 36, 37, 38, 19, 20, 21, 22, 43, 44] (by decide +kernel) (by decide +kernel)
set_option maxRecDepth 20000 in
theorem gX7_firstError_X7_lengthOfItem : GoodIn wsX7_firstError (wsV RX7 29 RX7 yX7_lengthOfItem wsX7_lengthOfItem) := goodIn_app (goodIn_of _ (by decide +kernel)) ggX7_firstError_X7_lengthOfItem
theorem dX7_firstError_0 : decode cX7_firstError 0 = .ok (.aload_n 0, 1) := by decide +kernel
theorem dX7_firstError_1 : decode cX7_firstError 1 = .ok (.iconst 0, 1) := by decide +kernel
theorem dX7_firstError_2 : decode cX7_firstError 2 = .ok (.invokevirtual 19, 3) := by decide +kernel
theorem dX7_firstError_5 : decode cX7_firstError 5 = .ok (.bipush 70, 2) := by decide +kernel
theorem dX7_firstError_7 : decode cX7_firstError 7 = .ok (.if_icmp .eq 5, 3) := by decide +kernel
theorem dX7_firstError_10 : decode cX7_firstError 10 = .ok (.iconst 0, 1) := by decide +kernel
theorem dX7_firstError_11 : decode cX7_firstError 11 = .ok (.ireturn, 1) := by decide +kernel
theorem dX7_firstError_12 : decode cX7_firstError 12 = .ok (.iconst 1, 1) := by decide +kernel
theorem dX7_firstError_13 : decode cX7_firstError 13 = .ok (.istore_n 1, 1) := by decide +kernel
theorem dX7_firstError_14 : decode cX7_firstError 14 = .ok (.iload_n 1, 1) := by decide +kernel
theorem dX7_firstError_15 : decode cX7_firstError 15 = .ok (.bipush 37, 2) := by decide +kernel
theorem dX7_firstError_17 : decode cX7_firstError 17 = .ok (.if_icmp .ge 23, 3) := by decide +kernel
theorem dX7_firstError_20 : decode cX7_firstError 20 = .ok (.aload_n 0, 1) := by decide +kernel
theorem dX7_firstError_21 : decode cX7_firstError 21 = .ok (.iload_n 1, 1) := by decide +kernel
theorem dX7_firstError_22 : decode cX7_firstError 22 = .ok (.invokevirtual 19, 3) := by decide +kernel
theorem dX7_firstError_25 : decode cX7_firstError 25 = .ok (.invokestatic 23, 3) := by decide +kernel
theorem dX7_firstError_28 : decode cX7_firstError 28 = .ok (.iconst (-1), 1) := by decide +kernel
theorem dX7_firstError_29 : decode cX7_firstError 29 = .ok (.if_icmp .ne 5, 3) := by decide +kernel
theorem dX7_firstError_32 : decode cX7_firstError 32 = .ok (.iload_n 1, 1) := by decide +kernel
theorem dX7_firstError_33 : decode cX7_firstError 33 = .ok (.ireturn, 1) := by decide +kernel
theorem dX7_firstError_34 : decode cX7_firstError 34 = .ok (.iinc 1 1, 3) := by decide +kernel
theorem dX7_firstError_37 : decode cX7_firstError 37 = .ok (.goto (-23), 3) := by decide +kernel
theorem dX7_firstError_40 : decode cX7_firstError 40 = .ok (.bipush 37, 2) := by decide +kernel
theorem dX7_firstError_42 : decode cX7_firstError 42 = .ok (.istore_n 1, 1) := by decide +kernel
theorem dX7_firstError_43 : decode cX7_firstError 43 = .ok (.iconst 0, 1) := by decide +kernel
theorem dX7_firstError_44 : decode cX7_firstError 44 = .ok (.istore_n 2, 1) := by decide +kernel
theorem dX7_firstError_45 : decode cX7_firstError 45 = .ok (.iload_n 2, 1) := by decide +kernel
theorem dX7_firstError_46 : decode cX7_firstError 46 = .ok (.bipush 120, 2) := by decide +kernel
theorem dX7_firstError_48 : decode cX7_firstError 48 = .ok (.if_icmp .ge 38, 3) := by decide +kernel
theorem dX7_firstError_51 : decode cX7_firstError 51 = .ok (.iload_n 1, 1) := by decide +kernel
theorem dX7_firstError_52 : decode cX7_firstError 52 = .ok (.aload_n 0, 1) := by decide +kernel
theorem dX7_firstError_53 : decode cX7_firstError 53 = .ok (.getfield 15, 3) := by decide +kernel
theorem dX7_firstError_56 : decode cX7_firstError 56 = .ok (.if_icmp .ge 30, 3) := by decide +kernel
theorem dX7_firstError_59 : decode cX7_firstError 59 = .ok (.aload_n 0, 1) := by decide +kernel
theorem dX7_firstError_60 : decode cX7_firstError 60 = .ok (.iload_n 1, 1) := by decide +kernel
theorem dX7_firstError_61 : decode cX7_firstError 61 = .ok (.invokevirtual 26, 3) := by decide +kernel
theorem dX7_firstError_64 : decode cX7_firstError 64 = .ok (.istore_n 3, 1) := by decide +kernel
theorem dX7_firstError_65 : decode cX7_firstError 65 = .ok (.iload_n 3, 1) := by decide +kernel
theorem dX7_firstError_66 : decode cX7_firstError 66 = .ok (.iconst (-1), 1) := by decide +kernel
theorem dX7_firstError_67 : decode cX7_firstError 67 = .ok (.if_icmp .eq 5, 3) := by decide +kernel
theorem dX7_firstError_70 : decode cX7_firstError 70 = .ok (.iload_n 3, 1) := by decide +kernel
theorem dX7_firstError_71 : decode cX7_firstError 71 = .ok (.ireturn, 1) := by decide +kernel
theorem dX7_firstError_72 : decode cX7_firstError 72 = .ok (.iload_n 1, 1) := by decide +kernel
theorem dX7_firstError_73 : decode cX7_firstError 73 = .ok (.aload_n 0, 1) := by decide +kernel
theorem dX7_firstError_74 : decode cX7_firstError 74 = .ok (.iload_n 1, 1) := by decide +kernel
theorem dX7_firstError_75 : decode cX7_firstError 75 = .ok (.invokevirtual 29, 3) := by decide +kernel
theorem dX7_firstError_78 : decode cX7_firstError 78 = .ok (.iadd, 1) := by decide +kernel
theorem dX7_firstError_79 : decode cX7_firstError 79 = .ok (.istore_n 1, 1) := by decide +kernel
theorem dX7_firstError_80 : decode cX7_firstError 80 = .ok (.iinc 2 1, 3) := by decide +kernel
theorem dX7_firstError_83 : decode cX7_firstError 83 = .ok (.goto (-38), 3) := by decide +kernel
theorem dX7_firstError_86 : decode cX7_firstError 86 = .ok (.iconst (-1), 1) := by decide +kernel
theorem dX7_firstError_87 : decode cX7_firstError 87 = .ok (.ireturn, 1) := by decide +kernel
theorem dX7_kindOfSign_0 : decode cX7_kindOfSign 0 = .ok (.iload_n 0, 1) := by decide +kernel
theorem dX7_kindOfSign_1 : decode cX7_kindOfSign 1 = .ok (.lookupswitch 82 #[(35, 69), (46, 67), (101, 75), (110, 73), (111, 71), (115, 77), (119, 79)], 67) := by decide +kernel
theorem dX7_kindOfSign_68 : decode cX7_kindOfSign 68 = .ok (.iconst 0, 1) := by decide +kernel
theorem dX7_kindOfSign_69 : decode cX7_kindOfSign 69 = .ok (.ireturn, 1) := by decide +kernel
theorem dX7_kindOfSign_70 : decode cX7_kindOfSign 70 = .ok (.iconst 1, 1) := by decide +kernel
theorem dX7_kindOfSign_71 : decode cX7_kindOfSign 71 = .ok (.ireturn, 1) := by decide +kernel
theorem dX7_kindOfSign_72 : decode cX7_kindOfSign 72 = .ok (.iconst 2, 1) := by decide +kernel
theorem dX7_kindOfSign_73 : decode cX7_kindOfSign 73 = .ok (.ireturn, 1) := by decide +kernel
theorem dX7_kindOfSign_74 : decode cX7_kindOfSign 74 = .ok (.iconst 3, 1) := by decide +kernel
theorem dX7_kindOfSign_75 : decode cX7_kindOfSign 75 = .ok (.ireturn, 1) := by decide +kernel
theorem dX7_kindOfSign_76 : decode cX7_kindOfSign 76 = .ok (.iconst 4, 1) := by decide +kernel
theorem dX7_kindOfSign_77 : decode cX7_kindOfSign 77 = .ok (.ireturn, 1) := by decide +kernel
theorem dX7_kindOfSign_78 : decode cX7_kindOfSign 78 = .ok (.iconst 5, 1) := by decide +kernel
theorem dX7_kindOfSign_79 : decode cX7_kindOfSign 79 = .ok (.ireturn, 1) := by decide +kernel
theorem dX7_kindOfSign_80 : decode cX7_kindOfSign 80 = .ok (.bipush 6, 2) := by decide +kernel
theorem dX7_kindOfSign_82 : decode cX7_kindOfSign 82 = .ok (.ireturn, 1) := by decide +kernel
theorem dX7_kindOfSign_83 : decode cX7_kindOfSign 83 = .ok (.iconst (-1), 1) := by decide +kernel
theorem dX7_kindOfSign_84 : decode cX7_kindOfSign 84 = .ok (.ireturn, 1) := by decide +kernel
set_option maxRecDepth 20000 in
theorem ggX7_errorInItem_X7_signAt : GoodIn wsX7_errorInItem wsX7_signAt := goodIn_r _ [5, 6, 7, 32, 33] (by decide +kernel) (by decide +kernel)
set_option maxRecDepth 20000 in
theorem gX7_errorInItem_X7_signAt : GoodIn wsX7_errorInItem (wsV RX7 19 RX7 yX7_signAt wsX7_signAt) := goodIn_app (goodIn_of _ (by decide +kernel)) ggX7_errorInItem_X7_signAt
set_option maxRecDepth 20000 in
theorem ggX7_errorInItem_X7_errorInCell : GoodIn wsX7_errorInItem wsX7_errorInCell := goodIn_r _ [11, 12, 13, 14, 4, 15, 1, 2, 3, 5, 6, 7, 16, 17, 18, 19, 32, 33] (by decide +kernel) (by decide +kernel)
set_option maxRecDepth 20000 in
theorem gX7_errorInItem_X7_errorInCell : GoodIn wsX7_errorInItem (wsV RX7 32 RX7 yX7_errorInCell wsX7_errorInCell) := goodIn_app (goodIn_of _ (by decide +kernel)) ggX7_errorInItem_X7_errorInCell
set_option maxRecDepth 20000 in
theorem ggX7_errorInItem_X7_errorInRobot : GoodIn wsX7_errorInItem wsX7_errorInRobot := goodIn_r _ [23, 12, 13, 14, 4, 15, 1, 2, 3, 5, 6, 7, 8, 9, 10, 11, 16, 17, 18, 19, 32, 33] (by decide +kernel) (by decide +kernel)
set_option maxRecDepth 20000 in
theorem gX7_errorInItem_X7_errorInRobot : GoodIn wsX7_errorInItem (wsV RX7 35 RX7 yX7_errorInRobot wsX7_errorInRobot) := goodIn_app (goodIn_of _ (by decide +kernel)) ggX7_errorInItem_X7_errorInRobot
set_option maxRecDepth 20000 in
theorem ggX7_errorInItem_X7_errorInProgram : GoodIn wsX7_errorInItem wsX7_errorInProgram := goodIn_r _ [27, 12, 13, 14, 4, 15, 1, 2, 3, 5, 6, 7, 28, 29, 30, 31, 32, 33] (by decide +kernel) (by decide +kernel)
set_option maxRecDepth 20000 in
theorem gX7_errorInItem_X7_errorInProgram : GoodIn wsX7_errorInItem (wsV RX7 38 RX7 yX7_errorInProgram wsX7_errorInProgram) := goodIn_app (goodIn_of _ (by decide +kernel)) ggX7_errorInItem_X7_errorInProgram
theorem dX7_errorInItem_0 : decode cX7_errorInItem 0 = .ok (.aload_n 0, 1) := by decide +kernel
theorem dX7_errorInItem_1 : decode cX7_errorInItem 1 = .ok (.iload_n 1, 1) := by decide +kernel
theorem dX7_errorInItem_2 : decode cX7_errorInItem 2 = .ok (.invokevirtual 19, 3) := by decide +kernel
theorem dX7_errorInItem_5 : decode cX7_errorInItem 5 = .ok (.lookupswitch 63 #[(99, 43), (105, 57), (112, 43), (114, 51)], 43) := by decide +kernel
theorem dX7_errorInItem_48 : decode cX7_errorInItem 48 = .ok (.aload_n 0, 1) := by decide +kernel
theorem dX7_errorInItem_49 : decode cX7_errorInItem 49 = .ok (.iload_n 1, 1) := by decide +kernel
theorem dX7_errorInItem_50 : decode cX7_errorInItem 50 = .ok (.iconst 1, 1) := by decide +kernel
theorem dX7_errorInItem_51 : decode cX7_errorInItem 51 = .ok (.iadd, 1) := by decide +kernel
theorem dX7_errorInItem_52 : decode cX7_errorInItem 52 = .ok (.invokevirtual 32, 3) := by decide +kernel
theorem dX7_errorInItem_55 : decode cX7_errorInItem 55 = .ok (.ireturn, 1) := by decide +kernel
theorem dX7_errorInItem_56 : decode cX7_errorInItem 56 = .ok (.aload_n 0, 1) := by decide +kernel
theorem dX7_errorInItem_57 : decode cX7_errorInItem 57 = .ok (.iload_n 1, 1) := by decide +kernel
theorem dX7_errorInItem_58 : decode cX7_errorInItem 58 = .ok (.invokevirtual 35, 3) := by decide +kernel
theorem dX7_errorInItem_61 : decode cX7_errorInItem 61 = .ok (.ireturn, 1) := by decide +kernel
theorem dX7_errorInItem_62 : decode cX7_errorInItem 62 = .ok (.aload_n 0, 1) := by decide +kernel
theorem dX7_errorInItem_63 : decode cX7_errorInItem 63 = .ok (.iload_n 1, 1) := by decide +kernel
theorem dX7_errorInItem_64 : decode cX7_errorInItem 64 = .ok (.invokevirtual 38, 3) := by decide +kernel
theorem dX7_errorInItem_67 : decode cX7_errorInItem 67 = .ok (.ireturn, 1) := by decide +kernel
theorem dX7_errorInItem_68 : decode cX7_errorInItem 68 = .ok (.iload_n 1, 1) := by decide +kernel
theorem dX7_errorInItem_69 : decode cX7_errorInItem 69 = .ok (.ireturn, 1) := by decide +kernel
set_option maxRecDepth 20000 in
theorem ggX7_errorInCell_X7_isDigit : GoodIn wsX7_errorInCell wsX7_isDigit := goodIn_r _ [5, 6, 7, 8, 4, 9, 10, 11, 16, 17] (by decide +kernel) (by decide +kernel)
set_option maxRecDepth 20000 in
theorem gX7_errorInCell_X7_isDigit : GoodIn wsX7_errorInCell (wsV RX7 41 RX7 yX7_isDigit wsX7_isDigit) := goodIn_app (goodIn_of _ (by decide +kernel)) ggX7_errorInCell_X7_isDigit
set_option maxRecDepth 20000 in
theorem ggX7_errorInCell_X7_digitAt : GoodIn wsX7_errorInCell wsX7_digitAt := goodIn_r _ [15, 6, 7, 8, 4, 9, 10, 11, 16, 17] (by decide +kernel) (by decide +kernel)
set_option maxRecDepth 20000 in
theorem gX7_errorInCell_X7_digitAt : GoodIn wsX7_errorInCell (wsV RX7 45 RX7 yX7_digitAt wsX7_digitAt) := goodIn_app (goodIn_of _ (by decide +kernel)) ggX7_errorInCell_X7_digitAt
theorem dX7_errorInCell_0 : decode cX7_errorInCell 0 = .ok (.aload_n 0, 1) := by decide +kernel
theorem dX7_errorInCell_1 : decode cX7_errorInCell 1 = .ok (.iload_n 1, 1) := by decide +kernel
theorem dX7_errorInCell_2 : decode cX7_errorInCell 2 = .ok (.iconst 3, 1) := by decide +kernel
theorem dX7_errorInCell_3 : decode cX7_errorInCell 3 = .ok (.invokevirtual 41, 3) := by decide +kernel
theorem dX7_errorInCell_6 : decode cX7_errorInCell 6 = .ok (.ifCond .ne 5, 3) := by decide +kernel
theorem dX7_errorInCell_9 : decode cX7_errorInCell 9 = .ok (.iload_n 1, 1) := by decide +kernel
theorem dX7_errorInCell_10 : decode cX7_errorInCell 10 = .ok (.ireturn, 1) := by decide +kernel
theorem dX7_errorInCell_11 : decode cX7_errorInCell 11 = .ok (.aload_n 0, 1) := by decide +kernel
theorem dX7_errorInCell_12 : decode cX7_errorInCell 12 = .ok (.iload_n 1, 1) := by decide +kernel
theorem dX7_errorInCell_13 : decode cX7_errorInCell 13 = .ok (.invokevirtual 45, 3) := by decide +kernel
theorem dX7_errorInCell_16 : decode cX7_errorInCell 16 = .ok (.iconst 3, 1) := by decide +kernel
theorem dX7_errorInCell_17 : decode cX7_errorInCell 17 = .ok (.if_icmp .ne 7, 3) := by decide +kernel
theorem dX7_errorInCell_20 : decode cX7_errorInCell 20 = .ok (.iconst 5, 1) := by decide +kernel
theorem dX7_errorInCell_21 : decode cX7_errorInCell 21 = .ok (.goto 5, 3) := by decide +kernel
theorem dX7_errorInCell_24 : decode cX7_errorInCell 24 = .ok (.bipush 9, 2) := by decide +kernel
theorem dX7_errorInCell_26 : decode cX7_errorInCell 26 = .ok (.istore_n 2, 1) := by decide +kernel
theorem dX7_errorInCell_27 : decode cX7_errorInCell 27 = .ok (.aload_n 0, 1) := by decide +kernel
theorem dX7_errorInCell_28 : decode cX7_errorInCell 28 = .ok (.iload_n 1, 1) := by decide +kernel
theorem dX7_errorInCell_29 : decode cX7_errorInCell 29 = .ok (.iconst 1, 1) := by decide +kernel
theorem dX7_errorInCell_30 : decode cX7_errorInCell 30 = .ok (.iadd, 1) := by decide +kernel
theorem dX7_errorInCell_31 : decode cX7_errorInCell 31 = .ok (.iload_n 2, 1) := by decide +kernel
theorem dX7_errorInCell_32 : decode cX7_errorInCell 32 = .ok (.invokevirtual 41, 3) := by decide +kernel
theorem dX7_errorInCell_35 : decode cX7_errorInCell 35 = .ok (.ifCond .eq 7, 3) := by decide +kernel
theorem dX7_errorInCell_38 : decode cX7_errorInCell 38 = .ok (.iconst (-1), 1) := by decide +kernel
theorem dX7_errorInCell_39 : decode cX7_errorInCell 39 = .ok (.goto 6, 3) := by decide +kernel
theorem dX7_errorInCell_42 : decode cX7_errorInCell 42 = .ok (.iload_n 1, 1) := by decide +kernel
theorem dX7_errorInCell_43 : decode cX7_errorInCell 43 = .ok (.iconst 1, 1) := by decide +kernel
theorem dX7_errorInCell_44 : decode cX7_errorInCell 44 = .ok (.iadd, 1) := by decide +kernel
theorem dX7_errorInCell_45 : decode cX7_errorInCell 45 = .ok (.ireturn, 1) := by decide +kernel
set_option maxRecDepth 20000 in
theorem ggX7_errorInRobot_X7_isDigit : GoodIn wsX7_errorInRobot wsX7_isDigit := goodIn_r _ [5, 6, 7, 8, 4, 9, 10, 11, 20, 21] (by decide +kernel) (by decide +kernel)
set_option maxRecDepth 20000 in
theorem gX7_errorInRobot_X7_isDigit : GoodIn wsX7_errorInRobot (wsV RX7 41 RX7 yX7_isDigit wsX7_isDigit) := goodIn_app (goodIn_of _ (by decide +kernel)) ggX7_errorInRobot_X7_isDigit
set_option maxRecDepth 20000 in
theorem ggX7_errorInRobot_X7_errorInCell : GoodIn wsX7_errorInRobot wsX7_errorInCell := goodIn_r _ [15, 1, 2, 3, 4, 5, 6, 7, 8, 9, 10, 11, 16, 17, 18, 19, 20, 21] (by decide +kernel) (by decide +kernel)
set_option maxRecDepth 20000 in
theorem gX7_errorInRobot_X7_errorInCell : GoodIn wsX7_errorInRobot (wsV RX7 32 RX7 yX7_errorInCell wsX7_errorInCell) := goodIn_app (goodIn_of _ (by decide +kernel)) ggX7_errorInRobot_X7_errorInCell
theorem dX7_errorInRobot_0 : decode cX7_errorInRobot 0 = .ok (.aload_n 0, 1) := by decide +kernel
theorem dX7_errorInRobot_1 : decode cX7_errorInRobot 1 = .ok (.iload_n 1, 1) := by decide +kernel
theorem dX7_errorInRobot_2 : decode cX7_errorInRobot 2 = .ok (.iconst 1, 1) := by decide +kernel
theorem dX7_errorInRobot_3 : decode cX7_errorInRobot 3 = .ok (.iadd, 1) := by decide +kernel
theorem dX7_errorInRobot_4 : decode cX7_errorInRobot 4 = .ok (.iconst 1, 1) := by decide +kernel
theorem dX7_errorInRobot_5 : decode cX7_errorInRobot 5 = .ok (.invokevirtual 41, 3) := by decide +kernel
theorem dX7_errorInRobot_8 : decode cX7_errorInRobot 8 = .ok (.ifCond .ne 7, 3) := by decide +kernel
theorem dX7_errorInRobot_11 : decode cX7_errorInRobot 11 = .ok (.iload_n 1, 1) := by decide +kernel
theorem dX7_errorInRobot_12 : decode cX7_errorInRobot 12 = .ok (.iconst 1, 1) := by decide +kernel
theorem dX7_errorInRobot_13 : decode cX7_errorInRobot 13 = .ok (.iadd, 1) := by decide +kernel
theorem dX7_errorInRobot_14 : decode cX7_errorInRobot 14 = .ok (.ireturn, 1) := by decide +kernel
theorem dX7_errorInRobot_15 : decode cX7_errorInRobot 15 = .ok (.aload_n 0, 1) := by decide +kernel
theorem dX7_errorInRobot_16 : decode cX7_errorInRobot 16 = .ok (.iload_n 1, 1) := by decide +kernel
theorem dX7_errorInRobot_17 : decode cX7_errorInRobot 17 = .ok (.iconst 2, 1) := by decide +kernel
theorem dX7_errorInRobot_18 : decode cX7_errorInRobot 18 = .ok (.iadd, 1) := by decide +kernel
theorem dX7_errorInRobot_19 : decode cX7_errorInRobot 19 = .ok (.invokevirtual 32, 3) := by decide +kernel
theorem dX7_errorInRobot_22 : decode cX7_errorInRobot 22 = .ok (.istore_n 2, 1) := by decide +kernel
theorem dX7_errorInRobot_23 : decode cX7_errorInRobot 23 = .ok (.iload_n 2, 1) := by decide +kernel
theorem dX7_errorInRobot_24 : decode cX7_errorInRobot 24 = .ok (.iconst (-1), 1) := by decide +kernel
theorem dX7_errorInRobot_25 : decode cX7_errorInRobot 25 = .ok (.if_icmp .eq 5, 3) := by decide +kernel
theorem dX7_errorInRobot_28 : decode cX7_errorInRobot 28 = .ok (.iload_n 2, 1) := by decide +kernel
theorem dX7_errorInRobot_29 : decode cX7_errorInRobot 29 = .ok (.ireturn, 1) := by decide +kernel
theorem dX7_errorInRobot_30 : decode cX7_errorInRobot 30 = .ok (.aload_n 0, 1) := by decide +kernel
theorem dX7_errorInRobot_31 : decode cX7_errorInRobot 31 = .ok (.iload_n 1, 1) := by decide +kernel
theorem dX7_errorInRobot_32 : decode cX7_errorInRobot 32 = .ok (.iconst 4, 1) := by decide +kernel
theorem dX7_errorInRobot_33 : decode cX7_errorInRobot 33 = .ok (.iadd, 1) := by decide +kernel
theorem dX7_errorInRobot_34 : decode cX7_errorInRobot 34 = .ok (.iconst 3, 1) := by decide +kernel
theorem dX7_errorInRobot_35 : decode cX7_errorInRobot 35 = .ok (.invokevirtual 41, 3) := by decide +kernel
theorem dX7_errorInRobot_38 : decode cX7_errorInRobot 38 = .ok (.ifCond .eq 7, 3) := by decide +kernel
theorem dX7_errorInRobot_41 : decode cX7_errorInRobot 41 = .ok (.iconst (-1), 1) := by decide +kernel
theorem dX7_errorInRobot_42 : decode cX7_errorInRobot 42 = .ok (.goto 6, 3) := by decide +kernel
theorem dX7_errorInRobot_45 : decode cX7_errorInRobot 45 = .ok (.iload_n 1, 1) := by decide +kernel
theorem dX7_errorInRobot_46 : decode cX7_errorInRobot 46 = .ok (.iconst 4, 1) := by decide +kernel
theorem dX7_errorInRobot_47 : decode cX7_errorInRobot 47 = .ok (.iadd, 1) := by decide +kernel
theorem dX7_errorInRobot_48 : decode cX7_errorInRobot 48 = .ok (.ireturn, 1) := by decide +kernel
set_option maxRecDepth 20000 in
theorem ggX7_errorInProgram_X7_isDigit : GoodIn wsX7_errorInProgram wsX7_isDigit := goodIn_r _ [5, 6, 7, 8, 4, 9, 10, 11, 16, 17] (by decide +kernel) (by decide +kernel)
set_option maxRecDepth 20000 in
theorem gX7_errorInProgram_X7_isDigit : GoodIn wsX7_errorInProgram (wsV RX7 41 RX7 yX7_isDigit wsX7_isDigit) := goodIn_app (goodIn_of _ (by decide +kernel)) ggX7_errorInProgram_X7_isDigit
set_option maxRecDepth 20000 in
theorem ggX7_errorInProgram_X7_instructionsFrom : GoodIn wsX7_errorInProgram wsX7_instructionsFrom := goodIn_r _ [15, 1, 2, 3, 4, 5, 6, 7, 8, 9, 10, 11, 16, 17] (by decide +kernel) (by decide +kernel)
set_option maxRecDepth 20000 in
theorem gX7_errorInProgram_X7_instructionsFrom : GoodIn wsX7_errorInProgram (wsV RX7 48 RX7 yX7_instructionsFrom wsX7_instructionsFrom) := goodIn_app (goodIn_of _ (by decide +kernel)) ggX7_errorInProgram_X7_instructionsFrom
set_option maxRecDepth 20000 in
theorem ggX7_errorInProgram_X7_signAt : GoodIn wsX7_errorInProgram wsX7_signAt := goodIn_r _ [9, 10, 11, 16, 17] (by decide +kernel) (by decide +kernel)
set_option maxRecDepth 20000 in
theorem gX7_errorInProgram_X7_signAt : GoodIn wsX7_errorInProgram (wsV RX7 19 RX7 yX7_signAt wsX7_signAt) := goodIn_app (goodIn_of _ (by decide +kernel)) ggX7_errorInProgram_X7_signAt
theorem dX7_errorInProgram_0 : decode cX7_errorInProgram 0 = .ok (.aload_n 0, 1) := by decide +kernel
theorem dX7_errorInProgram_1 : decode cX7_errorInProgram 1 = .ok (.iload_n 1, 1) := by decide +kernel
theorem dX7_errorInProgram_2 : decode cX7_errorInProgram 2 = .ok (.iconst 1, 1) := by decide +kernel
theorem dX7_errorInProgram_3 : decode cX7_errorInProgram 3 = .ok (.iadd, 1) := by decide +kernel
theorem dX7_errorInProgram_4 : decode cX7_errorInProgram 4 = .ok (.iconst 1, 1) := by decide +kernel
theorem dX7_errorInProgram_5 : decode cX7_errorInProgram 5 = .ok (.invokevirtual 41, 3) := by decide +kernel
theorem dX7_errorInProgram_8 : decode cX7_errorInProgram 8 = .ok (.ifCond .ne 7, 3) := by decide +kernel
theorem dX7_errorInProgram_11 : decode cX7_errorInProgram 11 = .ok (.iload_n 1, 1) := by decide +kernel
theorem dX7_errorInProgram_12 : decode cX7_errorInProgram 12 = .ok (.iconst 1, 1) := by decide +kernel
theorem dX7_errorInProgram_13 : decode cX7_errorInProgram 13 = .ok (.iadd, 1) := by decide +kernel
theorem dX7_errorInProgram_14 : decode cX7_errorInProgram 14 = .ok (.ireturn, 1) := by decide +kernel
theorem dX7_errorInProgram_15 : decode cX7_errorInProgram 15 = .ok (.aload_n 0, 1) := by decide +kernel
theorem dX7_errorInProgram_16 : decode cX7_errorInProgram 16 = .ok (.iload_n 1, 1) := by decide +kernel
theorem dX7_errorInProgram_17 : decode cX7_errorInProgram 17 = .ok (.iconst 2, 1) := by decide +kernel
theorem dX7_errorInProgram_18 : decode cX7_errorInProgram 18 = .ok (.iadd, 1) := by decide +kernel
theorem dX7_errorInProgram_19 : decode cX7_errorInProgram 19 = .ok (.invokevirtual 48, 3) := by decide +kernel
theorem dX7_errorInProgram_22 : decode cX7_errorInProgram 22 = .ok (.istore_n 2, 1) := by decide +kernel
theorem dX7_errorInProgram_23 : decode cX7_errorInProgram 23 = .ok (.iload_n 1, 1) := by decide +kernel
theorem dX7_errorInProgram_24 : decode cX7_errorInProgram 24 = .ok (.iconst 2, 1) := by decide +kernel
theorem dX7_errorInProgram_25 : decode cX7_errorInProgram 25 = .ok (.iadd, 1) := by decide +kernel
theorem dX7_errorInProgram_26 : decode cX7_errorInProgram 26 = .ok (.iload_n 2, 1) := by decide +kernel
theorem dX7_errorInProgram_27 : decode cX7_errorInProgram 27 = .ok (.iadd, 1) := by decide +kernel
theorem dX7_errorInProgram_28 : decode cX7_errorInProgram 28 = .ok (.istore_n 3, 1) := by decide +kernel
theorem dX7_errorInProgram_29 : decode cX7_errorInProgram 29 = .ok (.iload_n 2, 1) := by decide +kernel
theorem dX7_errorInProgram_30 : decode cX7_errorInProgram 30 = .ok (.ifCond .le 17, 3) := by decide +kernel
theorem dX7_errorInProgram_33 : decode cX7_errorInProgram 33 = .ok (.aload_n 0, 1) := by decide +kernel
theorem dX7_errorInProgram_34 : decode cX7_errorInProgram 34 = .ok (.iload_n 3, 1) := by decide +kernel
theorem dX7_errorInProgram_35 : decode cX7_errorInProgram 35 = .ok (.invokevirtual 19, 3) := by decide +kernel
theorem dX7_errorInProgram_38 : decode cX7_errorInProgram 38 = .ok (.bipush 46, 2) := by decide +kernel
theorem dX7_errorInProgram_40 : decode cX7_errorInProgram 40 = .ok (.if_icmp .ne 7, 3) := by decide +kernel
theorem dX7_errorInProgram_43 : decode cX7_errorInProgram 43 = .ok (.iconst (-1), 1) := by decide +kernel
theorem dX7_errorInProgram_44 : decode cX7_errorInProgram 44 = .ok (.goto 4, 3) := by decide +kernel
theorem dX7_errorInProgram_47 : decode cX7_errorInProgram 47 = .ok (.iload_n 3, 1) := by decide +kernel
theorem dX7_errorInProgram_48 : decode cX7_errorInProgram 48 = .ok (.ireturn, 1) := by decide +kernel
set_option maxRecDepth 20000 in
theorem ggX7_lengthOfItem_X7_signAt : GoodIn wsX7_lengthOfItem wsX7_signAt := goodIn_r _ [5, 6, 7, 16, 17] (by decide +kernel) (by decide +kernel)
set_option maxRecDepth 20000 in
theorem gX7_lengthOfItem_X7_signAt : GoodIn wsX7_lengthOfItem (wsV RX7 19 RX7 yX7_signAt wsX7_signAt) := goodIn_app (goodIn_of _ (by decide +kernel)) ggX7_lengthOfItem_X7_signAt
set_option maxRecDepth 20000 in
theorem ggX7_lengthOfItem_X7_instructionsFrom : GoodIn wsX7_lengthOfItem wsX7_instructionsFrom := goodIn_r _ [11, 12, 13, 14, 4, 15, 1, 2, 3, 5, 6, 7, 16, 17] (by decide +kernel) (by decide +kernel)
set_option maxRecDepth 20000 in
theorem gX7_lengthOfItem_X7_instructionsFrom : GoodIn wsX7_lengthOfItem (wsV RX7 48 RX7 yX7_instructionsFrom wsX7_instructionsFrom) := goodIn_app (goodIn_of _ (by decide +kernel)) ggX7_lengthOfItem_X7_instructionsFrom
theorem dX7_lengthOfItem_0 : decode cX7_lengthOfItem 0 = .ok (.aload_n 0, 1) := by decide +kernel
theorem dX7_lengthOfItem_1 : decode cX7_lengthOfItem 1 = .ok (.iload_n 1, 1) := by decide +kernel
theorem dX7_lengthOfItem_2 : decode cX7_lengthOfItem 2 = .ok (.invokevirtual 19, 3) := by decide +kernel
theorem dX7_lengthOfItem_5 : decode cX7_lengthOfItem 5 = .ok (.lookupswitch 39 #[(105, 29), (114, 27)], 27) := by decide +kernel
theorem dX7_lengthOfItem_32 : decode cX7_lengthOfItem 32 = .ok (.iconst 5, 1) := by decide +kernel
theorem dX7_lengthOfItem_33 : decode cX7_lengthOfItem 33 = .ok (.ireturn, 1) := by decide +kernel
theorem dX7_lengthOfItem_34 : decode cX7_lengthOfItem 34 = .ok (.iconst 3, 1) := by decide +kernel
theorem dX7_lengthOfItem_35 : decode cX7_lengthOfItem 35 = .ok (.aload_n 0, 1) := by decide +kernel
theorem dX7_lengthOfItem_36 : decode cX7_lengthOfItem 36 = .ok (.iload_n 1, 1) := by decide +kernel
theorem dX7_lengthOfItem_37 : decode cX7_lengthOfItem 37 = .ok (.iconst 2, 1) := by decide +kernel
theorem dX7_lengthOfItem_38 : decode cX7_lengthOfItem 38 = .ok (.iadd, 1) := by decide +kernel
theorem dX7_lengthOfItem_39 : decode cX7_lengthOfItem 39 = .ok (.invokevirtual 48, 3) := by decide +kernel
theorem dX7_lengthOfItem_42 : decode cX7_lengthOfItem 42 = .ok (.iadd, 1) := by decide +kernel
theorem dX7_lengthOfItem_43 : decode cX7_lengthOfItem 43 = .ok (.ireturn, 1) := by decide +kernel
theorem dX7_lengthOfItem_44 : decode cX7_lengthOfItem 44 = .ok (.iconst 3, 1) := by decide +kernel
theorem dX7_lengthOfItem_45 : decode cX7_lengthOfItem 45 = .ok (.ireturn, 1) := by decide +kernel
set_option maxRecDepth 20000 in
theorem ggX7_instructionsFrom_X7_isDigit : GoodIn wsX7_instructionsFrom wsX7_isDigit := goodIn_r _ [5, 6, 7, 8, 4, 9, 10, 11, 12, 13] (by decide +kernel) (by decide +kernel)
set_option maxRecDepth 20000 in
theorem gX7_instructionsFrom_X7_isDigit : GoodIn wsX7_instructionsFrom (wsV RX7 41 RX7 yX7_isDigit wsX7_isDigit) := goodIn_app (goodIn_of _ (by decide +kernel)) ggX7_instructionsFrom_X7_isDigit
theorem dX7_instructionsFrom_0 : decode cX7_instructionsFrom 0 = .ok (.iconst 0, 1) := by decide +kernel
theorem dX7_instructionsFrom_1 : decode cX7_instructionsFrom 1 = .ok (.istore_n 2, 1) := by decide +kernel
theorem dX7_instructionsFrom_2 : decode cX7_instructionsFrom 2 = .ok (.iload_n 2, 1) := by decide +kernel
theorem dX7_instructionsFrom_3 : decode cX7_instructionsFrom 3 = .ok (.bipush 10, 2) := by decide +kernel
theorem dX7_instructionsFrom_5 : decode cX7_instructionsFrom 5 = .ok (.if_icmp .ge 20, 3) := by decide +kernel
theorem dX7_instructionsFrom_8 : decode cX7_instructionsFrom 8 = .ok (.aload_n 0, 1) := by decide +kernel
theorem dX7_instructionsFrom_9 : decode cX7_instructionsFrom 9 = .ok (.iload_n 1, 1) := by decide +kernel
theorem dX7_instructionsFrom_10 : decode cX7_instructionsFrom 10 = .ok (.iload_n 2, 1) := by decide +kernel
theorem dX7_instructionsFrom_11 : decode cX7_instructionsFrom 11 = .ok (.iadd, 1) := by decide +kernel
theorem dX7_instructionsFrom_12 : decode cX7_instructionsFrom 12 = .ok (.iconst 5, 1) := by decide +kernel
theorem dX7_instructionsFrom_13 : decode cX7_instructionsFrom 13 = .ok (.invokevirtual 41, 3) := by decide +kernel
theorem dX7_instructionsFrom_16 : decode cX7_instructionsFrom 16 = .ok (.ifCond .eq 9, 3) := by decide +kernel
theorem dX7_instructionsFrom_19 : decode cX7_instructionsFrom 19 = .ok (.iinc 2 1, 3) := by decide +kernel
theorem dX7_instructionsFrom_22 : decode cX7_instructionsFrom 22 = .ok (.goto (-20), 3) := by decide +kernel
theorem dX7_instructionsFrom_25 : decode cX7_instructionsFrom 25 = .ok (.iload_n 2, 1) := by decide +kernel
theorem dX7_instructionsFrom_26 : decode cX7_instructionsFrom 26 = .ok (.ireturn, 1) := by decide +kernel
set_option maxRecDepth 20000 in
theorem ggX7_isDigit_X7_signAt : GoodIn wsX7_isDigit wsX7_signAt := goodIn_r _ [5, 6, 7, 8, 9] (by decide +kernel) (by decide +kernel)
set_option maxRecDepth 20000 in
theorem gX7_isDigit_X7_signAt : GoodIn wsX7_isDigit (wsV RX7 19 RX7 yX7_signAt wsX7_signAt) := goodIn_app (goodIn_of _ (by decide +kernel)) ggX7_isDigit_X7_signAt
theorem dX7_isDigit_0 : decode cX7_isDigit 0 = .ok (.aload_n 0, 1) := by decide +kernel
theorem dX7_isDigit_1 : decode cX7_isDigit 1 = .ok (.iload_n 1, 1) := by decide +kernel
theorem dX7_isDigit_2 : decode cX7_isDigit 2 = .ok (.invokevirtual 19, 3) := by decide +kernel
theorem dX7_isDigit_5 : decode cX7_isDigit 5 = .ok (.istore_n 3, 1) := by decide +kernel
theorem dX7_isDigit_6 : decode cX7_isDigit 6 = .ok (.iload_n 3, 1) := by decide +kernel
theorem dX7_isDigit_7 : decode cX7_isDigit 7 = .ok (.bipush 48, 2) := by decide +kernel
theorem dX7_isDigit_9 : decode cX7_isDigit 9 = .ok (.if_icmp .lt 15, 3) := by decide +kernel
theorem dX7_isDigit_12 : decode cX7_isDigit 12 = .ok (.iload_n 3, 1) := by decide +kernel
theorem dX7_isDigit_13 : decode cX7_isDigit 13 = .ok (.bipush 48, 2) := by decide +kernel
theorem dX7_isDigit_15 : decode cX7_isDigit 15 = .ok (.iload_n 2, 1) := by decide +kernel
theorem dX7_isDigit_16 : decode cX7_isDigit 16 = .ok (.iadd, 1) := by decide +kernel
theorem dX7_isDigit_17 : decode cX7_isDigit 17 = .ok (.if_icmp .gt 7, 3) := by decide +kernel
theorem dX7_isDigit_20 : decode cX7_isDigit 20 = .ok (.iconst 1, 1) := by decide +kernel
theorem dX7_isDigit_21 : decode cX7_isDigit 21 = .ok (.goto 4, 3) := by decide +kernel
theorem dX7_isDigit_24 : decode cX7_isDigit 24 = .ok (.iconst 0, 1) := by decide +kernel
theorem dX7_isDigit_25 : decode cX7_isDigit 25 = .ok (.ireturn, 1) := by decide +kernel
set_option maxRecDepth 20000 in
theorem ggX7_digitAt_X7_signAt : GoodIn wsX7_digitAt wsX7_signAt := goodIn_r _ [5, 6, 7, 8, 9] (by decide +kernel) (by decide +kernel)
set_option maxRecDepth 20000 in
theorem gX7_digitAt_X7_signAt : GoodIn wsX7_digitAt (wsV RX7 19 RX7 yX7_signAt wsX7_signAt) := goodIn_app (goodIn_of _ (by decide +kernel)) ggX7_digitAt_X7_signAt
theorem dX7_digitAt_0 : decode cX7_digitAt 0 = .ok (.aload_n 0, 1) := by decide +kernel
theorem dX7_digitAt_1 : decode cX7_digitAt 1 = .ok (.iload_n 1, 1) := by decide +kernel
theorem dX7_digitAt_2 : decode cX7_digitAt 2 = .ok (.invokevirtual 19, 3) := by decide +kernel
theorem dX7_digitAt_5 : decode cX7_digitAt 5 = .ok (.bipush 48, 2) := by decide +kernel
theorem dX7_digitAt_7 : decode cX7_digitAt 7 = .ok (.isub, 1) := by decide +kernel
theorem dX7_digitAt_8 : decode cX7_digitAt 8 = .ok (.ireturn, 1) := by decide +kernel
set_option maxRecDepth 20000 in
theorem ggX7_cellAt_X7_digitAt : GoodIn wsX7_cellAt wsX7_digitAt := goodIn_r _ [5, 6, 7, 8, 4, 9, 10, 11, 12, 13] (by decide +kernel) (by decide +kernel)
set_option maxRecDepth 20000 in
theorem gX7_cellAt_X7_digitAt : GoodIn wsX7_cellAt (wsV RX7 45 RX7 yX7_digitAt wsX7_digitAt) := goodIn_app (goodIn_of _ (by decide +kernel)) ggX7_cellAt_X7_digitAt
theorem dX7_cellAt_0 : decode cX7_cellAt 0 = .ok (.bipush 10, 2) := by decide +kernel
theorem dX7_cellAt_2 : decode cX7_cellAt 2 = .ok (.aload_n 0, 1) := by decide +kernel
theorem dX7_cellAt_3 : decode cX7_cellAt 3 = .ok (.iload_n 1, 1) := by decide +kernel
theorem dX7_cellAt_4 : decode cX7_cellAt 4 = .ok (.invokevirtual 45, 3) := by decide +kernel
theorem dX7_cellAt_7 : decode cX7_cellAt 7 = .ok (.imul, 1) := by decide +kernel
theorem dX7_cellAt_8 : decode cX7_cellAt 8 = .ok (.aload_n 0, 1) := by decide +kernel
theorem dX7_cellAt_9 : decode cX7_cellAt 9 = .ok (.iload_n 1, 1) := by decide +kernel
theorem dX7_cellAt_10 : decode cX7_cellAt 10 = .ok (.iconst 1, 1) := by decide +kernel
theorem dX7_cellAt_11 : decode cX7_cellAt 11 = .ok (.iadd, 1) := by decide +kernel
theorem dX7_cellAt_12 : decode cX7_cellAt 12 = .ok (.invokevirtual 45, 3) := by decide +kernel
theorem dX7_cellAt_15 : decode cX7_cellAt 15 = .ok (.iadd, 1) := by decide +kernel
theorem dX7_cellAt_16 : decode cX7_cellAt 16 = .ok (.ireturn, 1) := by decide +kernel
set_option maxRecDepth 20000 in
theorem ggX7_giveTo_X7_signAt : GoodIn wsX7_giveTo wsX7_signAt := goodIn_r _ [6, 1, 7, 137, 138] (by decide +kernel) (by decide +kernel)
set_option maxRecDepth 20000 in
theorem gX7_giveTo_X7_signAt : GoodIn wsX7_giveTo (wsV RX7 19 RX7 yX7_signAt wsX7_signAt) := goodIn_app (goodIn_of _ (by decide +kernel)) ggX7_giveTo_X7_signAt
set_option maxRecDepth 20000 in
theorem ggX7_giveTo_X7_kindOfSign : GoodIn wsX7_giveTo wsX7_kindOfSign := goodIn_r _ [10] (by decide +kernel) (by decide +kernel)
set_option maxRecDepth 20000 in
theorem gX7_giveTo_X7_kindOfSign : GoodIn wsX7_giveTo (va_wsS RX7 23 yX7_kindOfSign wsX7_kindOfSign) := goodIn_app (goodIn_of _ (by decide +kernel)) ggX7_giveTo_X7_kindOfSign
set_option maxRecDepth 20000 in
theorem ggX7_giveTo_X1_giveKind : GoodIn wsX7_giveTo wsX1_giveKind := goodIn_r _ [15, 16, 17, 18, 19, 20, 21, 14, 22, 23, 24, 25, 26, 27, 28, 29, 30, 31, 32, 33, 34, 35, 36, 37, 38, 39, 40, 41, 42, 43, 44, 45, 46, 47, 48, 49, 50, 51, 139, 140, 141, 142, 143, 144, 145, 146, 147, 148, 149, 150, 151, 152, 153, 154, 155, 156, 157, 158, 159, 160] (by decide +kernel) (by decide +kernel)
set_option maxRecDepth 20000 in
theorem gX7_giveTo_X1_giveKind : GoodIn wsX7_giveTo (wsV RX7 51 RX1 yX1_giveKind wsX1_giveKind) := goodIn_app (goodIn_of _ (by decide +kernel)) ggX7_giveTo_X1_giveKind
set_option maxRecDepth 20000 in
theorem ggX7_giveTo_X7_giveItem : GoodIn wsX7_giveTo wsX7_giveItem := goodIn_r _ [55, 2, 3, 4, 5, 6, 1, 7, 56, 57, 58, 59, 60, 61, 62, 63, 64, 65, 66, 14, 67, 27, 68, 69, 70, 71, 72, 73, 74, 75, 76, 77, 78, 79, 80, 16, 23, 24, 25, 26, 28, 29, 30, 31, 32, 33, 34, 35, 36, 37, 81, 82, 83, 84, 85, 86, 87, 88, 89, 90, 91, 92, 93, 94, 95, 42, 47, 96, 97, 98, 99, 38, 39, 40, 41, 43, 44, 45, 46, 100, 101, 102, 103, 104, 105, 106, 107, 108, 109, 110, 111, 112, 113, 114, 115, 116, 117, 118, 119, 120, 121, 122, 123, 124, 125, 126, 127, 128, 129, 130, 131, 132, 137, 138, 139, 140, 141, 142, 143, 144, 145, 146, 147, 148, 149, 150, 151, 152, 153, 154, 155, 156, 157, 158, 159, 160] (by decide +kernel) (by decide +kernel)
set_option maxRecDepth 20000 in
theorem gX7_giveTo_X7_giveItem : GoodIn wsX7_giveTo (wsV RX7 56 RX7 yX7_giveItem wsX7_giveItem) := goodIn_app (goodIn_of _ (by decide +kernel)) ggX7_giveTo_X7_giveItem
set_option maxRecDepth 20000 in
theorem ggX7_giveTo_X7_lengthOfItem : GoodIn wsX7_giveTo wsX7_lengthOfItem := goodIn_r _ [136, 2, 3, 4, 5, 6, 1, 7, 118, 119, 120, 121, 122, 123, 124, 125, 137, 138] (by decide +kernel) (by decide +kernel)
set_option maxRecDepth 20000 in
theorem gX7_giveTo_X7_lengthOfItem : GoodIn wsX7_giveTo (wsV RX7 29 RX7 yX7_lengthOfItem wsX7_lengthOfItem) := goodIn_app (goodIn_of _ (by decide +kernel)) ggX7_giveTo_X7_lengthOfItem
theorem dX7_giveTo_0 : decode cX7_giveTo 0 = .ok (.iconst 0, 1) := by decide +kernel
theorem dX7_giveTo_1 : decode cX7_giveTo 1 = .ok (.istore_n 2, 1) := by decide +kernel
theorem dX7_giveTo_2 : decode cX7_giveTo 2 = .ok (.iconst 0, 1) := by decide +kernel
theorem dX7_giveTo_3 : decode cX7_giveTo 3 = .ok (.istore_n 3, 1) := by decide +kernel
theorem dX7_giveTo_4 : decode cX7_giveTo 4 = .ok (.iload_n 3, 1) := by decide +kernel
theorem dX7_giveTo_5 : decode cX7_giveTo 5 = .ok (.bipush 36, 2) := by decide +kernel
theorem dX7_giveTo_7 : decode cX7_giveTo 7 = .ok (.if_icmp .ge 35, 3) := by decide +kernel
theorem dX7_giveTo_10 : decode cX7_giveTo 10 = .ok (.iload_n 2, 1) := by decide +kernel
theorem dX7_giveTo_11 : decode cX7_giveTo 11 = .ok (.aload_n 1, 1) := by decide +kernel
theorem dX7_giveTo_12 : decode cX7_giveTo 12 = .ok (.iload_n 3, 1) := by decide +kernel
theorem dX7_giveTo_13 : decode cX7_giveTo 13 = .ok (.aload_n 0, 1) := by decide +kernel
theorem dX7_giveTo_14 : decode cX7_giveTo 14 = .ok (.iconst 1, 1) := by decide +kernel
theorem dX7_giveTo_15 : decode cX7_giveTo 15 = .ok (.iload_n 3, 1) := by decide +kernel
theorem dX7_giveTo_16 : decode cX7_giveTo 16 = .ok (.iadd, 1) := by decide +kernel
theorem dX7_giveTo_17 : decode cX7_giveTo 17 = .ok (.invokevirtual 19, 3) := by decide +kernel
theorem dX7_giveTo_20 : decode cX7_giveTo 20 = .ok (.invokestatic 23, 3) := by decide +kernel
theorem dX7_giveTo_23 : decode cX7_giveTo 23 = .ok (.invokevirtual 51, 3) := by decide +kernel
theorem dX7_giveTo_26 : decode cX7_giveTo 26 = .ok (.ifCond .eq 7, 3) := by decide +kernel
theorem dX7_giveTo_29 : decode cX7_giveTo 29 = .ok (.iconst 0, 1) := by decide +kernel
theorem dX7_giveTo_30 : decode cX7_giveTo 30 = .ok (.goto 4, 3) := by decide +kernel
theorem dX7_giveTo_33 : decode cX7_giveTo 33 = .ok (.iconst 1, 1) := by decide +kernel
theorem dX7_giveTo_34 : decode cX7_giveTo 34 = .ok (.iadd, 1) := by decide +kernel
theorem dX7_giveTo_35 : decode cX7_giveTo 35 = .ok (.istore_n 2, 1) := by decide +kernel
theorem dX7_giveTo_36 : decode cX7_giveTo 36 = .ok (.iinc 3 1, 3) := by decide +kernel
theorem dX7_giveTo_39 : decode cX7_giveTo 39 = .ok (.goto (-35), 3) := by decide +kernel
theorem dX7_giveTo_42 : decode cX7_giveTo 42 = .ok (.bipush 37, 2) := by decide +kernel
theorem dX7_giveTo_44 : decode cX7_giveTo 44 = .ok (.istore_n 3, 1) := by decide +kernel
theorem dX7_giveTo_45 : decode cX7_giveTo 45 = .ok (.iconst 0, 1) := by decide +kernel
theorem dX7_giveTo_46 : decode cX7_giveTo 46 = .ok (.istore 4, 2) := by decide +kernel
theorem dX7_giveTo_48 : decode cX7_giveTo 48 = .ok (.iload 4, 2) := by decide +kernel
theorem dX7_giveTo_50 : decode cX7_giveTo 50 = .ok (.bipush 120, 2) := by decide +kernel
theorem dX7_giveTo_52 : decode cX7_giveTo 52 = .ok (.if_icmp .ge 34, 3) := by decide +kernel
theorem dX7_giveTo_55 : decode cX7_giveTo 55 = .ok (.iload_n 3, 1) := by decide +kernel
theorem dX7_giveTo_56 : decode cX7_giveTo 56 = .ok (.aload_n 0, 1) := by decide +kernel
theorem dX7_giveTo_57 : decode cX7_giveTo 57 = .ok (.getfield 15, 3) := by decide +kernel
theorem dX7_giveTo_60 : decode cX7_giveTo 60 = .ok (.if_icmp .ge 26, 3) := by decide +kernel
theorem dX7_giveTo_63 : decode cX7_giveTo 63 = .ok (.iload_n 2, 1) := by decide +kernel
theorem dX7_giveTo_64 : decode cX7_giveTo 64 = .ok (.aload_n 0, 1) := by decide +kernel
theorem dX7_giveTo_65 : decode cX7_giveTo 65 = .ok (.aload_n 1, 1) := by decide +kernel
theorem dX7_giveTo_66 : decode cX7_giveTo 66 = .ok (.iload_n 3, 1) := by decide +kernel
theorem dX7_giveTo_67 : decode cX7_giveTo 67 = .ok (.invokevirtual 56, 3) := by decide +kernel
theorem dX7_giveTo_70 : decode cX7_giveTo 70 = .ok (.iadd, 1) := by decide +kernel
theorem dX7_giveTo_71 : decode cX7_giveTo 71 = .ok (.istore_n 2, 1) := by decide +kernel
theorem dX7_giveTo_72 : decode cX7_giveTo 72 = .ok (.iload_n 3, 1) := by decide +kernel
theorem dX7_giveTo_73 : decode cX7_giveTo 73 = .ok (.aload_n 0, 1) := by decide +kernel
theorem dX7_giveTo_74 : decode cX7_giveTo 74 = .ok (.iload_n 3, 1) := by decide +kernel
theorem dX7_giveTo_75 : decode cX7_giveTo 75 = .ok (.invokevirtual 29, 3) := by decide +kernel
theorem dX7_giveTo_78 : decode cX7_giveTo 78 = .ok (.iadd, 1) := by decide +kernel
theorem dX7_giveTo_79 : decode cX7_giveTo 79 = .ok (.istore_n 3, 1) := by decide +kernel
theorem dX7_giveTo_80 : decode cX7_giveTo 80 = .ok (.iinc 4 1, 3) := by decide +kernel
theorem dX7_giveTo_83 : decode cX7_giveTo 83 = .ok (.goto (-35), 3) := by decide +kernel
theorem dX7_giveTo_86 : decode cX7_giveTo 86 = .ok (.iload_n 2, 1) := by decide +kernel
theorem dX7_giveTo_87 : decode cX7_giveTo 87 = .ok (.ireturn, 1) := by decide +kernel
set_option maxRecDepth 20000 in
theorem ggX7_giveItem_X7_signAt : GoodIn wsX7_giveItem wsX7_signAt := goodIn_r _ [5, 6, 7, 112, 113] (by decide +kernel) (by decide +kernel)
set_option maxRecDepth 20000 in
theorem gX7_giveItem_X7_signAt : GoodIn wsX7_giveItem (wsV RX7 19 RX7 yX7_signAt wsX7_signAt) := goodIn_app (goodIn_of _ (by decide +kernel)) ggX7_giveItem_X7_signAt
set_option maxRecDepth 20000 in
theorem ggX7_giveItem_X7_cellAt : GoodIn wsX7_giveItem wsX7_cellAt := goodIn_r _ [11, 12, 13, 14, 4, 15, 1, 2, 3, 5, 6, 7, 112, 113] (by decide +kernel) (by decide +kernel)
set_option maxRecDepth 20000 in
theorem gX7_giveItem_X7_cellAt : GoodIn wsX7_giveItem (wsV RX7 60 RX7 yX7_cellAt wsX7_cellAt) := goodIn_app (goodIn_of _ (by decide +kernel)) ggX7_giveItem_X7_cellAt
set_option maxRecDepth 20000 in
theorem ggX7_giveItem_X1_layCrate : GoodIn wsX7_giveItem wsX1_layCrate := goodIn_r _ [20, 21, 22, 23, 24, 25, 19, 26, 27, 28, 29, 30, 31, 32, 33, 34, 35, 36, 37, 38, 39, 40, 41, 42, 43, 44, 45, 46, 47, 48, 49, 50, 51, 52, 53, 54, 55, 56, 57, 58, 59, 60, 114, 115, 116, 117, 118, 119, 120, 121, 122, 123, 124, 125, 126, 127, 128, 129, 130, 131, 132, 133, 134, 135] (by decide +kernel) (by decide +kernel)
set_option maxRecDepth 20000 in
theorem gX7_giveItem_X1_layCrate : GoodIn wsX7_giveItem (wsV RX7 63 RX1 yX1_layCrate wsX1_layCrate) := goodIn_app (goodIn_of _ (by decide +kernel)) ggX7_giveItem_X1_layCrate
set_option maxRecDepth 20000 in
theorem ggX7_giveItem_X1_markCheckpoint : GoodIn wsX7_giveItem wsX1_markCheckpoint := goodIn_r _ [64, 65, 66, 67, 68, 69, 19, 70, 27, 28, 29, 30, 31, 32, 33, 34, 35, 71, 72, 73, 74, 75, 76, 77, 78, 114, 115, 116, 117, 118, 119, 120, 121, 122, 123, 124, 125] (by decide +kernel) (by decide +kernel)
set_option maxRecDepth 20000 in
theorem gX7_giveItem_X1_markCheckpoint : GoodIn wsX7_giveItem (wsV RX7 67 RX1 yX1_markCheckpoint wsX1_markCheckpoint) := goodIn_app (goodIn_of _ (by decide +kernel)) ggX7_giveItem_X1_markCheckpoint
set_option maxRecDepth 20000 in
theorem ggX7_giveItem_X7_digitAt : GoodIn wsX7_giveItem wsX7_digitAt := goodIn_r _ [15, 1, 2, 3, 4, 5, 6, 7, 112, 113] (by decide +kernel) (by decide +kernel)
set_option maxRecDepth 20000 in
theorem gX7_giveItem_X7_digitAt : GoodIn wsX7_giveItem (wsV RX7 45 RX7 yX7_digitAt wsX7_digitAt) := goodIn_app (goodIn_of _ (by decide +kernel)) ggX7_giveItem_X7_digitAt
set_option maxRecDepth 20000 in
theorem ggX7_giveItem_X1_placeRobot : GoodIn wsX7_giveItem wsX1_placeRobot := goodIn_r _ [82, 41, 83, 84, 85, 86, 19, 87, 21, 27, 28, 29, 30, 31, 32, 33, 34, 35, 47, 48, 45, 49, 88, 89, 90, 91, 40, 42, 126, 127, 128, 129, 130, 131, 132, 133, 134, 135, 114, 115, 116, 117, 118, 119, 120, 121, 122, 123, 124, 125] (by decide +kernel) (by decide +kernel)
set_option maxRecDepth 20000 in
theorem gX7_giveItem_X1_placeRobot : GoodIn wsX7_giveItem (wsV RX7 70 RX1 yX1_placeRobot wsX1_placeRobot) := goodIn_app (goodIn_of _ (by decide +kernel)) ggX7_giveItem_X1_placeRobot
set_option maxRecDepth 20000 in
theorem ggX7_giveItem_X1_robot : GoodIn wsX7_giveItem wsX1_robot := goodIn_r _ [91, 40, 42, 114, 115, 116, 117, 118, 119, 120, 121, 122, 123, 124, 125] (by decide +kernel) (by decide +kernel)
set_option maxRecDepth 20000 in
theorem gX7_giveItem_X1_robot : GoodIn wsX7_giveItem (wsV RX7 74 RX1 yX1_robot wsX1_robot) := goodIn_app (goodIn_of _ (by decide +kernel)) ggX7_giveItem_X1_robot
set_option maxRecDepth 20000 in
theorem ggX7_giveItem_X7_teach : GoodIn wsX7_giveItem wsX7_teach := goodIn_r _ [96, 97, 98, 99, 4, 100, 101, 102, 103, 104, 1, 2, 3, 5, 6, 7, 12, 13, 14, 15, 105, 106, 107, 108, 109, 110, 111, 112, 113, 126, 127, 128, 129, 130, 131, 132, 133, 134, 135] (by decide +kernel) (by decide +kernel)
set_option maxRecDepth 20000 in
theorem gX7_giveItem_X7_teach : GoodIn wsX7_giveItem (wsV RX7 78 RX7 yX7_teach wsX7_teach) := goodIn_app (goodIn_of _ (by decide +kernel)) ggX7_giveItem_X7_teach
theorem dX7_giveItem_0 : decode cX7_giveItem 0 = .ok (.aload_n 0, 1) := by decide +kernel
theorem dX7_giveItem_1 : decode cX7_giveItem 1 = .ok (.iload_n 2, 1) := by decide +kernel
theorem dX7_giveItem_2 : decode cX7_giveItem 2 = .ok (.invokevirtual 19, 3) := by decide +kernel
theorem dX7_giveItem_5 : decode cX7_giveItem 5 = .ok (.lookupswitch 109 #[(99, 35), (112, 55), (114, 75)], 35) := by decide +kernel
theorem dX7_giveItem_40 : decode cX7_giveItem 40 = .ok (.aload_n 1, 1) := by decide +kernel
theorem dX7_giveItem_41 : decode cX7_giveItem 41 = .ok (.aload_n 0, 1) := by decide +kernel
theorem dX7_giveItem_42 : decode cX7_giveItem 42 = .ok (.iload_n 2, 1) := by decide +kernel
theorem dX7_giveItem_43 : decode cX7_giveItem 43 = .ok (.iconst 1, 1) := by decide +kernel
theorem dX7_giveItem_44 : decode cX7_giveItem 44 = .ok (.iadd, 1) := by decide +kernel
theorem dX7_giveItem_45 : decode cX7_giveItem 45 = .ok (.invokevirtual 60, 3) := by decide +kernel
theorem dX7_giveItem_48 : decode cX7_giveItem 48 = .ok (.invokevirtual 63, 3) := by decide +kernel
theorem dX7_giveItem_51 : decode cX7_giveItem 51 = .ok (.ifCond .eq 7, 3) := by decide +kernel
theorem dX7_giveItem_54 : decode cX7_giveItem 54 = .ok (.iconst 0, 1) := by decide +kernel
theorem dX7_giveItem_55 : decode cX7_giveItem 55 = .ok (.goto 4, 3) := by decide +kernel
theorem dX7_giveItem_58 : decode cX7_giveItem 58 = .ok (.iconst 1, 1) := by decide +kernel
theorem dX7_giveItem_59 : decode cX7_giveItem 59 = .ok (.ireturn, 1) := by decide +kernel
theorem dX7_giveItem_60 : decode cX7_giveItem 60 = .ok (.aload_n 1, 1) := by decide +kernel
theorem dX7_giveItem_61 : decode cX7_giveItem 61 = .ok (.aload_n 0, 1) := by decide +kernel
theorem dX7_giveItem_62 : decode cX7_giveItem 62 = .ok (.iload_n 2, 1) := by decide +kernel
theorem dX7_giveItem_63 : decode cX7_giveItem 63 = .ok (.iconst 1, 1) := by decide +kernel
theorem dX7_giveItem_64 : decode cX7_giveItem 64 = .ok (.iadd, 1) := by decide +kernel
theorem dX7_giveItem_65 : decode cX7_giveItem 65 = .ok (.invokevirtual 60, 3) := by decide +kernel
theorem dX7_giveItem_68 : decode cX7_giveItem 68 = .ok (.invokevirtual 67, 3) := by decide +kernel
theorem dX7_giveItem_71 : decode cX7_giveItem 71 = .ok (.ifCond .eq 7, 3) := by decide +kernel
theorem dX7_giveItem_74 : decode cX7_giveItem 74 = .ok (.iconst 0, 1) := by decide +kernel
theorem dX7_giveItem_75 : decode cX7_giveItem 75 = .ok (.goto 4, 3) := by decide +kernel
theorem dX7_giveItem_78 : decode cX7_giveItem 78 = .ok (.iconst 1, 1) := by decide +kernel
theorem dX7_giveItem_79 : decode cX7_giveItem 79 = .ok (.ireturn, 1) := by decide +kernel
theorem dX7_giveItem_80 : decode cX7_giveItem 80 = .ok (.aload_n 1, 1) := by decide +kernel
theorem dX7_giveItem_81 : decode cX7_giveItem 81 = .ok (.aload_n 0, 1) := by decide +kernel
theorem dX7_giveItem_82 : decode cX7_giveItem 82 = .ok (.iload_n 2, 1) := by decide +kernel
theorem dX7_giveItem_83 : decode cX7_giveItem 83 = .ok (.iconst 1, 1) := by decide +kernel
theorem dX7_giveItem_84 : decode cX7_giveItem 84 = .ok (.iadd, 1) := by decide +kernel
theorem dX7_giveItem_85 : decode cX7_giveItem 85 = .ok (.invokevirtual 45, 3) := by decide +kernel
theorem dX7_giveItem_88 : decode cX7_giveItem 88 = .ok (.aload_n 0, 1) := by decide +kernel
theorem dX7_giveItem_89 : decode cX7_giveItem 89 = .ok (.iload_n 2, 1) := by decide +kernel
theorem dX7_giveItem_90 : decode cX7_giveItem 90 = .ok (.iconst 2, 1) := by decide +kernel
theorem dX7_giveItem_91 : decode cX7_giveItem 91 = .ok (.iadd, 1) := by decide +kernel
theorem dX7_giveItem_92 : decode cX7_giveItem 92 = .ok (.invokevirtual 60, 3) := by decide +kernel
theorem dX7_giveItem_95 : decode cX7_giveItem 95 = .ok (.aload_n 0, 1) := by decide +kernel
theorem dX7_giveItem_96 : decode cX7_giveItem 96 = .ok (.iload_n 2, 1) := by decide +kernel
theorem dX7_giveItem_97 : decode cX7_giveItem 97 = .ok (.iconst 4, 1) := by decide +kernel
theorem dX7_giveItem_98 : decode cX7_giveItem 98 = .ok (.iadd, 1) := by decide +kernel
theorem dX7_giveItem_99 : decode cX7_giveItem 99 = .ok (.invokevirtual 45, 3) := by decide +kernel
theorem dX7_giveItem_102 : decode cX7_giveItem 102 = .ok (.invokevirtual 70, 3) := by decide +kernel
theorem dX7_giveItem_105 : decode cX7_giveItem 105 = .ok (.ifCond .eq 7, 3) := by decide +kernel
theorem dX7_giveItem_108 : decode cX7_giveItem 108 = .ok (.iconst 0, 1) := by decide +kernel
theorem dX7_giveItem_109 : decode cX7_giveItem 109 = .ok (.goto 4, 3) := by decide +kernel
theorem dX7_giveItem_112 : decode cX7_giveItem 112 = .ok (.iconst 1, 1) := by decide +kernel
theorem dX7_giveItem_113 : decode cX7_giveItem 113 = .ok (.ireturn, 1) := by decide +kernel
theorem dX7_giveItem_114 : decode cX7_giveItem 114 = .ok (.aload_n 0, 1) := by decide +kernel
theorem dX7_giveItem_115 : decode cX7_giveItem 115 = .ok (.aload_n 1, 1) := by decide +kernel
theorem dX7_giveItem_116 : decode cX7_giveItem 116 = .ok (.aload_n 0, 1) := by decide +kernel
theorem dX7_giveItem_117 : decode cX7_giveItem 117 = .ok (.iload_n 2, 1) := by decide +kernel
theorem dX7_giveItem_118 : decode cX7_giveItem 118 = .ok (.iconst 1, 1) := by decide +kernel
theorem dX7_giveItem_119 : decode cX7_giveItem 119 = .ok (.iadd, 1) := by decide +kernel
theorem dX7_giveItem_120 : decode cX7_giveItem 120 = .ok (.invokevirtual 45, 3) := by decide +kernel
theorem dX7_giveItem_123 : decode cX7_giveItem 123 = .ok (.invokevirtual 74, 3) := by decide +kernel
theorem dX7_giveItem_126 : decode cX7_giveItem 126 = .ok (.iload_n 2, 1) := by decide +kernel
theorem dX7_giveItem_127 : decode cX7_giveItem 127 = .ok (.iconst 2, 1) := by decide +kernel
theorem dX7_giveItem_128 : decode cX7_giveItem 128 = .ok (.iadd, 1) := by decide +kernel
theorem dX7_giveItem_129 : decode cX7_giveItem 129 = .ok (.invokevirtual 78, 3) := by decide +kernel
theorem dX7_giveItem_132 : decode cX7_giveItem 132 = .ok (.ireturn, 1) := by decide +kernel
set_option maxRecDepth 20000 in
theorem ggX7_teach_X7_instructionsFrom : GoodIn wsX7_teach wsX7_instructionsFrom := goodIn_r _ [5, 6, 7, 8, 4, 9, 10, 11, 12, 13, 14, 15, 27, 28] (by decide +kernel) (by decide +kernel)
set_option maxRecDepth 20000 in
theorem gX7_teach_X7_instructionsFrom : GoodIn wsX7_teach (wsV RX7 48 RX7 yX7_instructionsFrom wsX7_instructionsFrom) := goodIn_app (goodIn_of _ (by decide +kernel)) ggX7_teach_X7_instructionsFrom
set_option maxRecDepth 20000 in
theorem ggX7_teach_X7_digitAt : GoodIn wsX7_teach wsX7_digitAt := goodIn_r _ [19, 10, 11, 12, 4, 13, 14, 15, 27, 28] (by decide +kernel) (by decide +kernel)
set_option maxRecDepth 20000 in
theorem gX7_teach_X7_digitAt : GoodIn wsX7_teach (wsV RX7 45 RX7 yX7_digitAt wsX7_digitAt) := goodIn_app (goodIn_of _ (by decide +kernel)) ggX7_teach_X7_digitAt
set_option maxRecDepth 20000 in
theorem ggX7_teach_X4_learn : GoodIn wsX7_teach wsX4_learn := goodIn_r _ [24, 25, 26, 29, 30, 31, 32, 33, 34, 35, 36, 37, 38] (by decide +kernel) (by decide +kernel)
set_option maxRecDepth 20000 in
theorem gX7_teach_X4_learn : GoodIn wsX7_teach (wsV RX7 82 RX4 yX4_learn wsX4_learn) := goodIn_app (goodIn_of _ (by decide +kernel)) ggX7_teach_X4_learn
theorem dX7_teach_0 : decode cX7_teach 0 = .ok (.aload_n 0, 1) := by decide +kernel
theorem dX7_teach_1 : decode cX7_teach 1 = .ok (.iload_n 2, 1) := by decide +kernel
theorem dX7_teach_2 : decode cX7_teach 2 = .ok (.invokevirtual 48, 3) := by decide +kernel
theorem dX7_teach_5 : decode cX7_teach 5 = .ok (.istore_n 3, 1) := by decide +kernel
theorem dX7_teach_6 : decode cX7_teach 6 = .ok (.iconst 0, 1) := by decide +kernel
theorem dX7_teach_7 : decode cX7_teach 7 = .ok (.istore 4, 2) := by decide +kernel
theorem dX7_teach_9 : decode cX7_teach 9 = .ok (.iconst 0, 1) := by decide +kernel
theorem dX7_teach_10 : decode cX7_teach 10 = .ok (.istore 5, 2) := by decide +kernel
theorem dX7_teach_12 : decode cX7_teach 12 = .ok (.iload 5, 2) := by decide +kernel
theorem dX7_teach_14 : decode cX7_teach 14 = .ok (.iload_n 3, 1) := by decide +kernel
theorem dX7_teach_15 : decode cX7_teach 15 = .ok (.if_icmp .ge 34, 3) := by decide +kernel
theorem dX7_teach_18 : decode cX7_teach 18 = .ok (.iload 4, 2) := by decide +kernel
theorem dX7_teach_20 : decode cX7_teach 20 = .ok (.aload_n 1, 1) := by decide +kernel
theorem dX7_teach_21 : decode cX7_teach 21 = .ok (.aload_n 0, 1) := by decide +kernel
theorem dX7_teach_22 : decode cX7_teach 22 = .ok (.iload_n 2, 1) := by decide +kernel
theorem dX7_teach_23 : decode cX7_teach 23 = .ok (.iload 5, 2) := by decide +kernel
theorem dX7_teach_25 : decode cX7_teach 25 = .ok (.iadd, 1) := by decide +kernel
theorem dX7_teach_26 : decode cX7_teach 26 = .ok (.invokevirtual 45, 3) := by decide +kernel
theorem dX7_teach_29 : decode cX7_teach 29 = .ok (.invokevirtual 82, 3) := by decide +kernel
theorem dX7_teach_32 : decode cX7_teach 32 = .ok (.ifCond .eq 7, 3) := by decide +kernel
theorem dX7_teach_35 : decode cX7_teach 35 = .ok (.iconst 0, 1) := by decide +kernel
theorem dX7_teach_36 : decode cX7_teach 36 = .ok (.goto 4, 3) := by decide +kernel
theorem dX7_teach_39 : decode cX7_teach 39 = .ok (.iconst 1, 1) := by decide +kernel
theorem dX7_teach_40 : decode cX7_teach 40 = .ok (.iadd, 1) := by decide +kernel
theorem dX7_teach_41 : decode cX7_teach 41 = .ok (.istore 4, 2) := by decide +kernel
theorem dX7_teach_43 : decode cX7_teach 43 = .ok (.iinc 5 1, 3) := by decide +kernel
theorem dX7_teach_46 : decode cX7_teach 46 = .ok (.goto (-34), 3) := by decide +kernel
theorem dX7_teach_49 : decode cX7_teach 49 = .ok (.iload 4, 2) := by decide +kernel
theorem dX7_teach_51 : decode cX7_teach 51 = .ok (.ireturn, 1) := by decide +kernel
