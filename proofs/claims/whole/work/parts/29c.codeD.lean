set_option maxRecDepth 20000 in
theorem ggX9_init_X9_clear : GoodIn wsX9_init wsX9_clear := goodIn_r _ [22] (by decide +kernel) (by decide +kernel)
set_option maxRecDepth 20000 in
theorem gX9_init_X9_clear : GoodIn wsX9_init (va_wsS RX9 50 yX9_clear wsX9_clear) := goodIn_app (goodIn_of _ (by decide +kernel)) ggX9_init_X9_clear
theorem dX9_init_0 : decode cX9_init 0 = .ok (.aload_n 0, 1) := by decide +kernel
theorem dX9_init_1 : decode cX9_init 1 = .ok (.invokespecial 1, 3) := by decide +kernel
theorem dX9_init_4 : decode cX9_init 4 = .ok (.aload_n 0, 1) := by decide +kernel
theorem dX9_init_5 : decode cX9_init 5 = .ok (.bipush 120, 2) := by decide +kernel
theorem dX9_init_7 : decode cX9_init 7 = .ok (.newarray .int, 2) := by decide +kernel
theorem dX9_init_9 : decode cX9_init 9 = .ok (.putfield 7, 3) := by decide +kernel
theorem dX9_init_12 : decode cX9_init 12 = .ok (.aload_n 0, 1) := by decide +kernel
theorem dX9_init_13 : decode cX9_init 13 = .ok (.bipush 117, 2) := by decide +kernel
theorem dX9_init_15 : decode cX9_init 15 = .ok (.newarray .int, 2) := by decide +kernel
theorem dX9_init_17 : decode cX9_init 17 = .ok (.putfield 13, 3) := by decide +kernel
theorem dX9_init_20 : decode cX9_init 20 = .ok (.aload_n 0, 1) := by decide +kernel
theorem dX9_init_21 : decode cX9_init 21 = .ok (.bipush 117, 2) := by decide +kernel
theorem dX9_init_23 : decode cX9_init 23 = .ok (.newarray .int, 2) := by decide +kernel
theorem dX9_init_25 : decode cX9_init 25 = .ok (.putfield 16, 3) := by decide +kernel
theorem dX9_init_28 : decode cX9_init 28 = .ok (.aload_n 0, 1) := by decide +kernel
theorem dX9_init_29 : decode cX9_init 29 = .ok (.bipush 117, 2) := by decide +kernel
theorem dX9_init_31 : decode cX9_init 31 = .ok (.newarray .int, 2) := by decide +kernel
theorem dX9_init_33 : decode cX9_init 33 = .ok (.putfield 19, 3) := by decide +kernel
theorem dX9_init_36 : decode cX9_init 36 = .ok (.aload_n 0, 1) := by decide +kernel
theorem dX9_init_37 : decode cX9_init 37 = .ok (.sipush 1638, 3) := by decide +kernel
theorem dX9_init_40 : decode cX9_init 40 = .ok (.newarray .int, 2) := by decide +kernel
theorem dX9_init_42 : decode cX9_init 42 = .ok (.putfield 22, 3) := by decide +kernel
theorem dX9_init_45 : decode cX9_init 45 = .ok (.aload_n 0, 1) := by decide +kernel
theorem dX9_init_46 : decode cX9_init 46 = .ok (.sipush 234, 3) := by decide +kernel
theorem dX9_init_49 : decode cX9_init 49 = .ok (.newarray .int, 2) := by decide +kernel
theorem dX9_init_51 : decode cX9_init 51 = .ok (.putfield 25, 3) := by decide +kernel
theorem dX9_init_54 : decode cX9_init 54 = .ok (.aload_n 0, 1) := by decide +kernel
theorem dX9_init_55 : decode cX9_init 55 = .ok (.iconst 2, 1) := by decide +kernel
theorem dX9_init_56 : decode cX9_init 56 = .ok (.newarray .boolean, 2) := by decide +kernel
theorem dX9_init_58 : decode cX9_init 58 = .ok (.putfield 28, 3) := by decide +kernel
theorem dX9_init_61 : decode cX9_init 61 = .ok (.aload_n 0, 1) := by decide +kernel
theorem dX9_init_62 : decode cX9_init 62 = .ok (.iconst 2, 1) := by decide +kernel
theorem dX9_init_63 : decode cX9_init 63 = .ok (.newarray .int, 2) := by decide +kernel
theorem dX9_init_65 : decode cX9_init 65 = .ok (.putfield 32, 3) := by decide +kernel
theorem dX9_init_68 : decode cX9_init 68 = .ok (.aload_n 0, 1) := by decide +kernel
theorem dX9_init_69 : decode cX9_init 69 = .ok (.iconst 2, 1) := by decide +kernel
theorem dX9_init_70 : decode cX9_init 70 = .ok (.newarray .int, 2) := by decide +kernel
theorem dX9_init_72 : decode cX9_init 72 = .ok (.putfield 35, 3) := by decide +kernel
theorem dX9_init_75 : decode cX9_init 75 = .ok (.aload_n 0, 1) := by decide +kernel
theorem dX9_init_76 : decode cX9_init 76 = .ok (.bipush 36, 2) := by decide +kernel
theorem dX9_init_78 : decode cX9_init 78 = .ok (.newarray .int, 2) := by decide +kernel
theorem dX9_init_80 : decode cX9_init 80 = .ok (.putfield 38, 3) := by decide +kernel
theorem dX9_init_83 : decode cX9_init 83 = .ok (.aload_n 0, 1) := by decide +kernel
theorem dX9_init_84 : decode cX9_init 84 = .ok (.bipush 36, 2) := by decide +kernel
theorem dX9_init_86 : decode cX9_init 86 = .ok (.newarray .int, 2) := by decide +kernel
theorem dX9_init_88 : decode cX9_init 88 = .ok (.putfield 41, 3) := by decide +kernel
theorem dX9_init_91 : decode cX9_init 91 = .ok (.aload_n 0, 1) := by decide +kernel
theorem dX9_init_92 : decode cX9_init 92 = .ok (.sipush 144, 3) := by decide +kernel
theorem dX9_init_95 : decode cX9_init 95 = .ok (.newarray .int, 2) := by decide +kernel
theorem dX9_init_97 : decode cX9_init 97 = .ok (.putfield 44, 3) := by decide +kernel
theorem dX9_init_100 : decode cX9_init 100 = .ok (.aload_n 0, 1) := by decide +kernel
theorem dX9_init_101 : decode cX9_init 101 = .ok (.sipush 144, 3) := by decide +kernel
theorem dX9_init_104 : decode cX9_init 104 = .ok (.newarray .int, 2) := by decide +kernel
theorem dX9_init_106 : decode cX9_init 106 = .ok (.putfield 47, 3) := by decide +kernel
theorem dX9_init_109 : decode cX9_init 109 = .ok (.aload_n 0, 1) := by decide +kernel
theorem dX9_init_110 : decode cX9_init 110 = .ok (.getfield 13, 3) := by decide +kernel
theorem dX9_init_113 : decode cX9_init 113 = .ok (.invokestatic 50, 3) := by decide +kernel
theorem dX9_init_116 : decode cX9_init 116 = .ok (.return_, 1) := by decide +kernel
theorem dX9_thrown_0 : decode cX9_thrown 0 = .ok (.aload_n 0, 1) := by decide +kernel
theorem dX9_thrown_1 : decode cX9_thrown 1 = .ok (.getfield 54, 3) := by decide +kernel
theorem dX9_thrown_4 : decode cX9_thrown 4 = .ok (.ireturn, 1) := by decide +kernel
theorem dX9_refused_0 : decode cX9_refused 0 = .ok (.aload_n 0, 1) := by decide +kernel
theorem dX9_refused_1 : decode cX9_refused 1 = .ok (.iload_n 1, 1) := by decide +kernel
theorem dX9_refused_2 : decode cX9_refused 2 = .ok (.putfield 54, 3) := by decide +kernel
theorem dX9_refused_5 : decode cX9_refused 5 = .ok (.iload_n 1, 1) := by decide +kernel
theorem dX9_refused_6 : decode cX9_refused 6 = .ok (.ifCond .le 7, 3) := by decide +kernel
theorem dX9_refused_9 : decode cX9_refused 9 = .ok (.iconst 1, 1) := by decide +kernel
theorem dX9_refused_10 : decode cX9_refused 10 = .ok (.goto 4, 3) := by decide +kernel
theorem dX9_refused_13 : decode cX9_refused 13 = .ok (.iconst 0, 1) := by decide +kernel
theorem dX9_refused_14 : decode cX9_refused 14 = .ok (.ireturn, 1) := by decide +kernel
theorem dX9_in_0 : decode cX9_in 0 = .ok (.lload_n 0, 1) := by decide +kernel
theorem dX9_in_1 : decode cX9_in 1 = .ok (.lload_n 2, 1) := by decide +kernel
theorem dX9_in_2 : decode cX9_in 2 = .ok (.lcmp, 1) := by decide +kernel
theorem dX9_in_3 : decode cX9_in 3 = .ok (.ifCond .lt 14, 3) := by decide +kernel
theorem dX9_in_6 : decode cX9_in 6 = .ok (.lload_n 0, 1) := by decide +kernel
theorem dX9_in_7 : decode cX9_in 7 = .ok (.lload 4, 2) := by decide +kernel
theorem dX9_in_9 : decode cX9_in 9 = .ok (.lcmp, 1) := by decide +kernel
theorem dX9_in_10 : decode cX9_in 10 = .ok (.ifCond .gt 7, 3) := by decide +kernel
theorem dX9_in_13 : decode cX9_in 13 = .ok (.iconst 1, 1) := by decide +kernel
theorem dX9_in_14 : decode cX9_in 14 = .ok (.goto 4, 3) := by decide +kernel
theorem dX9_in_17 : decode cX9_in 17 = .ok (.iconst 0, 1) := by decide +kernel
theorem dX9_in_18 : decode cX9_in 18 = .ok (.ireturn, 1) := by decide +kernel
theorem dX9_copyState_0 : decode cX9_copyState 0 = .ok (.iconst 0, 1) := by decide +kernel
theorem dX9_copyState_1 : decode cX9_copyState 1 = .ok (.istore 4, 2) := by decide +kernel
theorem dX9_copyState_3 : decode cX9_copyState 3 = .ok (.iload 4, 2) := by decide +kernel
theorem dX9_copyState_5 : decode cX9_copyState 5 = .ok (.bipush 117, 2) := by decide +kernel
theorem dX9_copyState_7 : decode cX9_copyState 7 = .ok (.if_icmp .ge 21, 3) := by decide +kernel
theorem dX9_copyState_10 : decode cX9_copyState 10 = .ok (.aload_n 2, 1) := by decide +kernel
theorem dX9_copyState_11 : decode cX9_copyState 11 = .ok (.iload_n 3, 1) := by decide +kernel
theorem dX9_copyState_12 : decode cX9_copyState 12 = .ok (.iload 4, 2) := by decide +kernel
theorem dX9_copyState_14 : decode cX9_copyState 14 = .ok (.iadd, 1) := by decide +kernel
theorem dX9_copyState_15 : decode cX9_copyState 15 = .ok (.aload_n 0, 1) := by decide +kernel
theorem dX9_copyState_16 : decode cX9_copyState 16 = .ok (.iload_n 1, 1) := by decide +kernel
theorem dX9_copyState_17 : decode cX9_copyState 17 = .ok (.iload 4, 2) := by decide +kernel
theorem dX9_copyState_19 : decode cX9_copyState 19 = .ok (.iadd, 1) := by decide +kernel
theorem dX9_copyState_20 : decode cX9_copyState 20 = .ok (.iaload, 1) := by decide +kernel
theorem dX9_copyState_21 : decode cX9_copyState 21 = .ok (.iastore, 1) := by decide +kernel
theorem dX9_copyState_22 : decode cX9_copyState 22 = .ok (.iinc 4 1, 3) := by decide +kernel
theorem dX9_copyState_25 : decode cX9_copyState 25 = .ok (.goto (-22), 3) := by decide +kernel
theorem dX9_copyState_28 : decode cX9_copyState 28 = .ok (.return_, 1) := by decide +kernel
theorem dX9_clear_0 : decode cX9_clear 0 = .ok (.iconst 0, 1) := by decide +kernel
theorem dX9_clear_1 : decode cX9_clear 1 = .ok (.istore_n 1, 1) := by decide +kernel
theorem dX9_clear_2 : decode cX9_clear 2 = .ok (.iload_n 1, 1) := by decide +kernel
theorem dX9_clear_3 : decode cX9_clear 3 = .ok (.bipush 117, 2) := by decide +kernel
theorem dX9_clear_5 : decode cX9_clear 5 = .ok (.if_icmp .ge 13, 3) := by decide +kernel
theorem dX9_clear_8 : decode cX9_clear 8 = .ok (.aload_n 0, 1) := by decide +kernel
theorem dX9_clear_9 : decode cX9_clear 9 = .ok (.iload_n 1, 1) := by decide +kernel
theorem dX9_clear_10 : decode cX9_clear 10 = .ok (.iconst 0, 1) := by decide +kernel
theorem dX9_clear_11 : decode cX9_clear 11 = .ok (.iastore, 1) := by decide +kernel
theorem dX9_clear_12 : decode cX9_clear 12 = .ok (.iinc 1 1, 3) := by decide +kernel
theorem dX9_clear_15 : decode cX9_clear 15 = .ok (.goto (-13), 3) := by decide +kernel
theorem dX9_clear_18 : decode cX9_clear 18 = .ok (.aload_n 0, 1) := by decide +kernel
theorem dX9_clear_19 : decode cX9_clear 19 = .ok (.bipush 72, 2) := by decide +kernel
theorem dX9_clear_21 : decode cX9_clear 21 = .ok (.bipush 30, 2) := by decide +kernel
theorem dX9_clear_23 : decode cX9_clear 23 = .ok (.iastore, 1) := by decide +kernel
theorem dX9_clear_24 : decode cX9_clear 24 = .ok (.aload_n 0, 1) := by decide +kernel
theorem dX9_clear_25 : decode cX9_clear 25 = .ok (.bipush 81, 2) := by decide +kernel
theorem dX9_clear_27 : decode cX9_clear 27 = .ok (.bipush 35, 2) := by decide +kernel
theorem dX9_clear_29 : decode cX9_clear 29 = .ok (.iastore, 1) := by decide +kernel
theorem dX9_clear_30 : decode cX9_clear 30 = .ok (.aload_n 0, 1) := by decide +kernel
theorem dX9_clear_31 : decode cX9_clear 31 = .ok (.bipush 74, 2) := by decide +kernel
theorem dX9_clear_33 : decode cX9_clear 33 = .ok (.iconst 1, 1) := by decide +kernel
theorem dX9_clear_34 : decode cX9_clear 34 = .ok (.iastore, 1) := by decide +kernel
theorem dX9_clear_35 : decode cX9_clear 35 = .ok (.aload_n 0, 1) := by decide +kernel
theorem dX9_clear_36 : decode cX9_clear 36 = .ok (.bipush 83, 2) := by decide +kernel
theorem dX9_clear_38 : decode cX9_clear 38 = .ok (.iconst 1, 1) := by decide +kernel
theorem dX9_clear_39 : decode cX9_clear 39 = .ok (.iastore, 1) := by decide +kernel
theorem dX9_clear_40 : decode cX9_clear 40 = .ok (.return_, 1) := by decide +kernel
set_option maxRecDepth 20000 in
theorem ggX9_isCell_X9_in : GoodIn wsX9_isCell wsX9_in := goodIn_r _ [5] (by decide +kernel) (by decide +kernel)
set_option maxRecDepth 20000 in
theorem gX9_isCell_X9_in : GoodIn wsX9_isCell (va_wsS RX9 60 yX9_in wsX9_in) := goodIn_app (goodIn_of _ (by decide +kernel)) ggX9_isCell_X9_in
theorem dX9_isCell_0 : decode cX9_isCell 0 = .ok (.iload_n 0, 1) := by decide +kernel
theorem dX9_isCell_1 : decode cX9_isCell 1 = .ok (.i2l, 1) := by decide +kernel
theorem dX9_isCell_2 : decode cX9_isCell 2 = .ok (.lconst 0, 1) := by decide +kernel
theorem dX9_isCell_3 : decode cX9_isCell 3 = .ok (.ldc2_w 58, 3) := by decide +kernel
theorem dX9_isCell_6 : decode cX9_isCell 6 = .ok (.invokestatic 60, 3) := by decide +kernel
theorem dX9_isCell_9 : decode cX9_isCell 9 = .ok (.ireturn, 1) := by decide +kernel
set_option maxRecDepth 20000 in
theorem ggX9_isRobot_X9_in : GoodIn wsX9_isRobot wsX9_in := goodIn_r _ [4] (by decide +kernel) (by decide +kernel)
set_option maxRecDepth 20000 in
theorem gX9_isRobot_X9_in : GoodIn wsX9_isRobot (va_wsS RX9 60 yX9_in wsX9_in) := goodIn_app (goodIn_of _ (by decide +kernel)) ggX9_isRobot_X9_in
theorem dX9_isRobot_0 : decode cX9_isRobot 0 = .ok (.iload_n 0, 1) := by decide +kernel
theorem dX9_isRobot_1 : decode cX9_isRobot 1 = .ok (.i2l, 1) := by decide +kernel
theorem dX9_isRobot_2 : decode cX9_isRobot 2 = .ok (.lconst 0, 1) := by decide +kernel
theorem dX9_isRobot_3 : decode cX9_isRobot 3 = .ok (.lconst 1, 1) := by decide +kernel
theorem dX9_isRobot_4 : decode cX9_isRobot 4 = .ok (.invokestatic 60, 3) := by decide +kernel
theorem dX9_isRobot_7 : decode cX9_isRobot 7 = .ok (.ireturn, 1) := by decide +kernel
theorem dX9_of_0 : decode cX9_of 0 = .ok (.aload_n 0, 1) := by decide +kernel
theorem dX9_of_1 : decode cX9_of 1 = .ok (.bipush 72, 2) := by decide +kernel
theorem dX9_of_3 : decode cX9_of 3 = .ok (.bipush 9, 2) := by decide +kernel
theorem dX9_of_5 : decode cX9_of 5 = .ok (.iload_n 1, 1) := by decide +kernel
theorem dX9_of_6 : decode cX9_of 6 = .ok (.imul, 1) := by decide +kernel
theorem dX9_of_7 : decode cX9_of 7 = .ok (.iadd, 1) := by decide +kernel
theorem dX9_of_8 : decode cX9_of 8 = .ok (.iload_n 2, 1) := by decide +kernel
theorem dX9_of_9 : decode cX9_of 9 = .ok (.iadd, 1) := by decide +kernel
theorem dX9_of_10 : decode cX9_of 10 = .ok (.iaload, 1) := by decide +kernel
theorem dX9_of_11 : decode cX9_of 11 = .ok (.ireturn, 1) := by decide +kernel
theorem dX9_puts_0 : decode cX9_puts 0 = .ok (.aload_n 0, 1) := by decide +kernel
theorem dX9_puts_1 : decode cX9_puts 1 = .ok (.bipush 72, 2) := by decide +kernel
theorem dX9_puts_3 : decode cX9_puts 3 = .ok (.bipush 9, 2) := by decide +kernel
theorem dX9_puts_5 : decode cX9_puts 5 = .ok (.iload_n 1, 1) := by decide +kernel
theorem dX9_puts_6 : decode cX9_puts 6 = .ok (.imul, 1) := by decide +kernel
theorem dX9_puts_7 : decode cX9_puts 7 = .ok (.iadd, 1) := by decide +kernel
theorem dX9_puts_8 : decode cX9_puts 8 = .ok (.iload_n 2, 1) := by decide +kernel
theorem dX9_puts_9 : decode cX9_puts 9 = .ok (.iadd, 1) := by decide +kernel
theorem dX9_puts_10 : decode cX9_puts 10 = .ok (.iload_n 3, 1) := by decide +kernel
theorem dX9_puts_11 : decode cX9_puts 11 = .ok (.iastore, 1) := by decide +kernel
theorem dX9_puts_12 : decode cX9_puts 12 = .ok (.return_, 1) := by decide +kernel
theorem dX9_adds_0 : decode cX9_adds 0 = .ok (.aload_n 0, 1) := by decide +kernel
theorem dX9_adds_1 : decode cX9_adds 1 = .ok (.bipush 72, 2) := by decide +kernel
theorem dX9_adds_3 : decode cX9_adds 3 = .ok (.bipush 9, 2) := by decide +kernel
theorem dX9_adds_5 : decode cX9_adds 5 = .ok (.iload_n 1, 1) := by decide +kernel
theorem dX9_adds_6 : decode cX9_adds 6 = .ok (.imul, 1) := by decide +kernel
theorem dX9_adds_7 : decode cX9_adds 7 = .ok (.iadd, 1) := by decide +kernel
theorem dX9_adds_8 : decode cX9_adds 8 = .ok (.iload_n 2, 1) := by decide +kernel
theorem dX9_adds_9 : decode cX9_adds 9 = .ok (.iadd, 1) := by decide +kernel
theorem dX9_adds_10 : decode cX9_adds 10 = .ok (.dup2, 1) := by decide +kernel
theorem dX9_adds_11 : decode cX9_adds 11 = .ok (.iaload, 1) := by decide +kernel
theorem dX9_adds_12 : decode cX9_adds 12 = .ok (.iload_n 3, 1) := by decide +kernel
theorem dX9_adds_13 : decode cX9_adds 13 = .ok (.iadd, 1) := by decide +kernel
theorem dX9_adds_14 : decode cX9_adds 14 = .ok (.iastore, 1) := by decide +kernel
theorem dX9_adds_15 : decode cX9_adds 15 = .ok (.return_, 1) := by decide +kernel
set_option maxRecDepth 20000 in
theorem ggX9_robotAt_X9_of : GoodIn wsX9_robotAt wsX9_of := goodIn_r _ [4] (by decide +kernel) (by decide +kernel)
set_option maxRecDepth 20000 in
theorem gX9_robotAt_X9_of : GoodIn wsX9_robotAt (va_wsS RX9 64 yX9_of wsX9_of) := goodIn_app (goodIn_of _ (by decide +kernel)) ggX9_robotAt_X9_of
theorem dX9_robotAt_0 : decode cX9_robotAt 0 = .ok (.aload_n 0, 1) := by decide +kernel
theorem dX9_robotAt_1 : decode cX9_robotAt 1 = .ok (.iconst 0, 1) := by decide +kernel
theorem dX9_robotAt_2 : decode cX9_robotAt 2 = .ok (.iconst 0, 1) := by decide +kernel
theorem dX9_robotAt_3 : decode cX9_robotAt 3 = .ok (.invokestatic 64, 3) := by decide +kernel
theorem dX9_robotAt_6 : decode cX9_robotAt 6 = .ok (.iload_n 1, 1) := by decide +kernel
theorem dX9_robotAt_7 : decode cX9_robotAt 7 = .ok (.if_icmp .ne 7, 3) := by decide +kernel
theorem dX9_robotAt_10 : decode cX9_robotAt 10 = .ok (.iconst 0, 1) := by decide +kernel
theorem dX9_robotAt_11 : decode cX9_robotAt 11 = .ok (.goto 18, 3) := by decide +kernel
theorem dX9_robotAt_14 : decode cX9_robotAt 14 = .ok (.aload_n 0, 1) := by decide +kernel
theorem dX9_robotAt_15 : decode cX9_robotAt 15 = .ok (.iconst 1, 1) := by decide +kernel
theorem dX9_robotAt_16 : decode cX9_robotAt 16 = .ok (.iconst 0, 1) := by decide +kernel
theorem dX9_robotAt_17 : decode cX9_robotAt 17 = .ok (.invokestatic 64, 3) := by decide +kernel
theorem dX9_robotAt_20 : decode cX9_robotAt 20 = .ok (.iload_n 1, 1) := by decide +kernel
theorem dX9_robotAt_21 : decode cX9_robotAt 21 = .ok (.if_icmp .ne 7, 3) := by decide +kernel
theorem dX9_robotAt_24 : decode cX9_robotAt 24 = .ok (.iconst 1, 1) := by decide +kernel
theorem dX9_robotAt_25 : decode cX9_robotAt 25 = .ok (.goto 4, 3) := by decide +kernel
theorem dX9_robotAt_28 : decode cX9_robotAt 28 = .ok (.iconst (-1), 1) := by decide +kernel
theorem dX9_robotAt_29 : decode cX9_robotAt 29 = .ok (.ireturn, 1) := by decide +kernel
set_option maxRecDepth 20000 in
theorem ggX9_hasThing_X9_robotAt : GoodIn wsX9_hasThing wsX9_robotAt := goodIn_r _ [4, 5, 6, 3, 7] (by decide +kernel) (by decide +kernel)
set_option maxRecDepth 20000 in
theorem gX9_hasThing_X9_robotAt : GoodIn wsX9_hasThing (va_wsS RX9 68 yX9_robotAt wsX9_robotAt) := goodIn_app (goodIn_of _ (by decide +kernel)) ggX9_hasThing_X9_robotAt
theorem dX9_hasThing_0 : decode cX9_hasThing 0 = .ok (.aload_n 0, 1) := by decide +kernel
theorem dX9_hasThing_1 : decode cX9_hasThing 1 = .ok (.bipush 36, 2) := by decide +kernel
theorem dX9_hasThing_3 : decode cX9_hasThing 3 = .ok (.iload_n 1, 1) := by decide +kernel
theorem dX9_hasThing_4 : decode cX9_hasThing 4 = .ok (.iadd, 1) := by decide +kernel
theorem dX9_hasThing_5 : decode cX9_hasThing 5 = .ok (.iaload, 1) := by decide +kernel
theorem dX9_hasThing_6 : decode cX9_hasThing 6 = .ok (.iconst 1, 1) := by decide +kernel
theorem dX9_hasThing_7 : decode cX9_hasThing 7 = .ok (.if_icmp .eq 12, 3) := by decide +kernel
theorem dX9_hasThing_10 : decode cX9_hasThing 10 = .ok (.aload_n 0, 1) := by decide +kernel
theorem dX9_hasThing_11 : decode cX9_hasThing 11 = .ok (.iload_n 1, 1) := by decide +kernel
theorem dX9_hasThing_12 : decode cX9_hasThing 12 = .ok (.invokestatic 68, 3) := by decide +kernel
theorem dX9_hasThing_15 : decode cX9_hasThing 15 = .ok (.iconst (-1), 1) := by decide +kernel
theorem dX9_hasThing_16 : decode cX9_hasThing 16 = .ok (.if_icmp .eq 7, 3) := by decide +kernel
theorem dX9_hasThing_19 : decode cX9_hasThing 19 = .ok (.iconst 1, 1) := by decide +kernel
theorem dX9_hasThing_20 : decode cX9_hasThing 20 = .ok (.goto 4, 3) := by decide +kernel
theorem dX9_hasThing_23 : decode cX9_hasThing 23 = .ok (.iconst 0, 1) := by decide +kernel
theorem dX9_hasThing_24 : decode cX9_hasThing 24 = .ok (.ireturn, 1) := by decide +kernel
set_option maxRecDepth 20000 in
theorem ggX9_next_X9_in : GoodIn wsX9_next wsX9_in := goodIn_r _ [5] (by decide +kernel) (by decide +kernel)
set_option maxRecDepth 20000 in
theorem gX9_next_X9_in : GoodIn wsX9_next (va_wsS RX9 60 yX9_in wsX9_in) := goodIn_app (goodIn_of _ (by decide +kernel)) ggX9_next_X9_in
theorem dX9_next_0 : decode cX9_next 0 = .ok (.iload_n 0, 1) := by decide +kernel
theorem dX9_next_1 : decode cX9_next 1 = .ok (.bipush 6, 2) := by decide +kernel
theorem dX9_next_3 : decode cX9_next 3 = .ok (.idiv, 1) := by decide +kernel
theorem dX9_next_4 : decode cX9_next 4 = .ok (.iload_n 1, 1) := by decide +kernel
theorem dX9_next_5 : decode cX9_next 5 = .ok (.ifCond .ne 7, 3) := by decide +kernel
theorem dX9_next_8 : decode cX9_next 8 = .ok (.iconst (-1), 1) := by decide +kernel
theorem dX9_next_9 : decode cX9_next 9 = .ok (.goto 13, 3) := by decide +kernel
theorem dX9_next_12 : decode cX9_next 12 = .ok (.iload_n 1, 1) := by decide +kernel
theorem dX9_next_13 : decode cX9_next 13 = .ok (.iconst 2, 1) := by decide +kernel
theorem dX9_next_14 : decode cX9_next 14 = .ok (.if_icmp .ne 7, 3) := by decide +kernel
theorem dX9_next_17 : decode cX9_next 17 = .ok (.iconst 1, 1) := by decide +kernel
theorem dX9_next_18 : decode cX9_next 18 = .ok (.goto 4, 3) := by decide +kernel
theorem dX9_next_21 : decode cX9_next 21 = .ok (.iconst 0, 1) := by decide +kernel
theorem dX9_next_22 : decode cX9_next 22 = .ok (.iadd, 1) := by decide +kernel
theorem dX9_next_23 : decode cX9_next 23 = .ok (.istore_n 2, 1) := by decide +kernel
theorem dX9_next_24 : decode cX9_next 24 = .ok (.iload_n 0, 1) := by decide +kernel
theorem dX9_next_25 : decode cX9_next 25 = .ok (.bipush 6, 2) := by decide +kernel
theorem dX9_next_27 : decode cX9_next 27 = .ok (.irem, 1) := by decide +kernel
theorem dX9_next_28 : decode cX9_next 28 = .ok (.iload_n 1, 1) := by decide +kernel
theorem dX9_next_29 : decode cX9_next 29 = .ok (.iconst 3, 1) := by decide +kernel
theorem dX9_next_30 : decode cX9_next 30 = .ok (.if_icmp .ne 7, 3) := by decide +kernel
theorem dX9_next_33 : decode cX9_next 33 = .ok (.iconst (-1), 1) := by decide +kernel
theorem dX9_next_34 : decode cX9_next 34 = .ok (.goto 13, 3) := by decide +kernel
theorem dX9_next_37 : decode cX9_next 37 = .ok (.iload_n 1, 1) := by decide +kernel
theorem dX9_next_38 : decode cX9_next 38 = .ok (.iconst 1, 1) := by decide +kernel
theorem dX9_next_39 : decode cX9_next 39 = .ok (.if_icmp .ne 7, 3) := by decide +kernel
theorem dX9_next_42 : decode cX9_next 42 = .ok (.iconst 1, 1) := by decide +kernel
theorem dX9_next_43 : decode cX9_next 43 = .ok (.goto 4, 3) := by decide +kernel
theorem dX9_next_46 : decode cX9_next 46 = .ok (.iconst 0, 1) := by decide +kernel
theorem dX9_next_47 : decode cX9_next 47 = .ok (.iadd, 1) := by decide +kernel
theorem dX9_next_48 : decode cX9_next 48 = .ok (.istore_n 3, 1) := by decide +kernel
theorem dX9_next_49 : decode cX9_next 49 = .ok (.iload_n 2, 1) := by decide +kernel
theorem dX9_next_50 : decode cX9_next 50 = .ok (.i2l, 1) := by decide +kernel
theorem dX9_next_51 : decode cX9_next 51 = .ok (.lconst 0, 1) := by decide +kernel
theorem dX9_next_52 : decode cX9_next 52 = .ok (.ldc2_w 72, 3) := by decide +kernel
theorem dX9_next_55 : decode cX9_next 55 = .ok (.invokestatic 60, 3) := by decide +kernel
theorem dX9_next_58 : decode cX9_next 58 = .ok (.ifCond .eq 24, 3) := by decide +kernel
theorem dX9_next_61 : decode cX9_next 61 = .ok (.iload_n 3, 1) := by decide +kernel
theorem dX9_next_62 : decode cX9_next 62 = .ok (.i2l, 1) := by decide +kernel
theorem dX9_next_63 : decode cX9_next 63 = .ok (.lconst 0, 1) := by decide +kernel
theorem dX9_next_64 : decode cX9_next 64 = .ok (.ldc2_w 72, 3) := by decide +kernel
theorem dX9_next_67 : decode cX9_next 67 = .ok (.invokestatic 60, 3) := by decide +kernel
theorem dX9_next_70 : decode cX9_next 70 = .ok (.ifCond .eq 12, 3) := by decide +kernel
theorem dX9_next_73 : decode cX9_next 73 = .ok (.bipush 6, 2) := by decide +kernel
theorem dX9_next_75 : decode cX9_next 75 = .ok (.iload_n 2, 1) := by decide +kernel
theorem dX9_next_76 : decode cX9_next 76 = .ok (.imul, 1) := by decide +kernel
theorem dX9_next_77 : decode cX9_next 77 = .ok (.iload_n 3, 1) := by decide +kernel
theorem dX9_next_78 : decode cX9_next 78 = .ok (.iadd, 1) := by decide +kernel
theorem dX9_next_79 : decode cX9_next 79 = .ok (.goto 4, 3) := by decide +kernel
theorem dX9_next_82 : decode cX9_next 82 = .ok (.iconst (-1), 1) := by decide +kernel
theorem dX9_next_83 : decode cX9_next 83 = .ok (.ireturn, 1) := by decide +kernel
theorem dX9_isHard_0 : decode cX9_isHard 0 = .ok (.aload_n 0, 1) := by decide +kernel
theorem dX9_isHard_1 : decode cX9_isHard 1 = .ok (.iload_n 1, 1) := by decide +kernel
theorem dX9_isHard_2 : decode cX9_isHard 2 = .ok (.iaload, 1) := by decide +kernel
theorem dX9_isHard_3 : decode cX9_isHard 3 = .ok (.iconst 1, 1) := by decide +kernel
theorem dX9_isHard_4 : decode cX9_isHard 4 = .ok (.if_icmp .eq 10, 3) := by decide +kernel
theorem dX9_isHard_7 : decode cX9_isHard 7 = .ok (.aload_n 0, 1) := by decide +kernel
theorem dX9_isHard_8 : decode cX9_isHard 8 = .ok (.iload_n 1, 1) := by decide +kernel
theorem dX9_isHard_9 : decode cX9_isHard 9 = .ok (.iaload, 1) := by decide +kernel
theorem dX9_isHard_10 : decode cX9_isHard 10 = .ok (.iconst 2, 1) := by decide +kernel
theorem dX9_isHard_11 : decode cX9_isHard 11 = .ok (.if_icmp .ne 7, 3) := by decide +kernel
theorem dX9_isHard_14 : decode cX9_isHard 14 = .ok (.iconst 1, 1) := by decide +kernel
theorem dX9_isHard_15 : decode cX9_isHard 15 = .ok (.goto 4, 3) := by decide +kernel
theorem dX9_isHard_18 : decode cX9_isHard 18 = .ok (.iconst 0, 1) := by decide +kernel
theorem dX9_isHard_19 : decode cX9_isHard 19 = .ok (.ireturn, 1) := by decide +kernel
set_option maxRecDepth 20000 in
theorem ggX9_rowFrom_X9_next : GoodIn wsX9_rowFrom wsX9_next := goodIn_r _ [4, 5, 6, 7, 3, 8] (by decide +kernel) (by decide +kernel)
set_option maxRecDepth 20000 in
theorem gX9_rowFrom_X9_next : GoodIn wsX9_rowFrom (va_wsS RX9 74 yX9_next wsX9_next) := goodIn_app (goodIn_of _ (by decide +kernel)) ggX9_rowFrom_X9_next
set_option maxRecDepth 20000 in
theorem ggX9_rowFrom_X9_hasThing : GoodIn wsX9_rowFrom wsX9_hasThing := goodIn_r _ [11, 12, 13, 3, 14, 15, 16, 17] (by decide +kernel) (by decide +kernel)
set_option maxRecDepth 20000 in
theorem gX9_rowFrom_X9_hasThing : GoodIn wsX9_rowFrom (va_wsS RX9 78 yX9_hasThing wsX9_hasThing) := goodIn_app (goodIn_of _ (by decide +kernel)) ggX9_rowFrom_X9_hasThing
theorem dX9_rowFrom_0 : decode cX9_rowFrom 0 = .ok (.iconst 0, 1) := by decide +kernel
theorem dX9_rowFrom_1 : decode cX9_rowFrom 1 = .ok (.istore_n 3, 1) := by decide +kernel
theorem dX9_rowFrom_2 : decode cX9_rowFrom 2 = .ok (.iload_n 1, 1) := by decide +kernel
theorem dX9_rowFrom_3 : decode cX9_rowFrom 3 = .ok (.iload_n 2, 1) := by decide +kernel
theorem dX9_rowFrom_4 : decode cX9_rowFrom 4 = .ok (.invokestatic 74, 3) := by decide +kernel
theorem dX9_rowFrom_7 : decode cX9_rowFrom 7 = .ok (.istore 4, 2) := by decide +kernel
theorem dX9_rowFrom_9 : decode cX9_rowFrom 9 = .ok (.iload 4, 2) := by decide +kernel
theorem dX9_rowFrom_11 : decode cX9_rowFrom 11 = .ok (.iconst (-1), 1) := by decide +kernel
theorem dX9_rowFrom_12 : decode cX9_rowFrom 12 = .ok (.if_icmp .eq 26, 3) := by decide +kernel
theorem dX9_rowFrom_15 : decode cX9_rowFrom 15 = .ok (.aload_n 0, 1) := by decide +kernel
theorem dX9_rowFrom_16 : decode cX9_rowFrom 16 = .ok (.iload 4, 2) := by decide +kernel
theorem dX9_rowFrom_18 : decode cX9_rowFrom 18 = .ok (.invokestatic 78, 3) := by decide +kernel
theorem dX9_rowFrom_21 : decode cX9_rowFrom 21 = .ok (.ifCond .eq 17, 3) := by decide +kernel
theorem dX9_rowFrom_24 : decode cX9_rowFrom 24 = .ok (.iinc 3 1, 3) := by decide +kernel
theorem dX9_rowFrom_27 : decode cX9_rowFrom 27 = .ok (.iload 4, 2) := by decide +kernel
theorem dX9_rowFrom_29 : decode cX9_rowFrom 29 = .ok (.iload_n 2, 1) := by decide +kernel
theorem dX9_rowFrom_30 : decode cX9_rowFrom 30 = .ok (.invokestatic 74, 3) := by decide +kernel
theorem dX9_rowFrom_33 : decode cX9_rowFrom 33 = .ok (.istore 4, 2) := by decide +kernel
theorem dX9_rowFrom_35 : decode cX9_rowFrom 35 = .ok (.goto (-26), 3) := by decide +kernel
theorem dX9_rowFrom_38 : decode cX9_rowFrom 38 = .ok (.iload 4, 2) := by decide +kernel
theorem dX9_rowFrom_40 : decode cX9_rowFrom 40 = .ok (.iconst (-1), 1) := by decide +kernel
theorem dX9_rowFrom_41 : decode cX9_rowFrom 41 = .ok (.if_icmp .eq 11, 3) := by decide +kernel
theorem dX9_rowFrom_44 : decode cX9_rowFrom 44 = .ok (.aload_n 0, 1) := by decide +kernel
theorem dX9_rowFrom_45 : decode cX9_rowFrom 45 = .ok (.iload 4, 2) := by decide +kernel
theorem dX9_rowFrom_47 : decode cX9_rowFrom 47 = .ok (.iaload, 1) := by decide +kernel
theorem dX9_rowFrom_48 : decode cX9_rowFrom 48 = .ok (.iconst 1, 1) := by decide +kernel
theorem dX9_rowFrom_49 : decode cX9_rowFrom 49 = .ok (.if_icmp .ne 7, 3) := by decide +kernel
theorem dX9_rowFrom_52 : decode cX9_rowFrom 52 = .ok (.iconst (-1), 1) := by decide +kernel
theorem dX9_rowFrom_53 : decode cX9_rowFrom 53 = .ok (.goto 4, 3) := by decide +kernel
theorem dX9_rowFrom_56 : decode cX9_rowFrom 56 = .ok (.iload_n 3, 1) := by decide +kernel
theorem dX9_rowFrom_57 : decode cX9_rowFrom 57 = .ok (.ireturn, 1) := by decide +kernel
set_option maxRecDepth 20000 in
theorem ggX9_wants_X9_of : GoodIn wsX9_wants wsX9_of := goodIn_r _ [4] (by decide +kernel) (by decide +kernel)
set_option maxRecDepth 20000 in
theorem gX9_wants_X9_of : GoodIn wsX9_wants (va_wsS RX9 64 yX9_of wsX9_of) := goodIn_app (goodIn_of _ (by decide +kernel)) ggX9_wants_X9_of
theorem dX9_wants_0 : decode cX9_wants 0 = .ok (.aload_n 0, 1) := by decide +kernel
theorem dX9_wants_1 : decode cX9_wants 1 = .ok (.iload_n 1, 1) := by decide +kernel
theorem dX9_wants_2 : decode cX9_wants 2 = .ok (.bipush 8, 2) := by decide +kernel
theorem dX9_wants_4 : decode cX9_wants 4 = .ok (.invokestatic 64, 3) := by decide +kernel
theorem dX9_wants_7 : decode cX9_wants 7 = .ok (.ifCond .ne 5, 3) := by decide +kernel
theorem dX9_wants_10 : decode cX9_wants 10 = .ok (.iconst (-1), 1) := by decide +kernel
theorem dX9_wants_11 : decode cX9_wants 11 = .ok (.ireturn, 1) := by decide +kernel
theorem dX9_wants_12 : decode cX9_wants 12 = .ok (.aload_n 0, 1) := by decide +kernel
theorem dX9_wants_13 : decode cX9_wants 13 = .ok (.bipush 90, 2) := by decide +kernel
theorem dX9_wants_15 : decode cX9_wants 15 = .ok (.bipush 10, 2) := by decide +kernel
theorem dX9_wants_17 : decode cX9_wants 17 = .ok (.iload_n 1, 1) := by decide +kernel
theorem dX9_wants_18 : decode cX9_wants 18 = .ok (.imul, 1) := by decide +kernel
theorem dX9_wants_19 : decode cX9_wants 19 = .ok (.iadd, 1) := by decide +kernel
theorem dX9_wants_20 : decode cX9_wants 20 = .ok (.aload_n 0, 1) := by decide +kernel
theorem dX9_wants_21 : decode cX9_wants 21 = .ok (.iload_n 1, 1) := by decide +kernel
theorem dX9_wants_22 : decode cX9_wants 22 = .ok (.bipush 7, 2) := by decide +kernel
theorem dX9_wants_24 : decode cX9_wants 24 = .ok (.invokestatic 64, 3) := by decide +kernel
theorem dX9_wants_27 : decode cX9_wants 27 = .ok (.iadd, 1) := by decide +kernel
theorem dX9_wants_28 : decode cX9_wants 28 = .ok (.iaload, 1) := by decide +kernel
theorem dX9_wants_29 : decode cX9_wants 29 = .ok (.istore_n 2, 1) := by decide +kernel
theorem dX9_wants_30 : decode cX9_wants 30 = .ok (.iload_n 2, 1) := by decide +kernel
theorem dX9_wants_31 : decode cX9_wants 31 = .ok (.ifCond .ne 12, 3) := by decide +kernel
theorem dX9_wants_34 : decode cX9_wants 34 = .ok (.aload_n 0, 1) := by decide +kernel
theorem dX9_wants_35 : decode cX9_wants 35 = .ok (.iload_n 1, 1) := by decide +kernel
theorem dX9_wants_36 : decode cX9_wants 36 = .ok (.iconst 1, 1) := by decide +kernel
theorem dX9_wants_37 : decode cX9_wants 37 = .ok (.invokestatic 64, 3) := by decide +kernel
theorem dX9_wants_40 : decode cX9_wants 40 = .ok (.goto 22, 3) := by decide +kernel
theorem dX9_wants_43 : decode cX9_wants 43 = .ok (.iload_n 2, 1) := by decide +kernel
theorem dX9_wants_44 : decode cX9_wants 44 = .ok (.iconst 1, 1) := by decide +kernel
theorem dX9_wants_45 : decode cX9_wants 45 = .ok (.if_icmp .ne 16, 3) := by decide +kernel
theorem dX9_wants_48 : decode cX9_wants 48 = .ok (.aload_n 0, 1) := by decide +kernel
theorem dX9_wants_49 : decode cX9_wants 49 = .ok (.iload_n 1, 1) := by decide +kernel
theorem dX9_wants_50 : decode cX9_wants 50 = .ok (.iconst 1, 1) := by decide +kernel
theorem dX9_wants_51 : decode cX9_wants 51 = .ok (.invokestatic 64, 3) := by decide +kernel
theorem dX9_wants_54 : decode cX9_wants 54 = .ok (.iconst 2, 1) := by decide +kernel
theorem dX9_wants_55 : decode cX9_wants 55 = .ok (.iadd, 1) := by decide +kernel
theorem dX9_wants_56 : decode cX9_wants 56 = .ok (.iconst 4, 1) := by decide +kernel
theorem dX9_wants_57 : decode cX9_wants 57 = .ok (.irem, 1) := by decide +kernel
theorem dX9_wants_58 : decode cX9_wants 58 = .ok (.goto 4, 3) := by decide +kernel
theorem dX9_wants_61 : decode cX9_wants 61 = .ok (.iconst (-1), 1) := by decide +kernel
theorem dX9_wants_62 : decode cX9_wants 62 = .ok (.ireturn, 1) := by decide +kernel
set_option maxRecDepth 20000 in
theorem ggX9_findsWays_X9_wants : GoodIn wsX9_findsWays wsX9_wants := goodIn_r _ [6, 7, 8, 5, 9] (by decide +kernel) (by decide +kernel)
set_option maxRecDepth 20000 in
theorem gX9_findsWays_X9_wants : GoodIn wsX9_findsWays (va_wsS RX9 82 yX9_wants wsX9_wants) := goodIn_app (goodIn_of _ (by decide +kernel)) ggX9_findsWays_X9_wants
set_option maxRecDepth 20000 in
theorem ggX9_findsWays_X9_of : GoodIn wsX9_findsWays wsX9_of := goodIn_r _ [9] (by decide +kernel) (by decide +kernel)
set_option maxRecDepth 20000 in
theorem gX9_findsWays_X9_of : GoodIn wsX9_findsWays (va_wsS RX9 64 yX9_of wsX9_of) := goodIn_app (goodIn_of _ (by decide +kernel)) ggX9_findsWays_X9_of
set_option maxRecDepth 20000 in
theorem ggX9_findsWays_X9_rowFrom : GoodIn wsX9_findsWays wsX9_rowFrom := goodIn_r _ [12, 13, 14, 5, 15, 16, 17, 18, 19, 20, 21, 22, 23, 24, 25, 7, 8, 9] (by decide +kernel) (by decide +kernel)
set_option maxRecDepth 20000 in
theorem gX9_findsWays_X9_rowFrom : GoodIn wsX9_findsWays (va_wsS RX9 85 yX9_rowFrom wsX9_rowFrom) := goodIn_app (goodIn_of _ (by decide +kernel)) ggX9_findsWays_X9_rowFrom
theorem dX9_findsWays_0 : decode cX9_findsWays 0 = .ok (.iconst 0, 1) := by decide +kernel
theorem dX9_findsWays_1 : decode cX9_findsWays 1 = .ok (.istore_n 2, 1) := by decide +kernel
theorem dX9_findsWays_2 : decode cX9_findsWays 2 = .ok (.iload_n 2, 1) := by decide +kernel
theorem dX9_findsWays_3 : decode cX9_findsWays 3 = .ok (.iconst 2, 1) := by decide +kernel
theorem dX9_findsWays_4 : decode cX9_findsWays 4 = .ok (.if_icmp .ge 56, 3) := by decide +kernel
theorem dX9_findsWays_7 : decode cX9_findsWays 7 = .ok (.aload_n 0, 1) := by decide +kernel
theorem dX9_findsWays_8 : decode cX9_findsWays 8 = .ok (.getfield 32, 3) := by decide +kernel
theorem dX9_findsWays_11 : decode cX9_findsWays 11 = .ok (.iload_n 2, 1) := by decide +kernel
theorem dX9_findsWays_12 : decode cX9_findsWays 12 = .ok (.aload_n 1, 1) := by decide +kernel
theorem dX9_findsWays_13 : decode cX9_findsWays 13 = .ok (.iload_n 2, 1) := by decide +kernel
theorem dX9_findsWays_14 : decode cX9_findsWays 14 = .ok (.invokestatic 82, 3) := by decide +kernel
theorem dX9_findsWays_17 : decode cX9_findsWays 17 = .ok (.iastore, 1) := by decide +kernel
theorem dX9_findsWays_18 : decode cX9_findsWays 18 = .ok (.aload_n 0, 1) := by decide +kernel
theorem dX9_findsWays_19 : decode cX9_findsWays 19 = .ok (.getfield 35, 3) := by decide +kernel
theorem dX9_findsWays_22 : decode cX9_findsWays 22 = .ok (.iload_n 2, 1) := by decide +kernel
theorem dX9_findsWays_23 : decode cX9_findsWays 23 = .ok (.aload_n 0, 1) := by decide +kernel
theorem dX9_findsWays_24 : decode cX9_findsWays 24 = .ok (.getfield 32, 3) := by decide +kernel
theorem dX9_findsWays_27 : decode cX9_findsWays 27 = .ok (.iload_n 2, 1) := by decide +kernel
theorem dX9_findsWays_28 : decode cX9_findsWays 28 = .ok (.iaload, 1) := by decide +kernel
theorem dX9_findsWays_29 : decode cX9_findsWays 29 = .ok (.iconst (-1), 1) := by decide +kernel
theorem dX9_findsWays_30 : decode cX9_findsWays 30 = .ok (.if_icmp .ne 7, 3) := by decide +kernel
theorem dX9_findsWays_33 : decode cX9_findsWays 33 = .ok (.iconst (-1), 1) := by decide +kernel
theorem dX9_findsWays_34 : decode cX9_findsWays 34 = .ok (.goto 19, 3) := by decide +kernel
theorem dX9_findsWays_37 : decode cX9_findsWays 37 = .ok (.aload_n 1, 1) := by decide +kernel
theorem dX9_findsWays_38 : decode cX9_findsWays 38 = .ok (.aload_n 1, 1) := by decide +kernel
theorem dX9_findsWays_39 : decode cX9_findsWays 39 = .ok (.iload_n 2, 1) := by decide +kernel
theorem dX9_findsWays_40 : decode cX9_findsWays 40 = .ok (.iconst 0, 1) := by decide +kernel
theorem dX9_findsWays_41 : decode cX9_findsWays 41 = .ok (.invokestatic 64, 3) := by decide +kernel
theorem dX9_findsWays_44 : decode cX9_findsWays 44 = .ok (.aload_n 0, 1) := by decide +kernel
theorem dX9_findsWays_45 : decode cX9_findsWays 45 = .ok (.getfield 32, 3) := by decide +kernel
theorem dX9_findsWays_48 : decode cX9_findsWays 48 = .ok (.iload_n 2, 1) := by decide +kernel
theorem dX9_findsWays_49 : decode cX9_findsWays 49 = .ok (.iaload, 1) := by decide +kernel
theorem dX9_findsWays_50 : decode cX9_findsWays 50 = .ok (.invokestatic 85, 3) := by decide +kernel
theorem dX9_findsWays_53 : decode cX9_findsWays 53 = .ok (.iastore, 1) := by decide +kernel
theorem dX9_findsWays_54 : decode cX9_findsWays 54 = .ok (.iinc 2 1, 3) := by decide +kernel
theorem dX9_findsWays_57 : decode cX9_findsWays 57 = .ok (.goto (-55), 3) := by decide +kernel
theorem dX9_findsWays_60 : decode cX9_findsWays 60 = .ok (.return_, 1) := by decide +kernel
set_option maxRecDepth 20000 in
theorem ggX9_isOnWay_X9_next : GoodIn wsX9_isOnWay wsX9_next := goodIn_r _ [4, 5, 6, 7, 3, 8] (by decide +kernel) (by decide +kernel)
set_option maxRecDepth 20000 in
theorem gX9_isOnWay_X9_next : GoodIn wsX9_isOnWay (va_wsS RX9 74 yX9_next wsX9_next) := goodIn_app (goodIn_of _ (by decide +kernel)) ggX9_isOnWay_X9_next
theorem dX9_isOnWay_0 : decode cX9_isOnWay 0 = .ok (.iload_n 0, 1) := by decide +kernel
theorem dX9_isOnWay_1 : decode cX9_isOnWay 1 = .ok (.istore 4, 2) := by decide +kernel
theorem dX9_isOnWay_3 : decode cX9_isOnWay 3 = .ok (.iconst 0, 1) := by decide +kernel
theorem dX9_isOnWay_4 : decode cX9_isOnWay 4 = .ok (.istore 5, 2) := by decide +kernel
theorem dX9_isOnWay_6 : decode cX9_isOnWay 6 = .ok (.iload 5, 2) := by decide +kernel
theorem dX9_isOnWay_8 : decode cX9_isOnWay 8 = .ok (.iload_n 2, 1) := by decide +kernel
theorem dX9_isOnWay_9 : decode cX9_isOnWay 9 = .ok (.iconst 1, 1) := by decide +kernel
theorem dX9_isOnWay_10 : decode cX9_isOnWay 10 = .ok (.iadd, 1) := by decide +kernel
theorem dX9_isOnWay_11 : decode cX9_isOnWay 11 = .ok (.if_icmp .ge 25, 3) := by decide +kernel
theorem dX9_isOnWay_14 : decode cX9_isOnWay 14 = .ok (.iload 4, 2) := by decide +kernel
theorem dX9_isOnWay_16 : decode cX9_isOnWay 16 = .ok (.iload_n 3, 1) := by decide +kernel
theorem dX9_isOnWay_17 : decode cX9_isOnWay 17 = .ok (.if_icmp .ne 5, 3) := by decide +kernel
theorem dX9_isOnWay_20 : decode cX9_isOnWay 20 = .ok (.iconst 1, 1) := by decide +kernel
theorem dX9_isOnWay_21 : decode cX9_isOnWay 21 = .ok (.ireturn, 1) := by decide +kernel
theorem dX9_isOnWay_22 : decode cX9_isOnWay 22 = .ok (.iload 4, 2) := by decide +kernel
theorem dX9_isOnWay_24 : decode cX9_isOnWay 24 = .ok (.iload_n 1, 1) := by decide +kernel
theorem dX9_isOnWay_25 : decode cX9_isOnWay 25 = .ok (.invokestatic 74, 3) := by decide +kernel
theorem dX9_isOnWay_28 : decode cX9_isOnWay 28 = .ok (.istore 4, 2) := by decide +kernel
theorem dX9_isOnWay_30 : decode cX9_isOnWay 30 = .ok (.iinc 5 1, 3) := by decide +kernel
theorem dX9_isOnWay_33 : decode cX9_isOnWay 33 = .ok (.goto (-27), 3) := by decide +kernel
theorem dX9_isOnWay_36 : decode cX9_isOnWay 36 = .ok (.iload 4, 2) := by decide +kernel
theorem dX9_isOnWay_38 : decode cX9_isOnWay 38 = .ok (.iload_n 3, 1) := by decide +kernel
theorem dX9_isOnWay_39 : decode cX9_isOnWay 39 = .ok (.if_icmp .ne 7, 3) := by decide +kernel
theorem dX9_isOnWay_42 : decode cX9_isOnWay 42 = .ok (.iconst 1, 1) := by decide +kernel
theorem dX9_isOnWay_43 : decode cX9_isOnWay 43 = .ok (.goto 4, 3) := by decide +kernel
theorem dX9_isOnWay_46 : decode cX9_isOnWay 46 = .ok (.iconst 0, 1) := by decide +kernel
theorem dX9_isOnWay_47 : decode cX9_isOnWay 47 = .ok (.ireturn, 1) := by decide +kernel
set_option maxRecDepth 20000 in
theorem ggX9_clash_X9_of : GoodIn wsX9_clash wsX9_of := goodIn_r _ [6] (by decide +kernel) (by decide +kernel)
set_option maxRecDepth 20000 in
theorem gX9_clash_X9_of : GoodIn wsX9_clash (va_wsS RX9 64 yX9_of wsX9_of) := goodIn_app (goodIn_of _ (by decide +kernel)) ggX9_clash_X9_of
set_option maxRecDepth 20000 in
theorem ggX9_clash_X9_isOnWay : GoodIn wsX9_clash wsX9_isOnWay := goodIn_r _ [9, 10, 11, 5, 12, 13, 14, 15, 16] (by decide +kernel) (by decide +kernel)
set_option maxRecDepth 20000 in
theorem gX9_clash_X9_isOnWay : GoodIn wsX9_clash (va_wsS RX9 88 yX9_isOnWay wsX9_isOnWay) := goodIn_app (goodIn_of _ (by decide +kernel)) ggX9_clash_X9_isOnWay
set_option maxRecDepth 20000 in
theorem ggX9_clash_X9_next : GoodIn wsX9_clash wsX9_next := goodIn_r _ [12, 13, 14, 15, 5, 16] (by decide +kernel) (by decide +kernel)
set_option maxRecDepth 20000 in
theorem gX9_clash_X9_next : GoodIn wsX9_clash (va_wsS RX9 74 yX9_next wsX9_next) := goodIn_app (goodIn_of _ (by decide +kernel)) ggX9_clash_X9_next
theorem dX9_clash_0 : decode cX9_clash 0 = .ok (.aload_n 0, 1) := by decide +kernel
theorem dX9_clash_1 : decode cX9_clash 1 = .ok (.getfield 35, 3) := by decide +kernel
theorem dX9_clash_4 : decode cX9_clash 4 = .ok (.iconst 0, 1) := by decide +kernel
theorem dX9_clash_5 : decode cX9_clash 5 = .ok (.iaload, 1) := by decide +kernel
theorem dX9_clash_6 : decode cX9_clash 6 = .ok (.iconst (-1), 1) := by decide +kernel
theorem dX9_clash_7 : decode cX9_clash 7 = .ok (.if_icmp .eq 13, 3) := by decide +kernel
theorem dX9_clash_10 : decode cX9_clash 10 = .ok (.aload_n 0, 1) := by decide +kernel
theorem dX9_clash_11 : decode cX9_clash 11 = .ok (.getfield 35, 3) := by decide +kernel
theorem dX9_clash_14 : decode cX9_clash 14 = .ok (.iconst 1, 1) := by decide +kernel
theorem dX9_clash_15 : decode cX9_clash 15 = .ok (.iaload, 1) := by decide +kernel
theorem dX9_clash_16 : decode cX9_clash 16 = .ok (.iconst (-1), 1) := by decide +kernel
theorem dX9_clash_17 : decode cX9_clash 17 = .ok (.if_icmp .ne 5, 3) := by decide +kernel
theorem dX9_clash_20 : decode cX9_clash 20 = .ok (.iconst 0, 1) := by decide +kernel
theorem dX9_clash_21 : decode cX9_clash 21 = .ok (.ireturn, 1) := by decide +kernel
theorem dX9_clash_22 : decode cX9_clash 22 = .ok (.aload_n 1, 1) := by decide +kernel
theorem dX9_clash_23 : decode cX9_clash 23 = .ok (.iconst 0, 1) := by decide +kernel
theorem dX9_clash_24 : decode cX9_clash 24 = .ok (.iconst 0, 1) := by decide +kernel
theorem dX9_clash_25 : decode cX9_clash 25 = .ok (.invokestatic 64, 3) := by decide +kernel
theorem dX9_clash_28 : decode cX9_clash 28 = .ok (.istore_n 2, 1) := by decide +kernel
theorem dX9_clash_29 : decode cX9_clash 29 = .ok (.aload_n 1, 1) := by decide +kernel
theorem dX9_clash_30 : decode cX9_clash 30 = .ok (.iconst 1, 1) := by decide +kernel
theorem dX9_clash_31 : decode cX9_clash 31 = .ok (.iconst 0, 1) := by decide +kernel
theorem dX9_clash_32 : decode cX9_clash 32 = .ok (.invokestatic 64, 3) := by decide +kernel
theorem dX9_clash_35 : decode cX9_clash 35 = .ok (.aload_n 0, 1) := by decide +kernel
theorem dX9_clash_36 : decode cX9_clash 36 = .ok (.getfield 32, 3) := by decide +kernel
theorem dX9_clash_39 : decode cX9_clash 39 = .ok (.iconst 1, 1) := by decide +kernel
theorem dX9_clash_40 : decode cX9_clash 40 = .ok (.iaload, 1) := by decide +kernel
theorem dX9_clash_41 : decode cX9_clash 41 = .ok (.aload_n 0, 1) := by decide +kernel
theorem dX9_clash_42 : decode cX9_clash 42 = .ok (.getfield 35, 3) := by decide +kernel
theorem dX9_clash_45 : decode cX9_clash 45 = .ok (.iconst 1, 1) := by decide +kernel
theorem dX9_clash_46 : decode cX9_clash 46 = .ok (.iaload, 1) := by decide +kernel
theorem dX9_clash_47 : decode cX9_clash 47 = .ok (.iload_n 2, 1) := by decide +kernel
theorem dX9_clash_48 : decode cX9_clash 48 = .ok (.invokestatic 88, 3) := by decide +kernel
theorem dX9_clash_51 : decode cX9_clash 51 = .ok (.istore_n 3, 1) := by decide +kernel
theorem dX9_clash_52 : decode cX9_clash 52 = .ok (.iconst 0, 1) := by decide +kernel
theorem dX9_clash_53 : decode cX9_clash 53 = .ok (.istore 4, 2) := by decide +kernel
theorem dX9_clash_55 : decode cX9_clash 55 = .ok (.iload 4, 2) := by decide +kernel
theorem dX9_clash_57 : decode cX9_clash 57 = .ok (.aload_n 0, 1) := by decide +kernel
theorem dX9_clash_58 : decode cX9_clash 58 = .ok (.getfield 35, 3) := by decide +kernel
theorem dX9_clash_61 : decode cX9_clash 61 = .ok (.iconst 0, 1) := by decide +kernel
theorem dX9_clash_62 : decode cX9_clash 62 = .ok (.iaload, 1) := by decide +kernel
theorem dX9_clash_63 : decode cX9_clash 63 = .ok (.if_icmp .gt 55, 3) := by decide +kernel
theorem dX9_clash_66 : decode cX9_clash 66 = .ok (.iload_n 2, 1) := by decide +kernel
theorem dX9_clash_67 : decode cX9_clash 67 = .ok (.aload_n 0, 1) := by decide +kernel
theorem dX9_clash_68 : decode cX9_clash 68 = .ok (.getfield 32, 3) := by decide +kernel
theorem dX9_clash_71 : decode cX9_clash 71 = .ok (.iconst 0, 1) := by decide +kernel
theorem dX9_clash_72 : decode cX9_clash 72 = .ok (.iaload, 1) := by decide +kernel
theorem dX9_clash_73 : decode cX9_clash 73 = .ok (.invokestatic 74, 3) := by decide +kernel
theorem dX9_clash_76 : decode cX9_clash 76 = .ok (.istore_n 2, 1) := by decide +kernel
theorem dX9_clash_77 : decode cX9_clash 77 = .ok (.iload_n 3, 1) := by decide +kernel
theorem dX9_clash_78 : decode cX9_clash 78 = .ok (.ifCond .ne 28, 3) := by decide +kernel
theorem dX9_clash_81 : decode cX9_clash 81 = .ok (.aload_n 1, 1) := by decide +kernel
theorem dX9_clash_82 : decode cX9_clash 82 = .ok (.iconst 1, 1) := by decide +kernel
theorem dX9_clash_83 : decode cX9_clash 83 = .ok (.iconst 0, 1) := by decide +kernel
theorem dX9_clash_84 : decode cX9_clash 84 = .ok (.invokestatic 64, 3) := by decide +kernel
theorem dX9_clash_87 : decode cX9_clash 87 = .ok (.aload_n 0, 1) := by decide +kernel
theorem dX9_clash_88 : decode cX9_clash 88 = .ok (.getfield 32, 3) := by decide +kernel
theorem dX9_clash_91 : decode cX9_clash 91 = .ok (.iconst 1, 1) := by decide +kernel
theorem dX9_clash_92 : decode cX9_clash 92 = .ok (.iaload, 1) := by decide +kernel
theorem dX9_clash_93 : decode cX9_clash 93 = .ok (.aload_n 0, 1) := by decide +kernel
theorem dX9_clash_94 : decode cX9_clash 94 = .ok (.getfield 35, 3) := by decide +kernel
theorem dX9_clash_97 : decode cX9_clash 97 = .ok (.iconst 1, 1) := by decide +kernel
theorem dX9_clash_98 : decode cX9_clash 98 = .ok (.iaload, 1) := by decide +kernel
theorem dX9_clash_99 : decode cX9_clash 99 = .ok (.iload_n 2, 1) := by decide +kernel
theorem dX9_clash_100 : decode cX9_clash 100 = .ok (.invokestatic 88, 3) := by decide +kernel
theorem dX9_clash_103 : decode cX9_clash 103 = .ok (.ifCond .eq 7, 3) := by decide +kernel
theorem dX9_clash_106 : decode cX9_clash 106 = .ok (.iconst 1, 1) := by decide +kernel
theorem dX9_clash_107 : decode cX9_clash 107 = .ok (.goto 4, 3) := by decide +kernel
theorem dX9_clash_110 : decode cX9_clash 110 = .ok (.iconst 0, 1) := by decide +kernel
theorem dX9_clash_111 : decode cX9_clash 111 = .ok (.istore_n 3, 1) := by decide +kernel
theorem dX9_clash_112 : decode cX9_clash 112 = .ok (.iinc 4 1, 3) := by decide +kernel
theorem dX9_clash_115 : decode cX9_clash 115 = .ok (.goto (-60), 3) := by decide +kernel
theorem dX9_clash_118 : decode cX9_clash 118 = .ok (.iload_n 3, 1) := by decide +kernel
theorem dX9_clash_119 : decode cX9_clash 119 = .ok (.ireturn, 1) := by decide +kernel
set_option maxRecDepth 20000 in
theorem ggX9_carry_X9_robotAt : GoodIn wsX9_carry wsX9_robotAt := goodIn_r _ [4, 5, 6, 3, 7] (by decide +kernel) (by decide +kernel)
set_option maxRecDepth 20000 in
theorem gX9_carry_X9_robotAt : GoodIn wsX9_carry (va_wsS RX9 68 yX9_robotAt wsX9_robotAt) := goodIn_app (goodIn_of _ (by decide +kernel)) ggX9_carry_X9_robotAt
set_option maxRecDepth 20000 in
theorem ggX9_carry_X9_puts : GoodIn wsX9_carry wsX9_puts := goodIn_r _ [10] (by decide +kernel) (by decide +kernel)
set_option maxRecDepth 20000 in
theorem gX9_carry_X9_puts : GoodIn wsX9_carry (va_wsS RX9 92 yX9_puts wsX9_puts) := goodIn_app (goodIn_of _ (by decide +kernel)) ggX9_carry_X9_puts
theorem dX9_carry_0 : decode cX9_carry 0 = .ok (.aload_n 0, 1) := by decide +kernel
theorem dX9_carry_1 : decode cX9_carry 1 = .ok (.iload_n 1, 1) := by decide +kernel
theorem dX9_carry_2 : decode cX9_carry 2 = .ok (.invokestatic 68, 3) := by decide +kernel
theorem dX9_carry_5 : decode cX9_carry 5 = .ok (.istore_n 3, 1) := by decide +kernel
theorem dX9_carry_6 : decode cX9_carry 6 = .ok (.iload_n 3, 1) := by decide +kernel
theorem dX9_carry_7 : decode cX9_carry 7 = .ok (.iconst (-1), 1) := by decide +kernel
theorem dX9_carry_8 : decode cX9_carry 8 = .ok (.if_icmp .eq 13, 3) := by decide +kernel
theorem dX9_carry_11 : decode cX9_carry 11 = .ok (.aload_n 0, 1) := by decide +kernel
theorem dX9_carry_12 : decode cX9_carry 12 = .ok (.iload_n 3, 1) := by decide +kernel
theorem dX9_carry_13 : decode cX9_carry 13 = .ok (.iconst 0, 1) := by decide +kernel
theorem dX9_carry_14 : decode cX9_carry 14 = .ok (.iload_n 2, 1) := by decide +kernel
theorem dX9_carry_15 : decode cX9_carry 15 = .ok (.invokestatic 92, 3) := by decide +kernel
theorem dX9_carry_18 : decode cX9_carry 18 = .ok (.goto 17, 3) := by decide +kernel
theorem dX9_carry_21 : decode cX9_carry 21 = .ok (.aload_n 0, 1) := by decide +kernel
theorem dX9_carry_22 : decode cX9_carry 22 = .ok (.bipush 36, 2) := by decide +kernel
theorem dX9_carry_24 : decode cX9_carry 24 = .ok (.iload_n 1, 1) := by decide +kernel
theorem dX9_carry_25 : decode cX9_carry 25 = .ok (.iadd, 1) := by decide +kernel
theorem dX9_carry_26 : decode cX9_carry 26 = .ok (.iconst 0, 1) := by decide +kernel
theorem dX9_carry_27 : decode cX9_carry 27 = .ok (.iastore, 1) := by decide +kernel
theorem dX9_carry_28 : decode cX9_carry 28 = .ok (.aload_n 0, 1) := by decide +kernel
theorem dX9_carry_29 : decode cX9_carry 29 = .ok (.bipush 36, 2) := by decide +kernel
theorem dX9_carry_31 : decode cX9_carry 31 = .ok (.iload_n 2, 1) := by decide +kernel
theorem dX9_carry_32 : decode cX9_carry 32 = .ok (.iadd, 1) := by decide +kernel
theorem dX9_carry_33 : decode cX9_carry 33 = .ok (.iconst 1, 1) := by decide +kernel
theorem dX9_carry_34 : decode cX9_carry 34 = .ok (.iastore, 1) := by decide +kernel
theorem dX9_carry_35 : decode cX9_carry 35 = .ok (.return_, 1) := by decide +kernel
set_option maxRecDepth 20000 in
theorem ggX9_moves_X9_of : GoodIn wsX9_moves wsX9_of := goodIn_r _ [6] (by decide +kernel) (by decide +kernel)
set_option maxRecDepth 20000 in
theorem gX9_moves_X9_of : GoodIn wsX9_moves (va_wsS RX9 64 yX9_of wsX9_of) := goodIn_app (goodIn_of _ (by decide +kernel)) ggX9_moves_X9_of
set_option maxRecDepth 20000 in
theorem ggX9_moves_X9_next : GoodIn wsX9_moves wsX9_next := goodIn_r _ [9, 10, 11, 12, 5, 13] (by decide +kernel) (by decide +kernel)
set_option maxRecDepth 20000 in
theorem gX9_moves_X9_next : GoodIn wsX9_moves (va_wsS RX9 74 yX9_next wsX9_next) := goodIn_app (goodIn_of _ (by decide +kernel)) ggX9_moves_X9_next
set_option maxRecDepth 20000 in
theorem ggX9_moves_X9_carry : GoodIn wsX9_moves wsX9_carry := goodIn_r _ [16, 17, 18, 5, 19, 3, 4, 6, 20, 21, 22] (by decide +kernel) (by decide +kernel)
set_option maxRecDepth 20000 in
theorem gX9_moves_X9_carry : GoodIn wsX9_moves (va_wsS RX9 96 yX9_carry wsX9_carry) := goodIn_app (goodIn_of _ (by decide +kernel)) ggX9_moves_X9_carry
set_option maxRecDepth 20000 in
theorem ggX9_moves_X9_adds : GoodIn wsX9_moves wsX9_adds := goodIn_r _ [25] (by decide +kernel) (by decide +kernel)
set_option maxRecDepth 20000 in
theorem gX9_moves_X9_adds : GoodIn wsX9_moves (va_wsS RX9 100 yX9_adds wsX9_adds) := goodIn_app (goodIn_of _ (by decide +kernel)) ggX9_moves_X9_adds
theorem dX9_moves_0 : decode cX9_moves 0 = .ok (.aload_n 1, 1) := by decide +kernel
theorem dX9_moves_1 : decode cX9_moves 1 = .ok (.iload_n 2, 1) := by decide +kernel
theorem dX9_moves_2 : decode cX9_moves 2 = .ok (.iconst 0, 1) := by decide +kernel
theorem dX9_moves_3 : decode cX9_moves 3 = .ok (.invokestatic 64, 3) := by decide +kernel
theorem dX9_moves_6 : decode cX9_moves 6 = .ok (.istore_n 3, 1) := by decide +kernel
theorem dX9_moves_7 : decode cX9_moves 7 = .ok (.iload_n 3, 1) := by decide +kernel
theorem dX9_moves_8 : decode cX9_moves 8 = .ok (.istore 4, 2) := by decide +kernel
theorem dX9_moves_10 : decode cX9_moves 10 = .ok (.iconst 0, 1) := by decide +kernel
theorem dX9_moves_11 : decode cX9_moves 11 = .ok (.istore 5, 2) := by decide +kernel
theorem dX9_moves_13 : decode cX9_moves 13 = .ok (.iload 5, 2) := by decide +kernel
theorem dX9_moves_15 : decode cX9_moves 15 = .ok (.aload_n 0, 1) := by decide +kernel
theorem dX9_moves_16 : decode cX9_moves 16 = .ok (.getfield 35, 3) := by decide +kernel
theorem dX9_moves_19 : decode cX9_moves 19 = .ok (.iload_n 2, 1) := by decide +kernel
theorem dX9_moves_20 : decode cX9_moves 20 = .ok (.iaload, 1) := by decide +kernel
theorem dX9_moves_21 : decode cX9_moves 21 = .ok (.if_icmp .ge 22, 3) := by decide +kernel
theorem dX9_moves_24 : decode cX9_moves 24 = .ok (.iload 4, 2) := by decide +kernel
theorem dX9_moves_26 : decode cX9_moves 26 = .ok (.aload_n 0, 1) := by decide +kernel
theorem dX9_moves_27 : decode cX9_moves 27 = .ok (.getfield 32, 3) := by decide +kernel
theorem dX9_moves_30 : decode cX9_moves 30 = .ok (.iload_n 2, 1) := by decide +kernel
theorem dX9_moves_31 : decode cX9_moves 31 = .ok (.iaload, 1) := by decide +kernel
theorem dX9_moves_32 : decode cX9_moves 32 = .ok (.invokestatic 74, 3) := by decide +kernel
theorem dX9_moves_35 : decode cX9_moves 35 = .ok (.istore 4, 2) := by decide +kernel
theorem dX9_moves_37 : decode cX9_moves 37 = .ok (.iinc 5 1, 3) := by decide +kernel
theorem dX9_moves_40 : decode cX9_moves 40 = .ok (.goto (-27), 3) := by decide +kernel
theorem dX9_moves_43 : decode cX9_moves 43 = .ok (.aload_n 0, 1) := by decide +kernel
theorem dX9_moves_44 : decode cX9_moves 44 = .ok (.getfield 32, 3) := by decide +kernel
theorem dX9_moves_47 : decode cX9_moves 47 = .ok (.iload_n 2, 1) := by decide +kernel
theorem dX9_moves_48 : decode cX9_moves 48 = .ok (.iaload, 1) := by decide +kernel
theorem dX9_moves_49 : decode cX9_moves 49 = .ok (.iconst 2, 1) := by decide +kernel
theorem dX9_moves_50 : decode cX9_moves 50 = .ok (.iadd, 1) := by decide +kernel
theorem dX9_moves_51 : decode cX9_moves 51 = .ok (.iconst 4, 1) := by decide +kernel
theorem dX9_moves_52 : decode cX9_moves 52 = .ok (.irem, 1) := by decide +kernel
theorem dX9_moves_53 : decode cX9_moves 53 = .ok (.istore 5, 2) := by decide +kernel
theorem dX9_moves_55 : decode cX9_moves 55 = .ok (.iconst 0, 1) := by decide +kernel
theorem dX9_moves_56 : decode cX9_moves 56 = .ok (.istore 6, 2) := by decide +kernel
theorem dX9_moves_58 : decode cX9_moves 58 = .ok (.iload 6, 2) := by decide +kernel
theorem dX9_moves_60 : decode cX9_moves 60 = .ok (.aload_n 0, 1) := by decide +kernel
theorem dX9_moves_61 : decode cX9_moves 61 = .ok (.getfield 35, 3) := by decide +kernel
theorem dX9_moves_64 : decode cX9_moves 64 = .ok (.iload_n 2, 1) := by decide +kernel
theorem dX9_moves_65 : decode cX9_moves 65 = .ok (.iaload, 1) := by decide +kernel
theorem dX9_moves_66 : decode cX9_moves 66 = .ok (.if_icmp .gt 35, 3) := by decide +kernel
theorem dX9_moves_69 : decode cX9_moves 69 = .ok (.aload_n 1, 1) := by decide +kernel
theorem dX9_moves_70 : decode cX9_moves 70 = .ok (.iload 4, 2) := by decide +kernel
theorem dX9_moves_72 : decode cX9_moves 72 = .ok (.iload 4, 2) := by decide +kernel
theorem dX9_moves_74 : decode cX9_moves 74 = .ok (.aload_n 0, 1) := by decide +kernel
theorem dX9_moves_75 : decode cX9_moves 75 = .ok (.getfield 32, 3) := by decide +kernel
theorem dX9_moves_78 : decode cX9_moves 78 = .ok (.iload_n 2, 1) := by decide +kernel
theorem dX9_moves_79 : decode cX9_moves 79 = .ok (.iaload, 1) := by decide +kernel
theorem dX9_moves_80 : decode cX9_moves 80 = .ok (.invokestatic 74, 3) := by decide +kernel
theorem dX9_moves_83 : decode cX9_moves 83 = .ok (.invokestatic 96, 3) := by decide +kernel
theorem dX9_moves_86 : decode cX9_moves 86 = .ok (.iload 4, 2) := by decide +kernel
theorem dX9_moves_88 : decode cX9_moves 88 = .ok (.iload 5, 2) := by decide +kernel
theorem dX9_moves_90 : decode cX9_moves 90 = .ok (.invokestatic 74, 3) := by decide +kernel
theorem dX9_moves_93 : decode cX9_moves 93 = .ok (.istore 4, 2) := by decide +kernel
theorem dX9_moves_95 : decode cX9_moves 95 = .ok (.iinc 6 1, 3) := by decide +kernel
theorem dX9_moves_98 : decode cX9_moves 98 = .ok (.goto (-40), 3) := by decide +kernel
theorem dX9_moves_101 : decode cX9_moves 101 = .ok (.aload_n 1, 1) := by decide +kernel
theorem dX9_moves_102 : decode cX9_moves 102 = .ok (.iload_n 2, 1) := by decide +kernel
theorem dX9_moves_103 : decode cX9_moves 103 = .ok (.iconst 3, 1) := by decide +kernel
theorem dX9_moves_104 : decode cX9_moves 104 = .ok (.iconst 1, 1) := by decide +kernel
theorem dX9_moves_105 : decode cX9_moves 105 = .ok (.invokestatic 100, 3) := by decide +kernel
theorem dX9_moves_108 : decode cX9_moves 108 = .ok (.aload_n 1, 1) := by decide +kernel
theorem dX9_moves_109 : decode cX9_moves 109 = .ok (.iload_n 2, 1) := by decide +kernel
theorem dX9_moves_110 : decode cX9_moves 110 = .ok (.iconst 5, 1) := by decide +kernel
theorem dX9_moves_111 : decode cX9_moves 111 = .ok (.aload_n 0, 1) := by decide +kernel
theorem dX9_moves_112 : decode cX9_moves 112 = .ok (.getfield 35, 3) := by decide +kernel
theorem dX9_moves_115 : decode cX9_moves 115 = .ok (.iload_n 2, 1) := by decide +kernel
theorem dX9_moves_116 : decode cX9_moves 116 = .ok (.iaload, 1) := by decide +kernel
theorem dX9_moves_117 : decode cX9_moves 117 = .ok (.invokestatic 100, 3) := by decide +kernel
theorem dX9_moves_120 : decode cX9_moves 120 = .ok (.return_, 1) := by decide +kernel
set_option maxRecDepth 20000 in
theorem ggX9_turns_X9_of : GoodIn wsX9_turns wsX9_of := goodIn_r _ [4] (by decide +kernel) (by decide +kernel)
set_option maxRecDepth 20000 in
theorem gX9_turns_X9_of : GoodIn wsX9_turns (va_wsS RX9 64 yX9_of wsX9_of) := goodIn_app (goodIn_of _ (by decide +kernel)) ggX9_turns_X9_of
set_option maxRecDepth 20000 in
theorem ggX9_turns_X9_puts : GoodIn wsX9_turns wsX9_puts := goodIn_r _ [7] (by decide +kernel) (by decide +kernel)
set_option maxRecDepth 20000 in
theorem gX9_turns_X9_puts : GoodIn wsX9_turns (va_wsS RX9 92 yX9_puts wsX9_puts) := goodIn_app (goodIn_of _ (by decide +kernel)) ggX9_turns_X9_puts
theorem dX9_turns_0 : decode cX9_turns 0 = .ok (.aload_n 0, 1) := by decide +kernel
theorem dX9_turns_1 : decode cX9_turns 1 = .ok (.iload_n 1, 1) := by decide +kernel
theorem dX9_turns_2 : decode cX9_turns 2 = .ok (.bipush 8, 2) := by decide +kernel
theorem dX9_turns_4 : decode cX9_turns 4 = .ok (.invokestatic 64, 3) := by decide +kernel
theorem dX9_turns_7 : decode cX9_turns 7 = .ok (.ifCond .le 90, 3) := by decide +kernel
theorem dX9_turns_10 : decode cX9_turns 10 = .ok (.aload_n 0, 1) := by decide +kernel
theorem dX9_turns_11 : decode cX9_turns 11 = .ok (.bipush 90, 2) := by decide +kernel
theorem dX9_turns_13 : decode cX9_turns 13 = .ok (.bipush 10, 2) := by decide +kernel
theorem dX9_turns_15 : decode cX9_turns 15 = .ok (.iload_n 1, 1) := by decide +kernel
theorem dX9_turns_16 : decode cX9_turns 16 = .ok (.imul, 1) := by decide +kernel
theorem dX9_turns_17 : decode cX9_turns 17 = .ok (.iadd, 1) := by decide +kernel
theorem dX9_turns_18 : decode cX9_turns 18 = .ok (.aload_n 0, 1) := by decide +kernel
theorem dX9_turns_19 : decode cX9_turns 19 = .ok (.iload_n 1, 1) := by decide +kernel
theorem dX9_turns_20 : decode cX9_turns 20 = .ok (.bipush 7, 2) := by decide +kernel
theorem dX9_turns_22 : decode cX9_turns 22 = .ok (.invokestatic 64, 3) := by decide +kernel
theorem dX9_turns_25 : decode cX9_turns 25 = .ok (.iadd, 1) := by decide +kernel
theorem dX9_turns_26 : decode cX9_turns 26 = .ok (.iaload, 1) := by decide +kernel
theorem dX9_turns_27 : decode cX9_turns 27 = .ok (.istore_n 2, 1) := by decide +kernel
theorem dX9_turns_28 : decode cX9_turns 28 = .ok (.iload_n 2, 1) := by decide +kernel
theorem dX9_turns_29 : decode cX9_turns 29 = .ok (.iconst 2, 1) := by decide +kernel
theorem dX9_turns_30 : decode cX9_turns 30 = .ok (.if_icmp .ne 7, 3) := by decide +kernel
theorem dX9_turns_33 : decode cX9_turns 33 = .ok (.iconst 3, 1) := by decide +kernel
theorem dX9_turns_34 : decode cX9_turns 34 = .ok (.goto 22, 3) := by decide +kernel
theorem dX9_turns_37 : decode cX9_turns 37 = .ok (.iload_n 2, 1) := by decide +kernel
theorem dX9_turns_38 : decode cX9_turns 38 = .ok (.iconst 3, 1) := by decide +kernel
theorem dX9_turns_39 : decode cX9_turns 39 = .ok (.if_icmp .ne 7, 3) := by decide +kernel
theorem dX9_turns_42 : decode cX9_turns 42 = .ok (.iconst 1, 1) := by decide +kernel
theorem dX9_turns_43 : decode cX9_turns 43 = .ok (.goto 13, 3) := by decide +kernel
theorem dX9_turns_46 : decode cX9_turns 46 = .ok (.iload_n 2, 1) := by decide +kernel
theorem dX9_turns_47 : decode cX9_turns 47 = .ok (.iconst 4, 1) := by decide +kernel
theorem dX9_turns_48 : decode cX9_turns 48 = .ok (.if_icmp .ne 7, 3) := by decide +kernel
theorem dX9_turns_51 : decode cX9_turns 51 = .ok (.iconst 2, 1) := by decide +kernel
theorem dX9_turns_52 : decode cX9_turns 52 = .ok (.goto 4, 3) := by decide +kernel
theorem dX9_turns_55 : decode cX9_turns 55 = .ok (.iconst 0, 1) := by decide +kernel
theorem dX9_turns_56 : decode cX9_turns 56 = .ok (.istore_n 3, 1) := by decide +kernel
theorem dX9_turns_57 : decode cX9_turns 57 = .ok (.aload_n 0, 1) := by decide +kernel
theorem dX9_turns_58 : decode cX9_turns 58 = .ok (.iload_n 1, 1) := by decide +kernel
theorem dX9_turns_59 : decode cX9_turns 59 = .ok (.iconst 1, 1) := by decide +kernel
theorem dX9_turns_60 : decode cX9_turns 60 = .ok (.aload_n 0, 1) := by decide +kernel
theorem dX9_turns_61 : decode cX9_turns 61 = .ok (.iload_n 1, 1) := by decide +kernel
theorem dX9_turns_62 : decode cX9_turns 62 = .ok (.iconst 1, 1) := by decide +kernel
theorem dX9_turns_63 : decode cX9_turns 63 = .ok (.invokestatic 64, 3) := by decide +kernel
theorem dX9_turns_66 : decode cX9_turns 66 = .ok (.iload_n 3, 1) := by decide +kernel
theorem dX9_turns_67 : decode cX9_turns 67 = .ok (.iadd, 1) := by decide +kernel
theorem dX9_turns_68 : decode cX9_turns 68 = .ok (.iconst 4, 1) := by decide +kernel
theorem dX9_turns_69 : decode cX9_turns 69 = .ok (.irem, 1) := by decide +kernel
theorem dX9_turns_70 : decode cX9_turns 70 = .ok (.invokestatic 92, 3) := by decide +kernel
theorem dX9_turns_73 : decode cX9_turns 73 = .ok (.aload_n 0, 1) := by decide +kernel
theorem dX9_turns_74 : decode cX9_turns 74 = .ok (.iload_n 1, 1) := by decide +kernel
theorem dX9_turns_75 : decode cX9_turns 75 = .ok (.bipush 7, 2) := by decide +kernel
theorem dX9_turns_77 : decode cX9_turns 77 = .ok (.aload_n 0, 1) := by decide +kernel
theorem dX9_turns_78 : decode cX9_turns 78 = .ok (.iload_n 1, 1) := by decide +kernel
theorem dX9_turns_79 : decode cX9_turns 79 = .ok (.bipush 7, 2) := by decide +kernel
theorem dX9_turns_81 : decode cX9_turns 81 = .ok (.invokestatic 64, 3) := by decide +kernel
theorem dX9_turns_84 : decode cX9_turns 84 = .ok (.iconst 1, 1) := by decide +kernel
theorem dX9_turns_85 : decode cX9_turns 85 = .ok (.iadd, 1) := by decide +kernel
theorem dX9_turns_86 : decode cX9_turns 86 = .ok (.aload_n 0, 1) := by decide +kernel
theorem dX9_turns_87 : decode cX9_turns 87 = .ok (.iload_n 1, 1) := by decide +kernel
theorem dX9_turns_88 : decode cX9_turns 88 = .ok (.bipush 8, 2) := by decide +kernel
theorem dX9_turns_90 : decode cX9_turns 90 = .ok (.invokestatic 64, 3) := by decide +kernel
theorem dX9_turns_93 : decode cX9_turns 93 = .ok (.irem, 1) := by decide +kernel
theorem dX9_turns_94 : decode cX9_turns 94 = .ok (.invokestatic 92, 3) := by decide +kernel
theorem dX9_turns_97 : decode cX9_turns 97 = .ok (.return_, 1) := by decide +kernel
set_option maxRecDepth 20000 in
theorem ggX9_follow_X9_findsWays : GoodIn wsX9_follow wsX9_findsWays := goodIn_r _ [7, 2, 1, 8, 9, 6, 10, 11, 12, 13, 14, 15, 16, 17, 18, 19, 20, 21, 22, 23, 24, 25, 26, 27, 28, 29, 53, 54, 55, 56, 57, 58, 59, 60, 61, 62, 63, 64, 65, 66, 67, 68, 69, 70, 71] (by decide +kernel) (by decide +kernel)
set_option maxRecDepth 20000 in
theorem gX9_follow_X9_findsWays : GoodIn wsX9_follow (wsV RX9 103 RX9 yX9_findsWays wsX9_findsWays) := goodIn_app (goodIn_of _ (by decide +kernel)) ggX9_follow_X9_findsWays
set_option maxRecDepth 20000 in
theorem ggX9_follow_X9_clash : GoodIn wsX9_follow wsX9_clash := goodIn_r _ [33, 1, 2, 11, 12, 6, 13, 34, 35, 36, 17, 18, 19, 20, 21, 22, 23, 53, 54, 55, 56, 57, 58, 59, 60, 61, 62, 63, 64, 65, 66, 67, 68, 69, 70, 71] (by decide +kernel) (by decide +kernel)
set_option maxRecDepth 20000 in
theorem gX9_follow_X9_clash : GoodIn wsX9_follow (wsV RX9 106 RX9 yX9_clash wsX9_clash) := goodIn_app (goodIn_of _ (by decide +kernel)) ggX9_follow_X9_clash
set_option maxRecDepth 20000 in
theorem ggX9_follow_X9_moves : GoodIn wsX9_follow wsX9_moves := goodIn_r _ [40, 1, 2, 11, 12, 6, 13, 17, 18, 19, 20, 21, 22, 23, 41, 42, 43, 27, 28, 29, 44, 45, 46, 47, 48, 49, 53, 54, 55, 56, 57, 58, 59, 60, 61, 62, 63, 64, 65, 66, 67, 68, 69, 70, 71] (by decide +kernel) (by decide +kernel)
set_option maxRecDepth 20000 in
theorem gX9_follow_X9_moves : GoodIn wsX9_follow (wsV RX9 110 RX9 yX9_moves wsX9_moves) := goodIn_app (goodIn_of _ (by decide +kernel)) ggX9_follow_X9_moves
set_option maxRecDepth 20000 in
theorem ggX9_follow_X9_adds : GoodIn wsX9_follow wsX9_adds := goodIn_r _ [49] (by decide +kernel) (by decide +kernel)
set_option maxRecDepth 20000 in
theorem gX9_follow_X9_adds : GoodIn wsX9_follow (va_wsS RX9 100 yX9_adds wsX9_adds) := goodIn_app (goodIn_of _ (by decide +kernel)) ggX9_follow_X9_adds
set_option maxRecDepth 20000 in
theorem ggX9_follow_X9_turns : GoodIn wsX9_follow wsX9_turns := goodIn_r _ [52, 11, 12, 6, 13, 44, 45, 46] (by decide +kernel) (by decide +kernel)
set_option maxRecDepth 20000 in
theorem gX9_follow_X9_turns : GoodIn wsX9_follow (va_wsS RX9 114 yX9_turns wsX9_turns) := goodIn_app (goodIn_of _ (by decide +kernel)) ggX9_follow_X9_turns
theorem dX9_follow_0 : decode cX9_follow 0 = .ok (.aload_n 0, 1) := by decide +kernel
theorem dX9_follow_1 : decode cX9_follow 1 = .ok (.aload_n 1, 1) := by decide +kernel
theorem dX9_follow_2 : decode cX9_follow 2 = .ok (.invokevirtual 103, 3) := by decide +kernel
theorem dX9_follow_5 : decode cX9_follow 5 = .ok (.aload_n 0, 1) := by decide +kernel
theorem dX9_follow_6 : decode cX9_follow 6 = .ok (.aload_n 1, 1) := by decide +kernel
theorem dX9_follow_7 : decode cX9_follow 7 = .ok (.invokevirtual 106, 3) := by decide +kernel
theorem dX9_follow_10 : decode cX9_follow 10 = .ok (.istore_n 2, 1) := by decide +kernel
theorem dX9_follow_11 : decode cX9_follow 11 = .ok (.iconst 0, 1) := by decide +kernel
theorem dX9_follow_12 : decode cX9_follow 12 = .ok (.istore_n 3, 1) := by decide +kernel
theorem dX9_follow_13 : decode cX9_follow 13 = .ok (.iload_n 3, 1) := by decide +kernel
theorem dX9_follow_14 : decode cX9_follow 14 = .ok (.iconst 2, 1) := by decide +kernel
theorem dX9_follow_15 : decode cX9_follow 15 = .ok (.if_icmp .ge 66, 3) := by decide +kernel
theorem dX9_follow_18 : decode cX9_follow 18 = .ok (.aload_n 0, 1) := by decide +kernel
theorem dX9_follow_19 : decode cX9_follow 19 = .ok (.getfield 35, 3) := by decide +kernel
theorem dX9_follow_22 : decode cX9_follow 22 = .ok (.iload_n 3, 1) := by decide +kernel
theorem dX9_follow_23 : decode cX9_follow 23 = .ok (.iaload, 1) := by decide +kernel
theorem dX9_follow_24 : decode cX9_follow 24 = .ok (.iconst (-1), 1) := by decide +kernel
theorem dX9_follow_25 : decode cX9_follow 25 = .ok (.if_icmp .eq 11, 3) := by decide +kernel
theorem dX9_follow_28 : decode cX9_follow 28 = .ok (.iload_n 2, 1) := by decide +kernel
theorem dX9_follow_29 : decode cX9_follow 29 = .ok (.ifCond .ne 7, 3) := by decide +kernel
theorem dX9_follow_32 : decode cX9_follow 32 = .ok (.iconst 1, 1) := by decide +kernel
theorem dX9_follow_33 : decode cX9_follow 33 = .ok (.goto 4, 3) := by decide +kernel
theorem dX9_follow_36 : decode cX9_follow 36 = .ok (.iconst 0, 1) := by decide +kernel
theorem dX9_follow_37 : decode cX9_follow 37 = .ok (.istore 4, 2) := by decide +kernel
theorem dX9_follow_39 : decode cX9_follow 39 = .ok (.iload 4, 2) := by decide +kernel
theorem dX9_follow_41 : decode cX9_follow 41 = .ok (.ifCond .eq 12, 3) := by decide +kernel
theorem dX9_follow_44 : decode cX9_follow 44 = .ok (.aload_n 0, 1) := by decide +kernel
theorem dX9_follow_45 : decode cX9_follow 45 = .ok (.aload_n 1, 1) := by decide +kernel
theorem dX9_follow_46 : decode cX9_follow 46 = .ok (.iload_n 3, 1) := by decide +kernel
theorem dX9_follow_47 : decode cX9_follow 47 = .ok (.invokevirtual 110, 3) := by decide +kernel
theorem dX9_follow_50 : decode cX9_follow 50 = .ok (.goto 20, 3) := by decide +kernel
theorem dX9_follow_53 : decode cX9_follow 53 = .ok (.aload_n 0, 1) := by decide +kernel
theorem dX9_follow_54 : decode cX9_follow 54 = .ok (.getfield 32, 3) := by decide +kernel
theorem dX9_follow_57 : decode cX9_follow 57 = .ok (.iload_n 3, 1) := by decide +kernel
theorem dX9_follow_58 : decode cX9_follow 58 = .ok (.iaload, 1) := by decide +kernel
theorem dX9_follow_59 : decode cX9_follow 59 = .ok (.iconst (-1), 1) := by decide +kernel
theorem dX9_follow_60 : decode cX9_follow 60 = .ok (.if_icmp .eq 10, 3) := by decide +kernel
theorem dX9_follow_63 : decode cX9_follow 63 = .ok (.aload_n 1, 1) := by decide +kernel
theorem dX9_follow_64 : decode cX9_follow 64 = .ok (.iload_n 3, 1) := by decide +kernel
theorem dX9_follow_65 : decode cX9_follow 65 = .ok (.iconst 4, 1) := by decide +kernel
theorem dX9_follow_66 : decode cX9_follow 66 = .ok (.iconst 1, 1) := by decide +kernel
theorem dX9_follow_67 : decode cX9_follow 67 = .ok (.invokestatic 100, 3) := by decide +kernel
theorem dX9_follow_70 : decode cX9_follow 70 = .ok (.aload_n 1, 1) := by decide +kernel
theorem dX9_follow_71 : decode cX9_follow 71 = .ok (.iload_n 3, 1) := by decide +kernel
theorem dX9_follow_72 : decode cX9_follow 72 = .ok (.invokestatic 114, 3) := by decide +kernel
theorem dX9_follow_75 : decode cX9_follow 75 = .ok (.iinc 3 1, 3) := by decide +kernel
theorem dX9_follow_78 : decode cX9_follow 78 = .ok (.goto (-65), 3) := by decide +kernel
theorem dX9_follow_81 : decode cX9_follow 81 = .ok (.return_, 1) := by decide +kernel
set_option maxRecDepth 20000 in
theorem ggX9_findsTargets_X9_hasThing : GoodIn wsX9_findsTargets wsX9_hasThing := goodIn_r _ [6, 7, 8, 5, 9, 10, 11, 12] (by decide +kernel) (by decide +kernel)
set_option maxRecDepth 20000 in
theorem gX9_findsTargets_X9_hasThing : GoodIn wsX9_findsTargets (va_wsS RX9 78 yX9_hasThing wsX9_hasThing) := goodIn_app (goodIn_of _ (by decide +kernel)) ggX9_findsTargets_X9_hasThing
set_option maxRecDepth 20000 in
theorem ggX9_findsTargets_X9_next : GoodIn wsX9_findsTargets wsX9_next := goodIn_r _ [15, 16, 17, 18, 5, 19] (by decide +kernel) (by decide +kernel)
set_option maxRecDepth 20000 in
theorem gX9_findsTargets_X9_next : GoodIn wsX9_findsTargets (va_wsS RX9 74 yX9_next wsX9_next) := goodIn_app (goodIn_of _ (by decide +kernel)) ggX9_findsTargets_X9_next
theorem dX9_findsTargets_0 : decode cX9_findsTargets 0 = .ok (.iconst 0, 1) := by decide +kernel
theorem dX9_findsTargets_1 : decode cX9_findsTargets 1 = .ok (.istore_n 2, 1) := by decide +kernel
theorem dX9_findsTargets_2 : decode cX9_findsTargets 2 = .ok (.iload_n 2, 1) := by decide +kernel
theorem dX9_findsTargets_3 : decode cX9_findsTargets 3 = .ok (.bipush 36, 2) := by decide +kernel
theorem dX9_findsTargets_5 : decode cX9_findsTargets 5 = .ok (.if_icmp .ge 61, 3) := by decide +kernel
theorem dX9_findsTargets_8 : decode cX9_findsTargets 8 = .ok (.aload_n 1, 1) := by decide +kernel
theorem dX9_findsTargets_9 : decode cX9_findsTargets 9 = .ok (.iload_n 2, 1) := by decide +kernel
theorem dX9_findsTargets_10 : decode cX9_findsTargets 10 = .ok (.iaload, 1) := by decide +kernel
theorem dX9_findsTargets_11 : decode cX9_findsTargets 11 = .ok (.iconst 3, 1) := by decide +kernel
theorem dX9_findsTargets_12 : decode cX9_findsTargets 12 = .ok (.if_icmp .lt 23, 3) := by decide +kernel
theorem dX9_findsTargets_15 : decode cX9_findsTargets 15 = .ok (.aload_n 1, 1) := by decide +kernel
theorem dX9_findsTargets_16 : decode cX9_findsTargets 16 = .ok (.iload_n 2, 1) := by decide +kernel
theorem dX9_findsTargets_17 : decode cX9_findsTargets 17 = .ok (.invokestatic 78, 3) := by decide +kernel
theorem dX9_findsTargets_20 : decode cX9_findsTargets 20 = .ok (.ifCond .eq 15, 3) := by decide +kernel
theorem dX9_findsTargets_23 : decode cX9_findsTargets 23 = .ok (.iload_n 2, 1) := by decide +kernel
theorem dX9_findsTargets_24 : decode cX9_findsTargets 24 = .ok (.aload_n 1, 1) := by decide +kernel
theorem dX9_findsTargets_25 : decode cX9_findsTargets 25 = .ok (.iload_n 2, 1) := by decide +kernel
theorem dX9_findsTargets_26 : decode cX9_findsTargets 26 = .ok (.iaload, 1) := by decide +kernel
theorem dX9_findsTargets_27 : decode cX9_findsTargets 27 = .ok (.iconst 3, 1) := by decide +kernel
theorem dX9_findsTargets_28 : decode cX9_findsTargets 28 = .ok (.isub, 1) := by decide +kernel
theorem dX9_findsTargets_29 : decode cX9_findsTargets 29 = .ok (.invokestatic 74, 3) := by decide +kernel
theorem dX9_findsTargets_32 : decode cX9_findsTargets 32 = .ok (.goto 4, 3) := by decide +kernel
theorem dX9_findsTargets_35 : decode cX9_findsTargets 35 = .ok (.iconst (-1), 1) := by decide +kernel
theorem dX9_findsTargets_36 : decode cX9_findsTargets 36 = .ok (.istore_n 3, 1) := by decide +kernel
theorem dX9_findsTargets_37 : decode cX9_findsTargets 37 = .ok (.aload_n 0, 1) := by decide +kernel
theorem dX9_findsTargets_38 : decode cX9_findsTargets 38 = .ok (.getfield 41, 3) := by decide +kernel
theorem dX9_findsTargets_41 : decode cX9_findsTargets 41 = .ok (.iload_n 2, 1) := by decide +kernel
theorem dX9_findsTargets_42 : decode cX9_findsTargets 42 = .ok (.iload_n 3, 1) := by decide +kernel
theorem dX9_findsTargets_43 : decode cX9_findsTargets 43 = .ok (.iconst (-1), 1) := by decide +kernel
theorem dX9_findsTargets_44 : decode cX9_findsTargets 44 = .ok (.if_icmp .eq 14, 3) := by decide +kernel
theorem dX9_findsTargets_47 : decode cX9_findsTargets 47 = .ok (.aload_n 1, 1) := by decide +kernel
theorem dX9_findsTargets_48 : decode cX9_findsTargets 48 = .ok (.iload_n 3, 1) := by decide +kernel
theorem dX9_findsTargets_49 : decode cX9_findsTargets 49 = .ok (.iaload, 1) := by decide +kernel
theorem dX9_findsTargets_50 : decode cX9_findsTargets 50 = .ok (.iconst 1, 1) := by decide +kernel
theorem dX9_findsTargets_51 : decode cX9_findsTargets 51 = .ok (.if_icmp .ne 7, 3) := by decide +kernel
theorem dX9_findsTargets_54 : decode cX9_findsTargets 54 = .ok (.iconst (-1), 1) := by decide +kernel
theorem dX9_findsTargets_55 : decode cX9_findsTargets 55 = .ok (.goto 4, 3) := by decide +kernel
theorem dX9_findsTargets_58 : decode cX9_findsTargets 58 = .ok (.iload_n 3, 1) := by decide +kernel
theorem dX9_findsTargets_59 : decode cX9_findsTargets 59 = .ok (.iastore, 1) := by decide +kernel
theorem dX9_findsTargets_60 : decode cX9_findsTargets 60 = .ok (.iinc 2 1, 3) := by decide +kernel
theorem dX9_findsTargets_63 : decode cX9_findsTargets 63 = .ok (.goto (-61), 3) := by decide +kernel
theorem dX9_findsTargets_66 : decode cX9_findsTargets 66 = .ok (.iconst 0, 1) := by decide +kernel
theorem dX9_findsTargets_67 : decode cX9_findsTargets 67 = .ok (.istore_n 2, 1) := by decide +kernel
theorem dX9_findsTargets_68 : decode cX9_findsTargets 68 = .ok (.iload_n 2, 1) := by decide +kernel
theorem dX9_findsTargets_69 : decode cX9_findsTargets 69 = .ok (.bipush 36, 2) := by decide +kernel
theorem dX9_findsTargets_71 : decode cX9_findsTargets 71 = .ok (.if_icmp .ge 115, 3) := by decide +kernel
theorem dX9_findsTargets_74 : decode cX9_findsTargets 74 = .ok (.aload_n 0, 1) := by decide +kernel
theorem dX9_findsTargets_75 : decode cX9_findsTargets 75 = .ok (.getfield 38, 3) := by decide +kernel
theorem dX9_findsTargets_78 : decode cX9_findsTargets 78 = .ok (.iload_n 2, 1) := by decide +kernel
theorem dX9_findsTargets_79 : decode cX9_findsTargets 79 = .ok (.aload_n 0, 1) := by decide +kernel
theorem dX9_findsTargets_80 : decode cX9_findsTargets 80 = .ok (.getfield 41, 3) := by decide +kernel
theorem dX9_findsTargets_83 : decode cX9_findsTargets 83 = .ok (.iload_n 2, 1) := by decide +kernel
theorem dX9_findsTargets_84 : decode cX9_findsTargets 84 = .ok (.iaload, 1) := by decide +kernel
theorem dX9_findsTargets_85 : decode cX9_findsTargets 85 = .ok (.iastore, 1) := by decide +kernel
theorem dX9_findsTargets_86 : decode cX9_findsTargets 86 = .ok (.iconst 0, 1) := by decide +kernel
theorem dX9_findsTargets_87 : decode cX9_findsTargets 87 = .ok (.istore_n 3, 1) := by decide +kernel
theorem dX9_findsTargets_88 : decode cX9_findsTargets 88 = .ok (.iload_n 3, 1) := by decide +kernel
theorem dX9_findsTargets_89 : decode cX9_findsTargets 89 = .ok (.bipush 36, 2) := by decide +kernel
theorem dX9_findsTargets_91 : decode cX9_findsTargets 91 = .ok (.if_icmp .ge 89, 3) := by decide +kernel
theorem dX9_findsTargets_94 : decode cX9_findsTargets 94 = .ok (.iload_n 3, 1) := by decide +kernel
theorem dX9_findsTargets_95 : decode cX9_findsTargets 95 = .ok (.iload_n 2, 1) := by decide +kernel
theorem dX9_findsTargets_96 : decode cX9_findsTargets 96 = .ok (.if_icmp .eq 22, 3) := by decide +kernel
theorem dX9_findsTargets_99 : decode cX9_findsTargets 99 = .ok (.aload_n 0, 1) := by decide +kernel
theorem dX9_findsTargets_100 : decode cX9_findsTargets 100 = .ok (.getfield 41, 3) := by decide +kernel
theorem dX9_findsTargets_103 : decode cX9_findsTargets 103 = .ok (.iload_n 3, 1) := by decide +kernel
theorem dX9_findsTargets_104 : decode cX9_findsTargets 104 = .ok (.iaload, 1) := by decide +kernel
theorem dX9_findsTargets_105 : decode cX9_findsTargets 105 = .ok (.aload_n 0, 1) := by decide +kernel
theorem dX9_findsTargets_106 : decode cX9_findsTargets 106 = .ok (.getfield 41, 3) := by decide +kernel
theorem dX9_findsTargets_109 : decode cX9_findsTargets 109 = .ok (.iload_n 2, 1) := by decide +kernel
theorem dX9_findsTargets_110 : decode cX9_findsTargets 110 = .ok (.iaload, 1) := by decide +kernel
theorem dX9_findsTargets_111 : decode cX9_findsTargets 111 = .ok (.if_icmp .ne 7, 3) := by decide +kernel
theorem dX9_findsTargets_114 : decode cX9_findsTargets 114 = .ok (.iconst 1, 1) := by decide +kernel
theorem dX9_findsTargets_115 : decode cX9_findsTargets 115 = .ok (.goto 4, 3) := by decide +kernel
theorem dX9_findsTargets_118 : decode cX9_findsTargets 118 = .ok (.iconst 0, 1) := by decide +kernel
theorem dX9_findsTargets_119 : decode cX9_findsTargets 119 = .ok (.istore 4, 2) := by decide +kernel
theorem dX9_findsTargets_121 : decode cX9_findsTargets 121 = .ok (.iload_n 3, 1) := by decide +kernel
theorem dX9_findsTargets_122 : decode cX9_findsTargets 122 = .ok (.aload_n 0, 1) := by decide +kernel
theorem dX9_findsTargets_123 : decode cX9_findsTargets 123 = .ok (.getfield 41, 3) := by decide +kernel
theorem dX9_findsTargets_126 : decode cX9_findsTargets 126 = .ok (.iload_n 2, 1) := by decide +kernel
theorem dX9_findsTargets_127 : decode cX9_findsTargets 127 = .ok (.iaload, 1) := by decide +kernel
theorem dX9_findsTargets_128 : decode cX9_findsTargets 128 = .ok (.if_icmp .ne 17, 3) := by decide +kernel
theorem dX9_findsTargets_131 : decode cX9_findsTargets 131 = .ok (.aload_n 0, 1) := by decide +kernel
theorem dX9_findsTargets_132 : decode cX9_findsTargets 132 = .ok (.getfield 41, 3) := by decide +kernel
theorem dX9_findsTargets_135 : decode cX9_findsTargets 135 = .ok (.iload_n 3, 1) := by decide +kernel
theorem dX9_findsTargets_136 : decode cX9_findsTargets 136 = .ok (.iaload, 1) := by decide +kernel
theorem dX9_findsTargets_137 : decode cX9_findsTargets 137 = .ok (.iload_n 2, 1) := by decide +kernel
theorem dX9_findsTargets_138 : decode cX9_findsTargets 138 = .ok (.if_icmp .ne 7, 3) := by decide +kernel
theorem dX9_findsTargets_141 : decode cX9_findsTargets 141 = .ok (.iconst 1, 1) := by decide +kernel
theorem dX9_findsTargets_142 : decode cX9_findsTargets 142 = .ok (.goto 4, 3) := by decide +kernel
theorem dX9_findsTargets_145 : decode cX9_findsTargets 145 = .ok (.iconst 0, 1) := by decide +kernel
theorem dX9_findsTargets_146 : decode cX9_findsTargets 146 = .ok (.istore 5, 2) := by decide +kernel
theorem dX9_findsTargets_148 : decode cX9_findsTargets 148 = .ok (.aload_n 0, 1) := by decide +kernel
theorem dX9_findsTargets_149 : decode cX9_findsTargets 149 = .ok (.getfield 38, 3) := by decide +kernel
theorem dX9_findsTargets_152 : decode cX9_findsTargets 152 = .ok (.iload_n 2, 1) := by decide +kernel
theorem dX9_findsTargets_153 : decode cX9_findsTargets 153 = .ok (.iload 4, 2) := by decide +kernel
theorem dX9_findsTargets_155 : decode cX9_findsTargets 155 = .ok (.ifCond .ne 8, 3) := by decide +kernel
theorem dX9_findsTargets_158 : decode cX9_findsTargets 158 = .ok (.iload 5, 2) := by decide +kernel
theorem dX9_findsTargets_160 : decode cX9_findsTargets 160 = .ok (.ifCond .eq 7, 3) := by decide +kernel
theorem dX9_findsTargets_163 : decode cX9_findsTargets 163 = .ok (.iconst (-1), 1) := by decide +kernel
theorem dX9_findsTargets_164 : decode cX9_findsTargets 164 = .ok (.goto 9, 3) := by decide +kernel
theorem dX9_findsTargets_167 : decode cX9_findsTargets 167 = .ok (.aload_n 0, 1) := by decide +kernel
theorem dX9_findsTargets_168 : decode cX9_findsTargets 168 = .ok (.getfield 38, 3) := by decide +kernel
theorem dX9_findsTargets_171 : decode cX9_findsTargets 171 = .ok (.iload_n 2, 1) := by decide +kernel
theorem dX9_findsTargets_172 : decode cX9_findsTargets 172 = .ok (.iaload, 1) := by decide +kernel
theorem dX9_findsTargets_173 : decode cX9_findsTargets 173 = .ok (.iastore, 1) := by decide +kernel
theorem dX9_findsTargets_174 : decode cX9_findsTargets 174 = .ok (.iinc 3 1, 3) := by decide +kernel
theorem dX9_findsTargets_177 : decode cX9_findsTargets 177 = .ok (.goto (-89), 3) := by decide +kernel
theorem dX9_findsTargets_180 : decode cX9_findsTargets 180 = .ok (.iinc 2 1, 3) := by decide +kernel
theorem dX9_findsTargets_183 : decode cX9_findsTargets 183 = .ok (.goto (-115), 3) := by decide +kernel
theorem dX9_findsTargets_186 : decode cX9_findsTargets 186 = .ok (.return_, 1) := by decide +kernel
set_option maxRecDepth 20000 in
theorem ggX9_holdsBack_X9_hasThing : GoodIn wsX9_holdsBack wsX9_hasThing := goodIn_r _ [5, 6, 7, 4, 8, 9, 10, 11] (by decide +kernel) (by decide +kernel)
set_option maxRecDepth 20000 in
theorem gX9_holdsBack_X9_hasThing : GoodIn wsX9_holdsBack (va_wsS RX9 78 yX9_hasThing wsX9_hasThing) := goodIn_app (goodIn_of _ (by decide +kernel)) ggX9_holdsBack_X9_hasThing
theorem dX9_holdsBack_0 : decode cX9_holdsBack 0 = .ok (.iconst 1, 1) := by decide +kernel
theorem dX9_holdsBack_1 : decode cX9_holdsBack 1 = .ok (.istore_n 2, 1) := by decide +kernel
theorem dX9_holdsBack_2 : decode cX9_holdsBack 2 = .ok (.iload_n 2, 1) := by decide +kernel
theorem dX9_holdsBack_3 : decode cX9_holdsBack 3 = .ok (.ifCond .eq 69, 3) := by decide +kernel
theorem dX9_holdsBack_6 : decode cX9_holdsBack 6 = .ok (.iconst 0, 1) := by decide +kernel
theorem dX9_holdsBack_7 : decode cX9_holdsBack 7 = .ok (.istore_n 2, 1) := by decide +kernel
theorem dX9_holdsBack_8 : decode cX9_holdsBack 8 = .ok (.iconst 0, 1) := by decide +kernel
theorem dX9_holdsBack_9 : decode cX9_holdsBack 9 = .ok (.istore_n 3, 1) := by decide +kernel
theorem dX9_holdsBack_10 : decode cX9_holdsBack 10 = .ok (.iload_n 3, 1) := by decide +kernel
theorem dX9_holdsBack_11 : decode cX9_holdsBack 11 = .ok (.bipush 36, 2) := by decide +kernel
theorem dX9_holdsBack_13 : decode cX9_holdsBack 13 = .ok (.if_icmp .ge 56, 3) := by decide +kernel
theorem dX9_holdsBack_16 : decode cX9_holdsBack 16 = .ok (.aload_n 0, 1) := by decide +kernel
theorem dX9_holdsBack_17 : decode cX9_holdsBack 17 = .ok (.getfield 38, 3) := by decide +kernel
theorem dX9_holdsBack_20 : decode cX9_holdsBack 20 = .ok (.iload_n 3, 1) := by decide +kernel
theorem dX9_holdsBack_21 : decode cX9_holdsBack 21 = .ok (.iaload, 1) := by decide +kernel
theorem dX9_holdsBack_22 : decode cX9_holdsBack 22 = .ok (.iconst (-1), 1) := by decide +kernel
theorem dX9_holdsBack_23 : decode cX9_holdsBack 23 = .ok (.if_icmp .eq 40, 3) := by decide +kernel
theorem dX9_holdsBack_26 : decode cX9_holdsBack 26 = .ok (.aload_n 1, 1) := by decide +kernel
theorem dX9_holdsBack_27 : decode cX9_holdsBack 27 = .ok (.aload_n 0, 1) := by decide +kernel
theorem dX9_holdsBack_28 : decode cX9_holdsBack 28 = .ok (.getfield 38, 3) := by decide +kernel
theorem dX9_holdsBack_31 : decode cX9_holdsBack 31 = .ok (.iload_n 3, 1) := by decide +kernel
theorem dX9_holdsBack_32 : decode cX9_holdsBack 32 = .ok (.iaload, 1) := by decide +kernel
theorem dX9_holdsBack_33 : decode cX9_holdsBack 33 = .ok (.invokestatic 78, 3) := by decide +kernel
theorem dX9_holdsBack_36 : decode cX9_holdsBack 36 = .ok (.ifCond .eq 27, 3) := by decide +kernel
theorem dX9_holdsBack_39 : decode cX9_holdsBack 39 = .ok (.aload_n 0, 1) := by decide +kernel
theorem dX9_holdsBack_40 : decode cX9_holdsBack 40 = .ok (.getfield 38, 3) := by decide +kernel
theorem dX9_holdsBack_43 : decode cX9_holdsBack 43 = .ok (.aload_n 0, 1) := by decide +kernel
theorem dX9_holdsBack_44 : decode cX9_holdsBack 44 = .ok (.getfield 38, 3) := by decide +kernel
theorem dX9_holdsBack_47 : decode cX9_holdsBack 47 = .ok (.iload_n 3, 1) := by decide +kernel
theorem dX9_holdsBack_48 : decode cX9_holdsBack 48 = .ok (.iaload, 1) := by decide +kernel
theorem dX9_holdsBack_49 : decode cX9_holdsBack 49 = .ok (.iaload, 1) := by decide +kernel
theorem dX9_holdsBack_50 : decode cX9_holdsBack 50 = .ok (.iconst (-1), 1) := by decide +kernel
theorem dX9_holdsBack_51 : decode cX9_holdsBack 51 = .ok (.if_icmp .ne 12, 3) := by decide +kernel
theorem dX9_holdsBack_54 : decode cX9_holdsBack 54 = .ok (.aload_n 0, 1) := by decide +kernel
theorem dX9_holdsBack_55 : decode cX9_holdsBack 55 = .ok (.getfield 38, 3) := by decide +kernel
theorem dX9_holdsBack_58 : decode cX9_holdsBack 58 = .ok (.iload_n 3, 1) := by decide +kernel
theorem dX9_holdsBack_59 : decode cX9_holdsBack 59 = .ok (.iconst (-1), 1) := by decide +kernel
theorem dX9_holdsBack_60 : decode cX9_holdsBack 60 = .ok (.iastore, 1) := by decide +kernel
theorem dX9_holdsBack_61 : decode cX9_holdsBack 61 = .ok (.iconst 1, 1) := by decide +kernel
theorem dX9_holdsBack_62 : decode cX9_holdsBack 62 = .ok (.istore_n 2, 1) := by decide +kernel
theorem dX9_holdsBack_63 : decode cX9_holdsBack 63 = .ok (.iinc 3 1, 3) := by decide +kernel
theorem dX9_holdsBack_66 : decode cX9_holdsBack 66 = .ok (.goto (-56), 3) := by decide +kernel
theorem dX9_holdsBack_69 : decode cX9_holdsBack 69 = .ok (.goto (-67), 3) := by decide +kernel
theorem dX9_holdsBack_72 : decode cX9_holdsBack 72 = .ok (.return_, 1) := by decide +kernel
set_option maxRecDepth 20000 in
theorem ggX9_belts_X9_findsTargets : GoodIn wsX9_belts wsX9_findsTargets := goodIn_r _ [8, 1, 2, 9, 10, 7, 11, 12, 13, 14, 15, 16, 17, 18, 19, 20, 21, 22, 23, 24, 32, 33, 34, 35, 36, 37, 38, 39, 40, 41, 42, 43, 44, 45, 46, 47, 48, 49, 50] (by decide +kernel) (by decide +kernel)
set_option maxRecDepth 20000 in
theorem gX9_belts_X9_findsTargets : GoodIn wsX9_belts (wsV RX9 117 RX9 yX9_findsTargets wsX9_findsTargets) := goodIn_app (goodIn_of _ (by decide +kernel)) ggX9_belts_X9_findsTargets
set_option maxRecDepth 20000 in
theorem ggX9_belts_X9_holdsBack : GoodIn wsX9_belts wsX9_holdsBack := goodIn_r _ [28, 2, 9, 10, 7, 11, 12, 13, 14, 15, 16, 17, 32, 33, 34, 35, 36, 37, 38, 39, 40, 41, 42, 43, 44, 45, 46, 47, 48, 49, 50] (by decide +kernel) (by decide +kernel)
set_option maxRecDepth 20000 in
theorem gX9_belts_X9_holdsBack : GoodIn wsX9_belts (wsV RX9 120 RX9 yX9_holdsBack wsX9_holdsBack) := goodIn_app (goodIn_of _ (by decide +kernel)) ggX9_belts_X9_holdsBack
set_option maxRecDepth 20000 in
theorem ggX9_belts_X9_of : GoodIn wsX9_belts wsX9_of := goodIn_r _ [17] (by decide +kernel) (by decide +kernel)
set_option maxRecDepth 20000 in
theorem gX9_belts_X9_of : GoodIn wsX9_belts (va_wsS RX9 64 yX9_of wsX9_of) := goodIn_app (goodIn_of _ (by decide +kernel)) ggX9_belts_X9_of
set_option maxRecDepth 20000 in
theorem ggX9_belts_X9_puts : GoodIn wsX9_belts wsX9_puts := goodIn_r _ [31] (by decide +kernel) (by decide +kernel)
set_option maxRecDepth 20000 in
theorem gX9_belts_X9_puts : GoodIn wsX9_belts (va_wsS RX9 92 yX9_puts wsX9_puts) := goodIn_app (goodIn_of _ (by decide +kernel)) ggX9_belts_X9_puts
theorem dX9_belts_0 : decode cX9_belts 0 = .ok (.aload_n 0, 1) := by decide +kernel
theorem dX9_belts_1 : decode cX9_belts 1 = .ok (.aload_n 1, 1) := by decide +kernel
theorem dX9_belts_2 : decode cX9_belts 2 = .ok (.invokevirtual 117, 3) := by decide +kernel
theorem dX9_belts_5 : decode cX9_belts 5 = .ok (.aload_n 0, 1) := by decide +kernel
theorem dX9_belts_6 : decode cX9_belts 6 = .ok (.aload_n 1, 1) := by decide +kernel
theorem dX9_belts_7 : decode cX9_belts 7 = .ok (.invokevirtual 120, 3) := by decide +kernel
theorem dX9_belts_10 : decode cX9_belts 10 = .ok (.iconst 0, 1) := by decide +kernel
theorem dX9_belts_11 : decode cX9_belts 11 = .ok (.istore_n 2, 1) := by decide +kernel
theorem dX9_belts_12 : decode cX9_belts 12 = .ok (.iload_n 2, 1) := by decide +kernel
theorem dX9_belts_13 : decode cX9_belts 13 = .ok (.bipush 36, 2) := by decide +kernel
theorem dX9_belts_15 : decode cX9_belts 15 = .ok (.if_icmp .ge 21, 3) := by decide +kernel
theorem dX9_belts_18 : decode cX9_belts 18 = .ok (.aload_n 0, 1) := by decide +kernel
theorem dX9_belts_19 : decode cX9_belts 19 = .ok (.getfield 41, 3) := by decide +kernel
theorem dX9_belts_22 : decode cX9_belts 22 = .ok (.iload_n 2, 1) := by decide +kernel
theorem dX9_belts_23 : decode cX9_belts 23 = .ok (.aload_n 1, 1) := by decide +kernel
theorem dX9_belts_24 : decode cX9_belts 24 = .ok (.bipush 36, 2) := by decide +kernel
theorem dX9_belts_26 : decode cX9_belts 26 = .ok (.iload_n 2, 1) := by decide +kernel
theorem dX9_belts_27 : decode cX9_belts 27 = .ok (.iadd, 1) := by decide +kernel
theorem dX9_belts_28 : decode cX9_belts 28 = .ok (.iaload, 1) := by decide +kernel
theorem dX9_belts_29 : decode cX9_belts 29 = .ok (.iastore, 1) := by decide +kernel
theorem dX9_belts_30 : decode cX9_belts 30 = .ok (.iinc 2 1, 3) := by decide +kernel
theorem dX9_belts_33 : decode cX9_belts 33 = .ok (.goto (-21), 3) := by decide +kernel
theorem dX9_belts_36 : decode cX9_belts 36 = .ok (.iconst 0, 1) := by decide +kernel
theorem dX9_belts_37 : decode cX9_belts 37 = .ok (.istore_n 2, 1) := by decide +kernel
theorem dX9_belts_38 : decode cX9_belts 38 = .ok (.iload_n 2, 1) := by decide +kernel
theorem dX9_belts_39 : decode cX9_belts 39 = .ok (.bipush 36, 2) := by decide +kernel
theorem dX9_belts_41 : decode cX9_belts 41 = .ok (.if_icmp .ge 36, 3) := by decide +kernel
theorem dX9_belts_44 : decode cX9_belts 44 = .ok (.aload_n 0, 1) := by decide +kernel
theorem dX9_belts_45 : decode cX9_belts 45 = .ok (.getfield 38, 3) := by decide +kernel
theorem dX9_belts_48 : decode cX9_belts 48 = .ok (.iload_n 2, 1) := by decide +kernel
theorem dX9_belts_49 : decode cX9_belts 49 = .ok (.iaload, 1) := by decide +kernel
theorem dX9_belts_50 : decode cX9_belts 50 = .ok (.iconst (-1), 1) := by decide +kernel
theorem dX9_belts_51 : decode cX9_belts 51 = .ok (.if_icmp .eq 20, 3) := by decide +kernel
theorem dX9_belts_54 : decode cX9_belts 54 = .ok (.aload_n 0, 1) := by decide +kernel
theorem dX9_belts_55 : decode cX9_belts 55 = .ok (.getfield 41, 3) := by decide +kernel
theorem dX9_belts_58 : decode cX9_belts 58 = .ok (.iload_n 2, 1) := by decide +kernel
theorem dX9_belts_59 : decode cX9_belts 59 = .ok (.iaload, 1) := by decide +kernel
theorem dX9_belts_60 : decode cX9_belts 60 = .ok (.iconst 1, 1) := by decide +kernel
theorem dX9_belts_61 : decode cX9_belts 61 = .ok (.if_icmp .ne 10, 3) := by decide +kernel
theorem dX9_belts_64 : decode cX9_belts 64 = .ok (.aload_n 1, 1) := by decide +kernel
theorem dX9_belts_65 : decode cX9_belts 65 = .ok (.bipush 36, 2) := by decide +kernel
theorem dX9_belts_67 : decode cX9_belts 67 = .ok (.iload_n 2, 1) := by decide +kernel
theorem dX9_belts_68 : decode cX9_belts 68 = .ok (.iadd, 1) := by decide +kernel
theorem dX9_belts_69 : decode cX9_belts 69 = .ok (.iconst 0, 1) := by decide +kernel
theorem dX9_belts_70 : decode cX9_belts 70 = .ok (.iastore, 1) := by decide +kernel
theorem dX9_belts_71 : decode cX9_belts 71 = .ok (.iinc 2 1, 3) := by decide +kernel
theorem dX9_belts_74 : decode cX9_belts 74 = .ok (.goto (-36), 3) := by decide +kernel
theorem dX9_belts_77 : decode cX9_belts 77 = .ok (.iconst 0, 1) := by decide +kernel
theorem dX9_belts_78 : decode cX9_belts 78 = .ok (.istore_n 2, 1) := by decide +kernel
theorem dX9_belts_79 : decode cX9_belts 79 = .ok (.iload_n 2, 1) := by decide +kernel
theorem dX9_belts_80 : decode cX9_belts 80 = .ok (.bipush 36, 2) := by decide +kernel
theorem dX9_belts_82 : decode cX9_belts 82 = .ok (.if_icmp .ge 41, 3) := by decide +kernel
theorem dX9_belts_85 : decode cX9_belts 85 = .ok (.aload_n 0, 1) := by decide +kernel
theorem dX9_belts_86 : decode cX9_belts 86 = .ok (.getfield 38, 3) := by decide +kernel
theorem dX9_belts_89 : decode cX9_belts 89 = .ok (.iload_n 2, 1) := by decide +kernel
theorem dX9_belts_90 : decode cX9_belts 90 = .ok (.iaload, 1) := by decide +kernel
theorem dX9_belts_91 : decode cX9_belts 91 = .ok (.iconst (-1), 1) := by decide +kernel
theorem dX9_belts_92 : decode cX9_belts 92 = .ok (.if_icmp .eq 25, 3) := by decide +kernel
theorem dX9_belts_95 : decode cX9_belts 95 = .ok (.aload_n 0, 1) := by decide +kernel
theorem dX9_belts_96 : decode cX9_belts 96 = .ok (.getfield 41, 3) := by decide +kernel
theorem dX9_belts_99 : decode cX9_belts 99 = .ok (.iload_n 2, 1) := by decide +kernel
theorem dX9_belts_100 : decode cX9_belts 100 = .ok (.iaload, 1) := by decide +kernel
theorem dX9_belts_101 : decode cX9_belts 101 = .ok (.iconst 1, 1) := by decide +kernel
theorem dX9_belts_102 : decode cX9_belts 102 = .ok (.if_icmp .ne 15, 3) := by decide +kernel
theorem dX9_belts_105 : decode cX9_belts 105 = .ok (.aload_n 1, 1) := by decide +kernel
theorem dX9_belts_106 : decode cX9_belts 106 = .ok (.bipush 36, 2) := by decide +kernel
theorem dX9_belts_108 : decode cX9_belts 108 = .ok (.aload_n 0, 1) := by decide +kernel
theorem dX9_belts_109 : decode cX9_belts 109 = .ok (.getfield 38, 3) := by decide +kernel
theorem dX9_belts_112 : decode cX9_belts 112 = .ok (.iload_n 2, 1) := by decide +kernel
theorem dX9_belts_113 : decode cX9_belts 113 = .ok (.iaload, 1) := by decide +kernel
theorem dX9_belts_114 : decode cX9_belts 114 = .ok (.iadd, 1) := by decide +kernel
theorem dX9_belts_115 : decode cX9_belts 115 = .ok (.iconst 1, 1) := by decide +kernel
theorem dX9_belts_116 : decode cX9_belts 116 = .ok (.iastore, 1) := by decide +kernel
theorem dX9_belts_117 : decode cX9_belts 117 = .ok (.iinc 2 1, 3) := by decide +kernel
theorem dX9_belts_120 : decode cX9_belts 120 = .ok (.goto (-41), 3) := by decide +kernel
theorem dX9_belts_123 : decode cX9_belts 123 = .ok (.iconst 0, 1) := by decide +kernel
theorem dX9_belts_124 : decode cX9_belts 124 = .ok (.istore_n 2, 1) := by decide +kernel
theorem dX9_belts_125 : decode cX9_belts 125 = .ok (.iload_n 2, 1) := by decide +kernel
theorem dX9_belts_126 : decode cX9_belts 126 = .ok (.iconst 2, 1) := by decide +kernel
theorem dX9_belts_127 : decode cX9_belts 127 = .ok (.if_icmp .ge 42, 3) := by decide +kernel
theorem dX9_belts_130 : decode cX9_belts 130 = .ok (.aload_n 0, 1) := by decide +kernel
theorem dX9_belts_131 : decode cX9_belts 131 = .ok (.getfield 38, 3) := by decide +kernel
theorem dX9_belts_134 : decode cX9_belts 134 = .ok (.aload_n 1, 1) := by decide +kernel
theorem dX9_belts_135 : decode cX9_belts 135 = .ok (.iload_n 2, 1) := by decide +kernel
theorem dX9_belts_136 : decode cX9_belts 136 = .ok (.iconst 0, 1) := by decide +kernel
theorem dX9_belts_137 : decode cX9_belts 137 = .ok (.invokestatic 64, 3) := by decide +kernel
theorem dX9_belts_140 : decode cX9_belts 140 = .ok (.iaload, 1) := by decide +kernel
theorem dX9_belts_141 : decode cX9_belts 141 = .ok (.istore_n 3, 1) := by decide +kernel
theorem dX9_belts_142 : decode cX9_belts 142 = .ok (.aload_n 0, 1) := by decide +kernel
theorem dX9_belts_143 : decode cX9_belts 143 = .ok (.getfield 32, 3) := by decide +kernel
theorem dX9_belts_146 : decode cX9_belts 146 = .ok (.iload_n 2, 1) := by decide +kernel
theorem dX9_belts_147 : decode cX9_belts 147 = .ok (.iload_n 3, 1) := by decide +kernel
theorem dX9_belts_148 : decode cX9_belts 148 = .ok (.iconst (-1), 1) := by decide +kernel
theorem dX9_belts_149 : decode cX9_belts 149 = .ok (.if_icmp .ne 12, 3) := by decide +kernel
theorem dX9_belts_152 : decode cX9_belts 152 = .ok (.aload_n 1, 1) := by decide +kernel
theorem dX9_belts_153 : decode cX9_belts 153 = .ok (.iload_n 2, 1) := by decide +kernel
theorem dX9_belts_154 : decode cX9_belts 154 = .ok (.iconst 0, 1) := by decide +kernel
theorem dX9_belts_155 : decode cX9_belts 155 = .ok (.invokestatic 64, 3) := by decide +kernel
theorem dX9_belts_158 : decode cX9_belts 158 = .ok (.goto 4, 3) := by decide +kernel
theorem dX9_belts_161 : decode cX9_belts 161 = .ok (.iload_n 3, 1) := by decide +kernel
theorem dX9_belts_162 : decode cX9_belts 162 = .ok (.iastore, 1) := by decide +kernel
theorem dX9_belts_163 : decode cX9_belts 163 = .ok (.iinc 2 1, 3) := by decide +kernel
theorem dX9_belts_166 : decode cX9_belts 166 = .ok (.goto (-41), 3) := by decide +kernel
theorem dX9_belts_169 : decode cX9_belts 169 = .ok (.aload_n 1, 1) := by decide +kernel
theorem dX9_belts_170 : decode cX9_belts 170 = .ok (.iconst 0, 1) := by decide +kernel
theorem dX9_belts_171 : decode cX9_belts 171 = .ok (.iconst 0, 1) := by decide +kernel
theorem dX9_belts_172 : decode cX9_belts 172 = .ok (.aload_n 0, 1) := by decide +kernel
theorem dX9_belts_173 : decode cX9_belts 173 = .ok (.getfield 32, 3) := by decide +kernel
theorem dX9_belts_176 : decode cX9_belts 176 = .ok (.iconst 0, 1) := by decide +kernel
theorem dX9_belts_177 : decode cX9_belts 177 = .ok (.iaload, 1) := by decide +kernel
theorem dX9_belts_178 : decode cX9_belts 178 = .ok (.invokestatic 92, 3) := by decide +kernel
theorem dX9_belts_181 : decode cX9_belts 181 = .ok (.aload_n 1, 1) := by decide +kernel
theorem dX9_belts_182 : decode cX9_belts 182 = .ok (.iconst 1, 1) := by decide +kernel
theorem dX9_belts_183 : decode cX9_belts 183 = .ok (.iconst 0, 1) := by decide +kernel
theorem dX9_belts_184 : decode cX9_belts 184 = .ok (.aload_n 0, 1) := by decide +kernel
theorem dX9_belts_185 : decode cX9_belts 185 = .ok (.getfield 32, 3) := by decide +kernel
theorem dX9_belts_188 : decode cX9_belts 188 = .ok (.iconst 1, 1) := by decide +kernel
theorem dX9_belts_189 : decode cX9_belts 189 = .ok (.iaload, 1) := by decide +kernel
theorem dX9_belts_190 : decode cX9_belts 190 = .ok (.invokestatic 92, 3) := by decide +kernel
theorem dX9_belts_193 : decode cX9_belts 193 = .ok (.return_, 1) := by decide +kernel
set_option maxRecDepth 20000 in
theorem ggX9_falls_X9_hasThing : GoodIn wsX9_falls wsX9_hasThing := goodIn_r _ [4, 5, 6, 3, 7, 8, 9, 10] (by decide +kernel) (by decide +kernel)
set_option maxRecDepth 20000 in
theorem gX9_falls_X9_hasThing : GoodIn wsX9_falls (va_wsS RX9 78 yX9_hasThing wsX9_hasThing) := goodIn_app (goodIn_of _ (by decide +kernel)) ggX9_falls_X9_hasThing
set_option maxRecDepth 20000 in
theorem ggX9_falls_X9_of : GoodIn wsX9_falls wsX9_of := goodIn_r _ [10] (by decide +kernel) (by decide +kernel)
set_option maxRecDepth 20000 in
theorem gX9_falls_X9_of : GoodIn wsX9_falls (va_wsS RX9 64 yX9_of wsX9_of) := goodIn_app (goodIn_of _ (by decide +kernel)) ggX9_falls_X9_of
set_option maxRecDepth 20000 in
theorem ggX9_falls_X9_puts : GoodIn wsX9_falls wsX9_puts := goodIn_r _ [13] (by decide +kernel) (by decide +kernel)
set_option maxRecDepth 20000 in
theorem gX9_falls_X9_puts : GoodIn wsX9_falls (va_wsS RX9 92 yX9_puts wsX9_puts) := goodIn_app (goodIn_of _ (by decide +kernel)) ggX9_falls_X9_puts
set_option maxRecDepth 20000 in
theorem ggX9_falls_X9_adds : GoodIn wsX9_falls wsX9_adds := goodIn_r _ [16] (by decide +kernel) (by decide +kernel)
set_option maxRecDepth 20000 in
theorem gX9_falls_X9_adds : GoodIn wsX9_falls (va_wsS RX9 100 yX9_adds wsX9_adds) := goodIn_app (goodIn_of _ (by decide +kernel)) ggX9_falls_X9_adds
theorem dX9_falls_0 : decode cX9_falls 0 = .ok (.iconst 0, 1) := by decide +kernel
theorem dX9_falls_1 : decode cX9_falls 1 = .ok (.istore_n 2, 1) := by decide +kernel
theorem dX9_falls_2 : decode cX9_falls 2 = .ok (.iload_n 2, 1) := by decide +kernel
theorem dX9_falls_3 : decode cX9_falls 3 = .ok (.bipush 36, 2) := by decide +kernel
theorem dX9_falls_5 : decode cX9_falls 5 = .ok (.if_icmp .ge 23, 3) := by decide +kernel
theorem dX9_falls_8 : decode cX9_falls 8 = .ok (.aload_n 0, 1) := by decide +kernel
theorem dX9_falls_9 : decode cX9_falls 9 = .ok (.iload_n 2, 1) := by decide +kernel
theorem dX9_falls_10 : decode cX9_falls 10 = .ok (.iaload, 1) := by decide +kernel
theorem dX9_falls_11 : decode cX9_falls 11 = .ok (.ifCond .gt 11, 3) := by decide +kernel
theorem dX9_falls_14 : decode cX9_falls 14 = .ok (.aload_n 0, 1) := by decide +kernel
theorem dX9_falls_15 : decode cX9_falls 15 = .ok (.iload_n 2, 1) := by decide +kernel
theorem dX9_falls_16 : decode cX9_falls 16 = .ok (.invokestatic 78, 3) := by decide +kernel
theorem dX9_falls_19 : decode cX9_falls 19 = .ok (.ifCond .eq 9, 3) := by decide +kernel
theorem dX9_falls_22 : decode cX9_falls 22 = .ok (.iinc 2 1, 3) := by decide +kernel
theorem dX9_falls_25 : decode cX9_falls 25 = .ok (.goto (-23), 3) := by decide +kernel
theorem dX9_falls_28 : decode cX9_falls 28 = .ok (.aload_n 0, 1) := by decide +kernel
theorem dX9_falls_29 : decode cX9_falls 29 = .ok (.iload_n 1, 1) := by decide +kernel
theorem dX9_falls_30 : decode cX9_falls 30 = .ok (.iconst 0, 1) := by decide +kernel
theorem dX9_falls_31 : decode cX9_falls 31 = .ok (.iload_n 2, 1) := by decide +kernel
theorem dX9_falls_32 : decode cX9_falls 32 = .ok (.bipush 36, 2) := by decide +kernel
theorem dX9_falls_34 : decode cX9_falls 34 = .ok (.if_icmp .ge 7, 3) := by decide +kernel
theorem dX9_falls_37 : decode cX9_falls 37 = .ok (.iload_n 2, 1) := by decide +kernel
theorem dX9_falls_38 : decode cX9_falls 38 = .ok (.goto 9, 3) := by decide +kernel
theorem dX9_falls_41 : decode cX9_falls 41 = .ok (.aload_n 0, 1) := by decide +kernel
theorem dX9_falls_42 : decode cX9_falls 42 = .ok (.iload_n 1, 1) := by decide +kernel
theorem dX9_falls_43 : decode cX9_falls 43 = .ok (.iconst 0, 1) := by decide +kernel
theorem dX9_falls_44 : decode cX9_falls 44 = .ok (.invokestatic 64, 3) := by decide +kernel
theorem dX9_falls_47 : decode cX9_falls 47 = .ok (.invokestatic 92, 3) := by decide +kernel
theorem dX9_falls_50 : decode cX9_falls 50 = .ok (.aload_n 0, 1) := by decide +kernel
theorem dX9_falls_51 : decode cX9_falls 51 = .ok (.iload_n 1, 1) := by decide +kernel
theorem dX9_falls_52 : decode cX9_falls 52 = .ok (.iconst 1, 1) := by decide +kernel
theorem dX9_falls_53 : decode cX9_falls 53 = .ok (.iconst 0, 1) := by decide +kernel
theorem dX9_falls_54 : decode cX9_falls 54 = .ok (.invokestatic 92, 3) := by decide +kernel
theorem dX9_falls_57 : decode cX9_falls 57 = .ok (.aload_n 0, 1) := by decide +kernel
theorem dX9_falls_58 : decode cX9_falls 58 = .ok (.iload_n 1, 1) := by decide +kernel
theorem dX9_falls_59 : decode cX9_falls 59 = .ok (.bipush 6, 2) := by decide +kernel
theorem dX9_falls_61 : decode cX9_falls 61 = .ok (.iconst 1, 1) := by decide +kernel
theorem dX9_falls_62 : decode cX9_falls 62 = .ok (.invokestatic 100, 3) := by decide +kernel
theorem dX9_falls_65 : decode cX9_falls 65 = .ok (.return_, 1) := by decide +kernel
set_option maxRecDepth 20000 in
theorem ggX9_pits_X9_of : GoodIn wsX9_pits wsX9_of := goodIn_r _ [4] (by decide +kernel) (by decide +kernel)
set_option maxRecDepth 20000 in
theorem gX9_pits_X9_of : GoodIn wsX9_pits (va_wsS RX9 64 yX9_of wsX9_of) := goodIn_app (goodIn_of _ (by decide +kernel)) ggX9_pits_X9_of
set_option maxRecDepth 20000 in
theorem ggX9_pits_X9_falls : GoodIn wsX9_pits wsX9_falls := goodIn_r _ [7, 8, 9, 3, 10, 11, 12, 13, 1, 2, 4, 14, 15, 16, 17, 18, 19] (by decide +kernel) (by decide +kernel)
set_option maxRecDepth 20000 in
theorem gX9_pits_X9_falls : GoodIn wsX9_pits (va_wsS RX9 123 yX9_falls wsX9_falls) := goodIn_app (goodIn_of _ (by decide +kernel)) ggX9_pits_X9_falls
theorem dX9_pits_0 : decode cX9_pits 0 = .ok (.iconst 0, 1) := by decide +kernel
theorem dX9_pits_1 : decode cX9_pits 1 = .ok (.istore_n 1, 1) := by decide +kernel
theorem dX9_pits_2 : decode cX9_pits 2 = .ok (.iload_n 1, 1) := by decide +kernel
theorem dX9_pits_3 : decode cX9_pits 3 = .ok (.bipush 36, 2) := by decide +kernel
theorem dX9_pits_5 : decode cX9_pits 5 = .ok (.if_icmp .ge 41, 3) := by decide +kernel
theorem dX9_pits_8 : decode cX9_pits 8 = .ok (.aload_n 0, 1) := by decide +kernel
theorem dX9_pits_9 : decode cX9_pits 9 = .ok (.iload_n 1, 1) := by decide +kernel
theorem dX9_pits_10 : decode cX9_pits 10 = .ok (.iaload, 1) := by decide +kernel
theorem dX9_pits_11 : decode cX9_pits 11 = .ok (.iconst 2, 1) := by decide +kernel
theorem dX9_pits_12 : decode cX9_pits 12 = .ok (.if_icmp .ne 28, 3) := by decide +kernel
theorem dX9_pits_15 : decode cX9_pits 15 = .ok (.aload_n 0, 1) := by decide +kernel
theorem dX9_pits_16 : decode cX9_pits 16 = .ok (.bipush 36, 2) := by decide +kernel
theorem dX9_pits_18 : decode cX9_pits 18 = .ok (.iload_n 1, 1) := by decide +kernel
theorem dX9_pits_19 : decode cX9_pits 19 = .ok (.iadd, 1) := by decide +kernel
theorem dX9_pits_20 : decode cX9_pits 20 = .ok (.iaload, 1) := by decide +kernel
theorem dX9_pits_21 : decode cX9_pits 21 = .ok (.iconst 1, 1) := by decide +kernel
theorem dX9_pits_22 : decode cX9_pits 22 = .ok (.if_icmp .ne 18, 3) := by decide +kernel
theorem dX9_pits_25 : decode cX9_pits 25 = .ok (.aload_n 0, 1) := by decide +kernel
theorem dX9_pits_26 : decode cX9_pits 26 = .ok (.bipush 36, 2) := by decide +kernel
theorem dX9_pits_28 : decode cX9_pits 28 = .ok (.iload_n 1, 1) := by decide +kernel
theorem dX9_pits_29 : decode cX9_pits 29 = .ok (.iadd, 1) := by decide +kernel
theorem dX9_pits_30 : decode cX9_pits 30 = .ok (.iconst 0, 1) := by decide +kernel
theorem dX9_pits_31 : decode cX9_pits 31 = .ok (.iastore, 1) := by decide +kernel
theorem dX9_pits_32 : decode cX9_pits 32 = .ok (.aload_n 0, 1) := by decide +kernel
theorem dX9_pits_33 : decode cX9_pits 33 = .ok (.bipush 115, 2) := by decide +kernel
theorem dX9_pits_35 : decode cX9_pits 35 = .ok (.dup2, 1) := by decide +kernel
theorem dX9_pits_36 : decode cX9_pits 36 = .ok (.iaload, 1) := by decide +kernel
theorem dX9_pits_37 : decode cX9_pits 37 = .ok (.iconst 1, 1) := by decide +kernel
theorem dX9_pits_38 : decode cX9_pits 38 = .ok (.iadd, 1) := by decide +kernel
theorem dX9_pits_39 : decode cX9_pits 39 = .ok (.iastore, 1) := by decide +kernel
theorem dX9_pits_40 : decode cX9_pits 40 = .ok (.iinc 1 1, 3) := by decide +kernel
theorem dX9_pits_43 : decode cX9_pits 43 = .ok (.goto (-41), 3) := by decide +kernel
theorem dX9_pits_46 : decode cX9_pits 46 = .ok (.iconst 0, 1) := by decide +kernel
theorem dX9_pits_47 : decode cX9_pits 47 = .ok (.istore_n 1, 1) := by decide +kernel
theorem dX9_pits_48 : decode cX9_pits 48 = .ok (.iload_n 1, 1) := by decide +kernel
theorem dX9_pits_49 : decode cX9_pits 49 = .ok (.iconst 2, 1) := by decide +kernel
theorem dX9_pits_50 : decode cX9_pits 50 = .ok (.if_icmp .ge 26, 3) := by decide +kernel
theorem dX9_pits_53 : decode cX9_pits 53 = .ok (.aload_n 0, 1) := by decide +kernel
theorem dX9_pits_54 : decode cX9_pits 54 = .ok (.aload_n 0, 1) := by decide +kernel
theorem dX9_pits_55 : decode cX9_pits 55 = .ok (.iload_n 1, 1) := by decide +kernel
theorem dX9_pits_56 : decode cX9_pits 56 = .ok (.iconst 0, 1) := by decide +kernel
theorem dX9_pits_57 : decode cX9_pits 57 = .ok (.invokestatic 64, 3) := by decide +kernel
theorem dX9_pits_60 : decode cX9_pits 60 = .ok (.iaload, 1) := by decide +kernel
theorem dX9_pits_61 : decode cX9_pits 61 = .ok (.iconst 2, 1) := by decide +kernel
theorem dX9_pits_62 : decode cX9_pits 62 = .ok (.if_icmp .ne 8, 3) := by decide +kernel
theorem dX9_pits_65 : decode cX9_pits 65 = .ok (.aload_n 0, 1) := by decide +kernel
theorem dX9_pits_66 : decode cX9_pits 66 = .ok (.iload_n 1, 1) := by decide +kernel
theorem dX9_pits_67 : decode cX9_pits 67 = .ok (.invokestatic 123, 3) := by decide +kernel
theorem dX9_pits_70 : decode cX9_pits 70 = .ok (.iinc 1 1, 3) := by decide +kernel
theorem dX9_pits_73 : decode cX9_pits 73 = .ok (.goto (-25), 3) := by decide +kernel
theorem dX9_pits_76 : decode cX9_pits 76 = .ok (.return_, 1) := by decide +kernel
set_option maxRecDepth 20000 in
theorem ggX9_passes_X9_of : GoodIn wsX9_passes wsX9_of := goodIn_r _ [4] (by decide +kernel) (by decide +kernel)
set_option maxRecDepth 20000 in
theorem gX9_passes_X9_of : GoodIn wsX9_passes (va_wsS RX9 64 yX9_of wsX9_of) := goodIn_app (goodIn_of _ (by decide +kernel)) ggX9_passes_X9_of
set_option maxRecDepth 20000 in
theorem ggX9_passes_X9_adds : GoodIn wsX9_passes wsX9_adds := goodIn_r _ [7] (by decide +kernel) (by decide +kernel)
set_option maxRecDepth 20000 in
theorem gX9_passes_X9_adds : GoodIn wsX9_passes (va_wsS RX9 100 yX9_adds wsX9_adds) := goodIn_app (goodIn_of _ (by decide +kernel)) ggX9_passes_X9_adds
theorem dX9_passes_0 : decode cX9_passes 0 = .ok (.iconst 0, 1) := by decide +kernel
theorem dX9_passes_1 : decode cX9_passes 1 = .ok (.istore_n 1, 1) := by decide +kernel
theorem dX9_passes_2 : decode cX9_passes 2 = .ok (.iconst 0, 1) := by decide +kernel
theorem dX9_passes_3 : decode cX9_passes 3 = .ok (.istore_n 2, 1) := by decide +kernel
theorem dX9_passes_4 : decode cX9_passes 4 = .ok (.iload_n 2, 1) := by decide +kernel
theorem dX9_passes_5 : decode cX9_passes 5 = .ok (.iconst 2, 1) := by decide +kernel
theorem dX9_passes_6 : decode cX9_passes 6 = .ok (.if_icmp .ge 49, 3) := by decide +kernel
theorem dX9_passes_9 : decode cX9_passes 9 = .ok (.aload_n 0, 1) := by decide +kernel
theorem dX9_passes_10 : decode cX9_passes 10 = .ok (.iload_n 2, 1) := by decide +kernel
theorem dX9_passes_11 : decode cX9_passes 11 = .ok (.iconst 2, 1) := by decide +kernel
theorem dX9_passes_12 : decode cX9_passes 12 = .ok (.invokestatic 64, 3) := by decide +kernel
theorem dX9_passes_15 : decode cX9_passes 15 = .ok (.istore_n 3, 1) := by decide +kernel
theorem dX9_passes_16 : decode cX9_passes 16 = .ok (.iload_n 3, 1) := by decide +kernel
theorem dX9_passes_17 : decode cX9_passes 17 = .ok (.aload_n 0, 1) := by decide +kernel
theorem dX9_passes_18 : decode cX9_passes 18 = .ok (.bipush 110, 2) := by decide +kernel
theorem dX9_passes_20 : decode cX9_passes 20 = .ok (.iaload, 1) := by decide +kernel
theorem dX9_passes_21 : decode cX9_passes 21 = .ok (.if_icmp .gt 28, 3) := by decide +kernel
theorem dX9_passes_24 : decode cX9_passes 24 = .ok (.aload_n 0, 1) := by decide +kernel
theorem dX9_passes_25 : decode cX9_passes 25 = .ok (.bipush 110, 2) := by decide +kernel
theorem dX9_passes_27 : decode cX9_passes 27 = .ok (.iload_n 3, 1) := by decide +kernel
theorem dX9_passes_28 : decode cX9_passes 28 = .ok (.iadd, 1) := by decide +kernel
theorem dX9_passes_29 : decode cX9_passes 29 = .ok (.iaload, 1) := by decide +kernel
theorem dX9_passes_30 : decode cX9_passes 30 = .ok (.aload_n 0, 1) := by decide +kernel
theorem dX9_passes_31 : decode cX9_passes 31 = .ok (.iload_n 2, 1) := by decide +kernel
theorem dX9_passes_32 : decode cX9_passes 32 = .ok (.iconst 0, 1) := by decide +kernel
theorem dX9_passes_33 : decode cX9_passes 33 = .ok (.invokestatic 64, 3) := by decide +kernel
theorem dX9_passes_36 : decode cX9_passes 36 = .ok (.if_icmp .ne 13, 3) := by decide +kernel
theorem dX9_passes_39 : decode cX9_passes 39 = .ok (.aload_n 0, 1) := by decide +kernel
theorem dX9_passes_40 : decode cX9_passes 40 = .ok (.iload_n 2, 1) := by decide +kernel
theorem dX9_passes_41 : decode cX9_passes 41 = .ok (.iconst 2, 1) := by decide +kernel
theorem dX9_passes_42 : decode cX9_passes 42 = .ok (.iconst 1, 1) := by decide +kernel
theorem dX9_passes_43 : decode cX9_passes 43 = .ok (.invokestatic 100, 3) := by decide +kernel
theorem dX9_passes_46 : decode cX9_passes 46 = .ok (.iinc 1 1, 3) := by decide +kernel
theorem dX9_passes_49 : decode cX9_passes 49 = .ok (.iinc 2 1, 3) := by decide +kernel
theorem dX9_passes_52 : decode cX9_passes 52 = .ok (.goto (-48), 3) := by decide +kernel
theorem dX9_passes_55 : decode cX9_passes 55 = .ok (.iload_n 1, 1) := by decide +kernel
theorem dX9_passes_56 : decode cX9_passes 56 = .ok (.ireturn, 1) := by decide +kernel
set_option maxRecDepth 20000 in
theorem ggX9_one_X9_follow : GoodIn wsX9_one wsX9_follow := goodIn_r _ [5, 6, 7, 8, 9, 10, 4, 11, 12, 13, 14, 15, 16, 17, 18, 19, 20, 21, 22, 23, 24, 25, 26, 27, 28, 29, 30, 31, 32, 33, 34, 35, 36, 37, 38, 39, 40, 41, 42, 43, 44, 45, 46, 47, 48, 49, 50, 51, 52, 53, 54, 55, 56, 80, 81, 82, 83, 84, 85, 86, 87, 88, 89, 90, 91, 92, 93, 94, 95, 96, 97, 98] (by decide +kernel) (by decide +kernel)
set_option maxRecDepth 20000 in
theorem gX9_one_X9_follow : GoodIn wsX9_one (wsV RX9 126 RX9 yX9_follow wsX9_follow) := goodIn_app (goodIn_of _ (by decide +kernel)) ggX9_one_X9_follow
set_option maxRecDepth 20000 in
theorem ggX9_one_X9_belts : GoodIn wsX9_one wsX9_belts := goodIn_r _ [60, 61, 62, 7, 63, 64, 65, 4, 66, 28, 29, 30, 31, 32, 33, 15, 16, 17, 21, 22, 23, 24, 25, 26, 27, 67, 68, 69, 70, 48, 49, 50, 80, 81, 82, 83, 84, 85, 86, 87, 88, 89, 90, 91, 92, 93, 94, 95, 96, 97, 98] (by decide +kernel) (by decide +kernel)
set_option maxRecDepth 20000 in
theorem gX9_one_X9_belts : GoodIn wsX9_one (wsV RX9 129 RX9 yX9_belts wsX9_belts) := goodIn_app (goodIn_of _ (by decide +kernel)) ggX9_one_X9_belts
set_option maxRecDepth 20000 in
theorem ggX9_one_X9_pits : GoodIn wsX9_one wsX9_pits := goodIn_r _ [73, 15, 16, 4, 17, 74, 75, 76, 28, 29, 30, 31, 32, 33, 48, 49, 50, 51, 52, 53] (by decide +kernel) (by decide +kernel)
set_option maxRecDepth 20000 in
theorem gX9_one_X9_pits : GoodIn wsX9_one (va_wsS RX9 132 yX9_pits wsX9_pits) := goodIn_app (goodIn_of _ (by decide +kernel)) ggX9_one_X9_pits
set_option maxRecDepth 20000 in
theorem ggX9_one_X9_passes : GoodIn wsX9_one wsX9_passes := goodIn_r _ [79, 15, 16, 4, 17, 51, 52, 53] (by decide +kernel) (by decide +kernel)
set_option maxRecDepth 20000 in
theorem gX9_one_X9_passes : GoodIn wsX9_one (va_wsS RX9 135 yX9_passes wsX9_passes) := goodIn_app (goodIn_of _ (by decide +kernel)) ggX9_one_X9_passes
theorem dX9_one_0 : decode cX9_one 0 = .ok (.aload_n 0, 1) := by decide +kernel
theorem dX9_one_1 : decode cX9_one 1 = .ok (.aload_n 1, 1) := by decide +kernel
theorem dX9_one_2 : decode cX9_one 2 = .ok (.invokevirtual 126, 3) := by decide +kernel
theorem dX9_one_5 : decode cX9_one 5 = .ok (.aload_n 0, 1) := by decide +kernel
theorem dX9_one_6 : decode cX9_one 6 = .ok (.aload_n 1, 1) := by decide +kernel
theorem dX9_one_7 : decode cX9_one 7 = .ok (.invokevirtual 129, 3) := by decide +kernel
theorem dX9_one_10 : decode cX9_one 10 = .ok (.aload_n 1, 1) := by decide +kernel
theorem dX9_one_11 : decode cX9_one 11 = .ok (.invokestatic 132, 3) := by decide +kernel
theorem dX9_one_14 : decode cX9_one 14 = .ok (.aload_n 1, 1) := by decide +kernel
theorem dX9_one_15 : decode cX9_one 15 = .ok (.bipush 116, 2) := by decide +kernel
theorem dX9_one_17 : decode cX9_one 17 = .ok (.dup2, 1) := by decide +kernel
theorem dX9_one_18 : decode cX9_one 18 = .ok (.iaload, 1) := by decide +kernel
theorem dX9_one_19 : decode cX9_one 19 = .ok (.iconst 1, 1) := by decide +kernel
theorem dX9_one_20 : decode cX9_one 20 = .ok (.iadd, 1) := by decide +kernel
theorem dX9_one_21 : decode cX9_one 21 = .ok (.iastore, 1) := by decide +kernel
theorem dX9_one_22 : decode cX9_one 22 = .ok (.aload_n 1, 1) := by decide +kernel
theorem dX9_one_23 : decode cX9_one 23 = .ok (.invokestatic 135, 3) := by decide +kernel
theorem dX9_one_26 : decode cX9_one 26 = .ok (.ireturn, 1) := by decide +kernel
set_option maxRecDepth 20000 in
theorem ggX9_stepOn_X9_one : GoodIn wsX9_stepOn wsX9_one := goodIn_r _ [5, 6, 7, 8, 4, 9, 10, 11, 12, 13, 14, 15, 16, 17, 18, 19, 20, 21, 22, 23, 24, 25, 26, 27, 28, 29, 30, 31, 32, 33, 34, 35, 36, 37, 38, 39, 40, 41, 42, 43, 44, 45, 46, 47, 48, 49, 50, 51, 52, 53, 54, 55, 56, 57, 58, 59, 60, 61, 62, 63, 64, 65, 66, 67, 68, 69, 70, 71, 72, 73, 74, 75, 76, 77, 78, 79, 80, 81, 82, 83, 84, 85, 86, 87, 88, 89, 90, 91, 92, 93, 94, 95, 96, 97, 98, 99, 100, 101, 102] (by decide +kernel) (by decide +kernel)
set_option maxRecDepth 20000 in
theorem gX9_stepOn_X9_one : GoodIn wsX9_stepOn (wsV RX9 139 RX9 yX9_one wsX9_one) := goodIn_app (goodIn_of _ (by decide +kernel)) ggX9_stepOn_X9_one
theorem dX9_stepOn_0 : decode cX9_stepOn 0 = .ok (.iconst 0, 1) := by decide +kernel
theorem dX9_stepOn_1 : decode cX9_stepOn 1 = .ok (.istore_n 3, 1) := by decide +kernel
theorem dX9_stepOn_2 : decode cX9_stepOn 2 = .ok (.iconst 0, 1) := by decide +kernel
theorem dX9_stepOn_3 : decode cX9_stepOn 3 = .ok (.istore 4, 2) := by decide +kernel
theorem dX9_stepOn_5 : decode cX9_stepOn 5 = .ok (.iload 4, 2) := by decide +kernel
theorem dX9_stepOn_7 : decode cX9_stepOn 7 = .ok (.iload_n 2, 1) := by decide +kernel
theorem dX9_stepOn_8 : decode cX9_stepOn 8 = .ok (.if_icmp .ge 17, 3) := by decide +kernel
theorem dX9_stepOn_11 : decode cX9_stepOn 11 = .ok (.iload_n 3, 1) := by decide +kernel
theorem dX9_stepOn_12 : decode cX9_stepOn 12 = .ok (.aload_n 0, 1) := by decide +kernel
theorem dX9_stepOn_13 : decode cX9_stepOn 13 = .ok (.aload_n 1, 1) := by decide +kernel
theorem dX9_stepOn_14 : decode cX9_stepOn 14 = .ok (.invokevirtual 139, 3) := by decide +kernel
theorem dX9_stepOn_17 : decode cX9_stepOn 17 = .ok (.iadd, 1) := by decide +kernel
theorem dX9_stepOn_18 : decode cX9_stepOn 18 = .ok (.istore_n 3, 1) := by decide +kernel
theorem dX9_stepOn_19 : decode cX9_stepOn 19 = .ok (.iinc 4 1, 3) := by decide +kernel
theorem dX9_stepOn_22 : decode cX9_stepOn 22 = .ok (.goto (-17), 3) := by decide +kernel
theorem dX9_stepOn_25 : decode cX9_stepOn 25 = .ok (.iload_n 3, 1) := by decide +kernel
theorem dX9_stepOn_26 : decode cX9_stepOn 26 = .ok (.ireturn, 1) := by decide +kernel
theorem dX9_cratesOn_0 : decode cX9_cratesOn 0 = .ok (.iconst 0, 1) := by decide +kernel
theorem dX9_cratesOn_1 : decode cX9_cratesOn 1 = .ok (.istore_n 1, 1) := by decide +kernel
theorem dX9_cratesOn_2 : decode cX9_cratesOn 2 = .ok (.iconst 0, 1) := by decide +kernel
theorem dX9_cratesOn_3 : decode cX9_cratesOn 3 = .ok (.istore_n 2, 1) := by decide +kernel
theorem dX9_cratesOn_4 : decode cX9_cratesOn 4 = .ok (.iload_n 2, 1) := by decide +kernel
theorem dX9_cratesOn_5 : decode cX9_cratesOn 5 = .ok (.bipush 36, 2) := by decide +kernel
theorem dX9_cratesOn_7 : decode cX9_cratesOn 7 = .ok (.if_icmp .ge 18, 3) := by decide +kernel
theorem dX9_cratesOn_10 : decode cX9_cratesOn 10 = .ok (.iload_n 1, 1) := by decide +kernel
theorem dX9_cratesOn_11 : decode cX9_cratesOn 11 = .ok (.aload_n 0, 1) := by decide +kernel
theorem dX9_cratesOn_12 : decode cX9_cratesOn 12 = .ok (.bipush 36, 2) := by decide +kernel
theorem dX9_cratesOn_14 : decode cX9_cratesOn 14 = .ok (.iload_n 2, 1) := by decide +kernel
theorem dX9_cratesOn_15 : decode cX9_cratesOn 15 = .ok (.iadd, 1) := by decide +kernel
theorem dX9_cratesOn_16 : decode cX9_cratesOn 16 = .ok (.iaload, 1) := by decide +kernel
theorem dX9_cratesOn_17 : decode cX9_cratesOn 17 = .ok (.iadd, 1) := by decide +kernel
theorem dX9_cratesOn_18 : decode cX9_cratesOn 18 = .ok (.istore_n 1, 1) := by decide +kernel
theorem dX9_cratesOn_19 : decode cX9_cratesOn 19 = .ok (.iinc 2 1, 3) := by decide +kernel
theorem dX9_cratesOn_22 : decode cX9_cratesOn 22 = .ok (.goto (-18), 3) := by decide +kernel
theorem dX9_cratesOn_25 : decode cX9_cratesOn 25 = .ok (.iload_n 1, 1) := by decide +kernel
theorem dX9_cratesOn_26 : decode cX9_cratesOn 26 = .ok (.ireturn, 1) := by decide +kernel
theorem dX9_hasPoint_0 : decode cX9_hasPoint 0 = .ok (.iconst 0, 1) := by decide +kernel
theorem dX9_hasPoint_1 : decode cX9_hasPoint 1 = .ok (.istore_n 2, 1) := by decide +kernel
theorem dX9_hasPoint_2 : decode cX9_hasPoint 2 = .ok (.iconst 1, 1) := by decide +kernel
theorem dX9_hasPoint_3 : decode cX9_hasPoint 3 = .ok (.istore_n 3, 1) := by decide +kernel
theorem dX9_hasPoint_4 : decode cX9_hasPoint 4 = .ok (.iload_n 3, 1) := by decide +kernel
theorem dX9_hasPoint_5 : decode cX9_hasPoint 5 = .ok (.aload_n 0, 1) := by decide +kernel
theorem dX9_hasPoint_6 : decode cX9_hasPoint 6 = .ok (.bipush 110, 2) := by decide +kernel
theorem dX9_hasPoint_8 : decode cX9_hasPoint 8 = .ok (.iaload, 1) := by decide +kernel
theorem dX9_hasPoint_9 : decode cX9_hasPoint 9 = .ok (.if_icmp .gt 29, 3) := by decide +kernel
theorem dX9_hasPoint_12 : decode cX9_hasPoint 12 = .ok (.iload_n 2, 1) := by decide +kernel
theorem dX9_hasPoint_13 : decode cX9_hasPoint 13 = .ok (.ifCond .ne 13, 3) := by decide +kernel
theorem dX9_hasPoint_16 : decode cX9_hasPoint 16 = .ok (.aload_n 0, 1) := by decide +kernel
theorem dX9_hasPoint_17 : decode cX9_hasPoint 17 = .ok (.bipush 110, 2) := by decide +kernel
theorem dX9_hasPoint_19 : decode cX9_hasPoint 19 = .ok (.iload_n 3, 1) := by decide +kernel
theorem dX9_hasPoint_20 : decode cX9_hasPoint 20 = .ok (.iadd, 1) := by decide +kernel
theorem dX9_hasPoint_21 : decode cX9_hasPoint 21 = .ok (.iaload, 1) := by decide +kernel
theorem dX9_hasPoint_22 : decode cX9_hasPoint 22 = .ok (.iload_n 1, 1) := by decide +kernel
theorem dX9_hasPoint_23 : decode cX9_hasPoint 23 = .ok (.if_icmp .ne 7, 3) := by decide +kernel
theorem dX9_hasPoint_26 : decode cX9_hasPoint 26 = .ok (.iconst 1, 1) := by decide +kernel
theorem dX9_hasPoint_27 : decode cX9_hasPoint 27 = .ok (.goto 4, 3) := by decide +kernel
theorem dX9_hasPoint_30 : decode cX9_hasPoint 30 = .ok (.iconst 0, 1) := by decide +kernel
theorem dX9_hasPoint_31 : decode cX9_hasPoint 31 = .ok (.istore_n 2, 1) := by decide +kernel
theorem dX9_hasPoint_32 : decode cX9_hasPoint 32 = .ok (.iinc 3 1, 3) := by decide +kernel
theorem dX9_hasPoint_35 : decode cX9_hasPoint 35 = .ok (.goto (-31), 3) := by decide +kernel
theorem dX9_hasPoint_38 : decode cX9_hasPoint 38 = .ok (.iload_n 2, 1) := by decide +kernel
theorem dX9_hasPoint_39 : decode cX9_hasPoint 39 = .ok (.ireturn, 1) := by decide +kernel
set_option maxRecDepth 20000 in
theorem ggX9_canKind_X9_hasThing : GoodIn wsX9_canKind wsX9_hasThing := goodIn_r _ [4, 5, 6, 3, 7, 8, 9, 10] (by decide +kernel) (by decide +kernel)
set_option maxRecDepth 20000 in
theorem gX9_canKind_X9_hasThing : GoodIn wsX9_canKind (va_wsS RX9 78 yX9_hasThing wsX9_hasThing) := goodIn_app (goodIn_of _ (by decide +kernel)) ggX9_canKind_X9_hasThing
set_option maxRecDepth 20000 in
theorem ggX9_canKind_X9_hasPoint : GoodIn wsX9_canKind wsX9_hasPoint := goodIn_r _ [13] (by decide +kernel) (by decide +kernel)
set_option maxRecDepth 20000 in
theorem gX9_canKind_X9_hasPoint : GoodIn wsX9_canKind (va_wsS RX9 142 yX9_hasPoint wsX9_hasPoint) := goodIn_app (goodIn_of _ (by decide +kernel)) ggX9_canKind_X9_hasPoint
theorem dX9_canKind_0 : decode cX9_canKind 0 = .ok (.iload_n 2, 1) := by decide +kernel
theorem dX9_canKind_1 : decode cX9_canKind 1 = .ok (.iconst 1, 1) := by decide +kernel
theorem dX9_canKind_2 : decode cX9_canKind 2 = .ok (.if_icmp .eq 8, 3) := by decide +kernel
theorem dX9_canKind_5 : decode cX9_canKind 5 = .ok (.iload_n 2, 1) := by decide +kernel
theorem dX9_canKind_6 : decode cX9_canKind 6 = .ok (.iconst 2, 1) := by decide +kernel
theorem dX9_canKind_7 : decode cX9_canKind 7 = .ok (.if_icmp .ne 19, 3) := by decide +kernel
theorem dX9_canKind_10 : decode cX9_canKind 10 = .ok (.aload_n 0, 1) := by decide +kernel
theorem dX9_canKind_11 : decode cX9_canKind 11 = .ok (.iload_n 1, 1) := by decide +kernel
theorem dX9_canKind_12 : decode cX9_canKind 12 = .ok (.invokestatic 78, 3) := by decide +kernel
theorem dX9_canKind_15 : decode cX9_canKind 15 = .ok (.ifCond .ne 15, 3) := by decide +kernel
theorem dX9_canKind_18 : decode cX9_canKind 18 = .ok (.aload_n 0, 1) := by decide +kernel
theorem dX9_canKind_19 : decode cX9_canKind 19 = .ok (.iload_n 1, 1) := by decide +kernel
theorem dX9_canKind_20 : decode cX9_canKind 20 = .ok (.invokestatic 142, 3) := by decide +kernel
theorem dX9_canKind_23 : decode cX9_canKind 23 = .ok (.ifCond .ne 7, 3) := by decide +kernel
theorem dX9_canKind_26 : decode cX9_canKind 26 = .ok (.iconst 1, 1) := by decide +kernel
theorem dX9_canKind_27 : decode cX9_canKind 27 = .ok (.goto 4, 3) := by decide +kernel
theorem dX9_canKind_30 : decode cX9_canKind 30 = .ok (.iconst 0, 1) := by decide +kernel
theorem dX9_canKind_31 : decode cX9_canKind 31 = .ok (.ireturn, 1) := by decide +kernel
set_option maxRecDepth 20000 in
theorem ggX9_canCrate_X9_isHard : GoodIn wsX9_canCrate wsX9_isHard := goodIn_r _ [4] (by decide +kernel) (by decide +kernel)
set_option maxRecDepth 20000 in
theorem gX9_canCrate_X9_isHard : GoodIn wsX9_canCrate (va_wsS RX9 145 yX9_isHard wsX9_isHard) := goodIn_app (goodIn_of _ (by decide +kernel)) ggX9_canCrate_X9_isHard
set_option maxRecDepth 20000 in
theorem ggX9_canCrate_X9_hasThing : GoodIn wsX9_canCrate wsX9_hasThing := goodIn_r _ [7, 8, 9, 3, 10, 11, 12, 13] (by decide +kernel) (by decide +kernel)
set_option maxRecDepth 20000 in
theorem gX9_canCrate_X9_hasThing : GoodIn wsX9_canCrate (va_wsS RX9 78 yX9_hasThing wsX9_hasThing) := goodIn_app (goodIn_of _ (by decide +kernel)) ggX9_canCrate_X9_hasThing
set_option maxRecDepth 20000 in
theorem ggX9_canCrate_X9_cratesOn : GoodIn wsX9_canCrate wsX9_cratesOn := goodIn_r _ [16] (by decide +kernel) (by decide +kernel)
set_option maxRecDepth 20000 in
theorem gX9_canCrate_X9_cratesOn : GoodIn wsX9_canCrate (va_wsS RX9 148 yX9_cratesOn wsX9_cratesOn) := goodIn_app (goodIn_of _ (by decide +kernel)) ggX9_canCrate_X9_cratesOn
theorem dX9_canCrate_0 : decode cX9_canCrate 0 = .ok (.aload_n 0, 1) := by decide +kernel
theorem dX9_canCrate_1 : decode cX9_canCrate 1 = .ok (.iload_n 1, 1) := by decide +kernel
theorem dX9_canCrate_2 : decode cX9_canCrate 2 = .ok (.invokestatic 145, 3) := by decide +kernel
theorem dX9_canCrate_5 : decode cX9_canCrate 5 = .ok (.ifCond .ne 24, 3) := by decide +kernel
theorem dX9_canCrate_8 : decode cX9_canCrate 8 = .ok (.aload_n 0, 1) := by decide +kernel
theorem dX9_canCrate_9 : decode cX9_canCrate 9 = .ok (.iload_n 1, 1) := by decide +kernel
theorem dX9_canCrate_10 : decode cX9_canCrate 10 = .ok (.invokestatic 78, 3) := by decide +kernel
theorem dX9_canCrate_13 : decode cX9_canCrate 13 = .ok (.ifCond .ne 16, 3) := by decide +kernel
theorem dX9_canCrate_16 : decode cX9_canCrate 16 = .ok (.aload_n 0, 1) := by decide +kernel
theorem dX9_canCrate_17 : decode cX9_canCrate 17 = .ok (.invokestatic 148, 3) := by decide +kernel
theorem dX9_canCrate_20 : decode cX9_canCrate 20 = .ok (.bipush 8, 2) := by decide +kernel
theorem dX9_canCrate_22 : decode cX9_canCrate 22 = .ok (.if_icmp .ge 7, 3) := by decide +kernel
theorem dX9_canCrate_25 : decode cX9_canCrate 25 = .ok (.iconst 1, 1) := by decide +kernel
theorem dX9_canCrate_26 : decode cX9_canCrate 26 = .ok (.goto 4, 3) := by decide +kernel
theorem dX9_canCrate_29 : decode cX9_canCrate 29 = .ok (.iconst 0, 1) := by decide +kernel
theorem dX9_canCrate_30 : decode cX9_canCrate 30 = .ok (.ireturn, 1) := by decide +kernel
set_option maxRecDepth 20000 in
theorem ggX9_canPoint_X9_isHard : GoodIn wsX9_canPoint wsX9_isHard := goodIn_r _ [4] (by decide +kernel) (by decide +kernel)
set_option maxRecDepth 20000 in
theorem gX9_canPoint_X9_isHard : GoodIn wsX9_canPoint (va_wsS RX9 145 yX9_isHard wsX9_isHard) := goodIn_app (goodIn_of _ (by decide +kernel)) ggX9_canPoint_X9_isHard
set_option maxRecDepth 20000 in
theorem ggX9_canPoint_X9_hasPoint : GoodIn wsX9_canPoint wsX9_hasPoint := goodIn_r _ [7] (by decide +kernel) (by decide +kernel)
set_option maxRecDepth 20000 in
theorem gX9_canPoint_X9_hasPoint : GoodIn wsX9_canPoint (va_wsS RX9 142 yX9_hasPoint wsX9_hasPoint) := goodIn_app (goodIn_of _ (by decide +kernel)) ggX9_canPoint_X9_hasPoint
theorem dX9_canPoint_0 : decode cX9_canPoint 0 = .ok (.aload_n 0, 1) := by decide +kernel
theorem dX9_canPoint_1 : decode cX9_canPoint 1 = .ok (.iload_n 1, 1) := by decide +kernel
theorem dX9_canPoint_2 : decode cX9_canPoint 2 = .ok (.invokestatic 145, 3) := by decide +kernel
theorem dX9_canPoint_5 : decode cX9_canPoint 5 = .ok (.ifCond .ne 23, 3) := by decide +kernel
theorem dX9_canPoint_8 : decode cX9_canPoint 8 = .ok (.aload_n 0, 1) := by decide +kernel
theorem dX9_canPoint_9 : decode cX9_canPoint 9 = .ok (.iload_n 1, 1) := by decide +kernel
theorem dX9_canPoint_10 : decode cX9_canPoint 10 = .ok (.invokestatic 142, 3) := by decide +kernel
theorem dX9_canPoint_13 : decode cX9_canPoint 13 = .ok (.ifCond .ne 15, 3) := by decide +kernel
theorem dX9_canPoint_16 : decode cX9_canPoint 16 = .ok (.aload_n 0, 1) := by decide +kernel
theorem dX9_canPoint_17 : decode cX9_canPoint 17 = .ok (.bipush 110, 2) := by decide +kernel
theorem dX9_canPoint_19 : decode cX9_canPoint 19 = .ok (.iaload, 1) := by decide +kernel
theorem dX9_canPoint_20 : decode cX9_canPoint 20 = .ok (.iconst 4, 1) := by decide +kernel
theorem dX9_canPoint_21 : decode cX9_canPoint 21 = .ok (.if_icmp .ge 7, 3) := by decide +kernel
theorem dX9_canPoint_24 : decode cX9_canPoint 24 = .ok (.iconst 1, 1) := by decide +kernel
theorem dX9_canPoint_25 : decode cX9_canPoint 25 = .ok (.goto 4, 3) := by decide +kernel
theorem dX9_canPoint_28 : decode cX9_canPoint 28 = .ok (.iconst 0, 1) := by decide +kernel
theorem dX9_canPoint_29 : decode cX9_canPoint 29 = .ok (.ireturn, 1) := by decide +kernel
set_option maxRecDepth 20000 in
theorem ggX9_canPut_X9_isHard : GoodIn wsX9_canPut wsX9_isHard := goodIn_r _ [4] (by decide +kernel) (by decide +kernel)
set_option maxRecDepth 20000 in
theorem gX9_canPut_X9_isHard : GoodIn wsX9_canPut (va_wsS RX9 145 yX9_isHard wsX9_isHard) := goodIn_app (goodIn_of _ (by decide +kernel)) ggX9_canPut_X9_isHard
set_option maxRecDepth 20000 in
theorem ggX9_canPut_X9_of : GoodIn wsX9_canPut wsX9_of := goodIn_r _ [7] (by decide +kernel) (by decide +kernel)
set_option maxRecDepth 20000 in
theorem gX9_canPut_X9_of : GoodIn wsX9_canPut (va_wsS RX9 64 yX9_of wsX9_of) := goodIn_app (goodIn_of _ (by decide +kernel)) ggX9_canPut_X9_of
set_option maxRecDepth 20000 in
theorem ggX9_canPut_X9_hasThing : GoodIn wsX9_canPut wsX9_hasThing := goodIn_r _ [10, 11, 12, 3, 13, 5, 6, 7] (by decide +kernel) (by decide +kernel)
set_option maxRecDepth 20000 in
theorem gX9_canPut_X9_hasThing : GoodIn wsX9_canPut (va_wsS RX9 78 yX9_hasThing wsX9_hasThing) := goodIn_app (goodIn_of _ (by decide +kernel)) ggX9_canPut_X9_hasThing
theorem dX9_canPut_0 : decode cX9_canPut 0 = .ok (.aload_n 0, 1) := by decide +kernel
theorem dX9_canPut_1 : decode cX9_canPut 1 = .ok (.iload_n 2, 1) := by decide +kernel
theorem dX9_canPut_2 : decode cX9_canPut 2 = .ok (.invokestatic 145, 3) := by decide +kernel
theorem dX9_canPut_5 : decode cX9_canPut 5 = .ok (.ifCond .ne 25, 3) := by decide +kernel
theorem dX9_canPut_8 : decode cX9_canPut 8 = .ok (.aload_n 0, 1) := by decide +kernel
theorem dX9_canPut_9 : decode cX9_canPut 9 = .ok (.iload_n 1, 1) := by decide +kernel
theorem dX9_canPut_10 : decode cX9_canPut 10 = .ok (.iconst 0, 1) := by decide +kernel
theorem dX9_canPut_11 : decode cX9_canPut 11 = .ok (.invokestatic 64, 3) := by decide +kernel
theorem dX9_canPut_14 : decode cX9_canPut 14 = .ok (.iload_n 2, 1) := by decide +kernel
theorem dX9_canPut_15 : decode cX9_canPut 15 = .ok (.if_icmp .eq 11, 3) := by decide +kernel
theorem dX9_canPut_18 : decode cX9_canPut 18 = .ok (.aload_n 0, 1) := by decide +kernel
theorem dX9_canPut_19 : decode cX9_canPut 19 = .ok (.iload_n 2, 1) := by decide +kernel
theorem dX9_canPut_20 : decode cX9_canPut 20 = .ok (.invokestatic 78, 3) := by decide +kernel
theorem dX9_canPut_23 : decode cX9_canPut 23 = .ok (.ifCond .ne 7, 3) := by decide +kernel
theorem dX9_canPut_26 : decode cX9_canPut 26 = .ok (.iconst 1, 1) := by decide +kernel
theorem dX9_canPut_27 : decode cX9_canPut 27 = .ok (.goto 4, 3) := by decide +kernel
theorem dX9_canPut_30 : decode cX9_canPut 30 = .ok (.iconst 0, 1) := by decide +kernel
theorem dX9_canPut_31 : decode cX9_canPut 31 = .ok (.ireturn, 1) := by decide +kernel
theorem dX9_kindOn_0 : decode cX9_kindOn 0 = .ok (.aload_n 0, 1) := by decide +kernel
theorem dX9_kindOn_1 : decode cX9_kindOn 1 = .ok (.iload_n 1, 1) := by decide +kernel
theorem dX9_kindOn_2 : decode cX9_kindOn 2 = .ok (.iaload, 1) := by decide +kernel
theorem dX9_kindOn_3 : decode cX9_kindOn 3 = .ok (.istore_n 3, 1) := by decide +kernel
theorem dX9_kindOn_4 : decode cX9_kindOn 4 = .ok (.aload_n 0, 1) := by decide +kernel
theorem dX9_kindOn_5 : decode cX9_kindOn 5 = .ok (.iload_n 1, 1) := by decide +kernel
theorem dX9_kindOn_6 : decode cX9_kindOn 6 = .ok (.iload_n 2, 1) := by decide +kernel
theorem dX9_kindOn_7 : decode cX9_kindOn 7 = .ok (.iastore, 1) := by decide +kernel
theorem dX9_kindOn_8 : decode cX9_kindOn 8 = .ok (.iload_n 3, 1) := by decide +kernel
theorem dX9_kindOn_9 : decode cX9_kindOn 9 = .ok (.ireturn, 1) := by decide +kernel
set_option maxRecDepth 20000 in
theorem ggX9_crateOn_X9_cratesOn : GoodIn wsX9_crateOn wsX9_cratesOn := goodIn_r _ [4] (by decide +kernel) (by decide +kernel)
set_option maxRecDepth 20000 in
theorem gX9_crateOn_X9_cratesOn : GoodIn wsX9_crateOn (va_wsS RX9 148 yX9_cratesOn wsX9_cratesOn) := goodIn_app (goodIn_of _ (by decide +kernel)) ggX9_crateOn_X9_cratesOn
theorem dX9_crateOn_0 : decode cX9_crateOn 0 = .ok (.aload_n 0, 1) := by decide +kernel
theorem dX9_crateOn_1 : decode cX9_crateOn 1 = .ok (.bipush 36, 2) := by decide +kernel
theorem dX9_crateOn_3 : decode cX9_crateOn 3 = .ok (.iload_n 1, 1) := by decide +kernel
theorem dX9_crateOn_4 : decode cX9_crateOn 4 = .ok (.iadd, 1) := by decide +kernel
theorem dX9_crateOn_5 : decode cX9_crateOn 5 = .ok (.iconst 1, 1) := by decide +kernel
theorem dX9_crateOn_6 : decode cX9_crateOn 6 = .ok (.iastore, 1) := by decide +kernel
theorem dX9_crateOn_7 : decode cX9_crateOn 7 = .ok (.aload_n 0, 1) := by decide +kernel
theorem dX9_crateOn_8 : decode cX9_crateOn 8 = .ok (.invokestatic 148, 3) := by decide +kernel
theorem dX9_crateOn_11 : decode cX9_crateOn 11 = .ok (.ireturn, 1) := by decide +kernel
theorem dX9_pointOn_0 : decode cX9_pointOn 0 = .ok (.aload_n 0, 1) := by decide +kernel
theorem dX9_pointOn_1 : decode cX9_pointOn 1 = .ok (.bipush 110, 2) := by decide +kernel
theorem dX9_pointOn_3 : decode cX9_pointOn 3 = .ok (.dup2, 1) := by decide +kernel
theorem dX9_pointOn_4 : decode cX9_pointOn 4 = .ok (.iaload, 1) := by decide +kernel
theorem dX9_pointOn_5 : decode cX9_pointOn 5 = .ok (.iconst 1, 1) := by decide +kernel
theorem dX9_pointOn_6 : decode cX9_pointOn 6 = .ok (.iadd, 1) := by decide +kernel
theorem dX9_pointOn_7 : decode cX9_pointOn 7 = .ok (.iastore, 1) := by decide +kernel
theorem dX9_pointOn_8 : decode cX9_pointOn 8 = .ok (.aload_n 0, 1) := by decide +kernel
theorem dX9_pointOn_9 : decode cX9_pointOn 9 = .ok (.bipush 110, 2) := by decide +kernel
theorem dX9_pointOn_11 : decode cX9_pointOn 11 = .ok (.aload_n 0, 1) := by decide +kernel
theorem dX9_pointOn_12 : decode cX9_pointOn 12 = .ok (.bipush 110, 2) := by decide +kernel
theorem dX9_pointOn_14 : decode cX9_pointOn 14 = .ok (.iaload, 1) := by decide +kernel
theorem dX9_pointOn_15 : decode cX9_pointOn 15 = .ok (.iadd, 1) := by decide +kernel
theorem dX9_pointOn_16 : decode cX9_pointOn 16 = .ok (.iload_n 1, 1) := by decide +kernel
theorem dX9_pointOn_17 : decode cX9_pointOn 17 = .ok (.iastore, 1) := by decide +kernel
theorem dX9_pointOn_18 : decode cX9_pointOn 18 = .ok (.aload_n 0, 1) := by decide +kernel
theorem dX9_pointOn_19 : decode cX9_pointOn 19 = .ok (.bipush 110, 2) := by decide +kernel
theorem dX9_pointOn_21 : decode cX9_pointOn 21 = .ok (.iaload, 1) := by decide +kernel
theorem dX9_pointOn_22 : decode cX9_pointOn 22 = .ok (.ireturn, 1) := by decide +kernel
set_option maxRecDepth 20000 in
theorem ggX9_putOn_X9_of : GoodIn wsX9_putOn wsX9_of := goodIn_r _ [4] (by decide +kernel) (by decide +kernel)
set_option maxRecDepth 20000 in
theorem gX9_putOn_X9_of : GoodIn wsX9_putOn (va_wsS RX9 64 yX9_of wsX9_of) := goodIn_app (goodIn_of _ (by decide +kernel)) ggX9_putOn_X9_of
set_option maxRecDepth 20000 in
theorem ggX9_putOn_X9_puts : GoodIn wsX9_putOn wsX9_puts := goodIn_r _ [7] (by decide +kernel) (by decide +kernel)
set_option maxRecDepth 20000 in
theorem gX9_putOn_X9_puts : GoodIn wsX9_putOn (va_wsS RX9 92 yX9_puts wsX9_puts) := goodIn_app (goodIn_of _ (by decide +kernel)) ggX9_putOn_X9_puts
theorem dX9_putOn_0 : decode cX9_putOn 0 = .ok (.aload_n 0, 1) := by decide +kernel
theorem dX9_putOn_1 : decode cX9_putOn 1 = .ok (.iload_n 1, 1) := by decide +kernel
theorem dX9_putOn_2 : decode cX9_putOn 2 = .ok (.iconst 0, 1) := by decide +kernel
theorem dX9_putOn_3 : decode cX9_putOn 3 = .ok (.invokestatic 64, 3) := by decide +kernel
theorem dX9_putOn_6 : decode cX9_putOn 6 = .ok (.istore 4, 2) := by decide +kernel
theorem dX9_putOn_8 : decode cX9_putOn 8 = .ok (.aload_n 0, 1) := by decide +kernel
theorem dX9_putOn_9 : decode cX9_putOn 9 = .ok (.iload_n 1, 1) := by decide +kernel
theorem dX9_putOn_10 : decode cX9_putOn 10 = .ok (.iconst 0, 1) := by decide +kernel
theorem dX9_putOn_11 : decode cX9_putOn 11 = .ok (.iload_n 2, 1) := by decide +kernel
theorem dX9_putOn_12 : decode cX9_putOn 12 = .ok (.invokestatic 92, 3) := by decide +kernel
theorem dX9_putOn_15 : decode cX9_putOn 15 = .ok (.aload_n 0, 1) := by decide +kernel
theorem dX9_putOn_16 : decode cX9_putOn 16 = .ok (.iload_n 1, 1) := by decide +kernel
theorem dX9_putOn_17 : decode cX9_putOn 17 = .ok (.iconst 1, 1) := by decide +kernel
theorem dX9_putOn_18 : decode cX9_putOn 18 = .ok (.iload_n 3, 1) := by decide +kernel
theorem dX9_putOn_19 : decode cX9_putOn 19 = .ok (.invokestatic 92, 3) := by decide +kernel
theorem dX9_putOn_22 : decode cX9_putOn 22 = .ok (.iload 4, 2) := by decide +kernel
theorem dX9_putOn_24 : decode cX9_putOn 24 = .ok (.ireturn, 1) := by decide +kernel
set_option maxRecDepth 20000 in
theorem ggX9_writeOn_X9_of : GoodIn wsX9_writeOn wsX9_of := goodIn_r _ [4] (by decide +kernel) (by decide +kernel)
set_option maxRecDepth 20000 in
theorem gX9_writeOn_X9_of : GoodIn wsX9_writeOn (va_wsS RX9 64 yX9_of wsX9_of) := goodIn_app (goodIn_of _ (by decide +kernel)) ggX9_writeOn_X9_of
set_option maxRecDepth 20000 in
theorem ggX9_writeOn_X9_adds : GoodIn wsX9_writeOn wsX9_adds := goodIn_r _ [7] (by decide +kernel) (by decide +kernel)
set_option maxRecDepth 20000 in
theorem gX9_writeOn_X9_adds : GoodIn wsX9_writeOn (va_wsS RX9 100 yX9_adds wsX9_adds) := goodIn_app (goodIn_of _ (by decide +kernel)) ggX9_writeOn_X9_adds
theorem dX9_writeOn_0 : decode cX9_writeOn 0 = .ok (.aload_n 0, 1) := by decide +kernel
theorem dX9_writeOn_1 : decode cX9_writeOn 1 = .ok (.bipush 90, 2) := by decide +kernel
theorem dX9_writeOn_3 : decode cX9_writeOn 3 = .ok (.bipush 10, 2) := by decide +kernel
theorem dX9_writeOn_5 : decode cX9_writeOn 5 = .ok (.iload_n 1, 1) := by decide +kernel
theorem dX9_writeOn_6 : decode cX9_writeOn 6 = .ok (.imul, 1) := by decide +kernel
theorem dX9_writeOn_7 : decode cX9_writeOn 7 = .ok (.iadd, 1) := by decide +kernel
theorem dX9_writeOn_8 : decode cX9_writeOn 8 = .ok (.aload_n 0, 1) := by decide +kernel
theorem dX9_writeOn_9 : decode cX9_writeOn 9 = .ok (.iload_n 1, 1) := by decide +kernel
theorem dX9_writeOn_10 : decode cX9_writeOn 10 = .ok (.bipush 8, 2) := by decide +kernel
theorem dX9_writeOn_12 : decode cX9_writeOn 12 = .ok (.invokestatic 64, 3) := by decide +kernel
theorem dX9_writeOn_15 : decode cX9_writeOn 15 = .ok (.iadd, 1) := by decide +kernel
theorem dX9_writeOn_16 : decode cX9_writeOn 16 = .ok (.iload_n 2, 1) := by decide +kernel
theorem dX9_writeOn_17 : decode cX9_writeOn 17 = .ok (.iastore, 1) := by decide +kernel
theorem dX9_writeOn_18 : decode cX9_writeOn 18 = .ok (.aload_n 0, 1) := by decide +kernel
theorem dX9_writeOn_19 : decode cX9_writeOn 19 = .ok (.iload_n 1, 1) := by decide +kernel
theorem dX9_writeOn_20 : decode cX9_writeOn 20 = .ok (.bipush 8, 2) := by decide +kernel
theorem dX9_writeOn_22 : decode cX9_writeOn 22 = .ok (.iconst 1, 1) := by decide +kernel
theorem dX9_writeOn_23 : decode cX9_writeOn 23 = .ok (.invokestatic 100, 3) := by decide +kernel
theorem dX9_writeOn_26 : decode cX9_writeOn 26 = .ok (.aload_n 0, 1) := by decide +kernel
theorem dX9_writeOn_27 : decode cX9_writeOn 27 = .ok (.iload_n 1, 1) := by decide +kernel
theorem dX9_writeOn_28 : decode cX9_writeOn 28 = .ok (.bipush 8, 2) := by decide +kernel
theorem dX9_writeOn_30 : decode cX9_writeOn 30 = .ok (.invokestatic 64, 3) := by decide +kernel
theorem dX9_writeOn_33 : decode cX9_writeOn 33 = .ok (.ireturn, 1) := by decide +kernel
set_option maxRecDepth 20000 in
theorem ggX9_wipeOn_X9_of : GoodIn wsX9_wipeOn wsX9_of := goodIn_r _ [4] (by decide +kernel) (by decide +kernel)
set_option maxRecDepth 20000 in
theorem gX9_wipeOn_X9_of : GoodIn wsX9_wipeOn (va_wsS RX9 64 yX9_of wsX9_of) := goodIn_app (goodIn_of _ (by decide +kernel)) ggX9_wipeOn_X9_of
set_option maxRecDepth 20000 in
theorem ggX9_wipeOn_X9_puts : GoodIn wsX9_wipeOn wsX9_puts := goodIn_r _ [7] (by decide +kernel) (by decide +kernel)
set_option maxRecDepth 20000 in
theorem gX9_wipeOn_X9_puts : GoodIn wsX9_wipeOn (va_wsS RX9 92 yX9_puts wsX9_puts) := goodIn_app (goodIn_of _ (by decide +kernel)) ggX9_wipeOn_X9_puts
theorem dX9_wipeOn_0 : decode cX9_wipeOn 0 = .ok (.aload_n 0, 1) := by decide +kernel
theorem dX9_wipeOn_1 : decode cX9_wipeOn 1 = .ok (.iload_n 1, 1) := by decide +kernel
theorem dX9_wipeOn_2 : decode cX9_wipeOn 2 = .ok (.bipush 8, 2) := by decide +kernel
theorem dX9_wipeOn_4 : decode cX9_wipeOn 4 = .ok (.invokestatic 64, 3) := by decide +kernel
theorem dX9_wipeOn_7 : decode cX9_wipeOn 7 = .ok (.istore_n 2, 1) := by decide +kernel
theorem dX9_wipeOn_8 : decode cX9_wipeOn 8 = .ok (.aload_n 0, 1) := by decide +kernel
theorem dX9_wipeOn_9 : decode cX9_wipeOn 9 = .ok (.iload_n 1, 1) := by decide +kernel
theorem dX9_wipeOn_10 : decode cX9_wipeOn 10 = .ok (.bipush 8, 2) := by decide +kernel
theorem dX9_wipeOn_12 : decode cX9_wipeOn 12 = .ok (.iconst 0, 1) := by decide +kernel
theorem dX9_wipeOn_13 : decode cX9_wipeOn 13 = .ok (.invokestatic 92, 3) := by decide +kernel
theorem dX9_wipeOn_16 : decode cX9_wipeOn 16 = .ok (.aload_n 0, 1) := by decide +kernel
theorem dX9_wipeOn_17 : decode cX9_wipeOn 17 = .ok (.iload_n 1, 1) := by decide +kernel
theorem dX9_wipeOn_18 : decode cX9_wipeOn 18 = .ok (.bipush 7, 2) := by decide +kernel
theorem dX9_wipeOn_20 : decode cX9_wipeOn 20 = .ok (.iconst 0, 1) := by decide +kernel
theorem dX9_wipeOn_21 : decode cX9_wipeOn 21 = .ok (.invokestatic 92, 3) := by decide +kernel
theorem dX9_wipeOn_24 : decode cX9_wipeOn 24 = .ok (.iload_n 2, 1) := by decide +kernel
theorem dX9_wipeOn_25 : decode cX9_wipeOn 25 = .ok (.ireturn, 1) := by decide +kernel
set_option maxRecDepth 20000 in
theorem ggX9_append_X9_in : GoodIn wsX9_append wsX9_in := goodIn_r _ [7] (by decide +kernel) (by decide +kernel)
set_option maxRecDepth 20000 in
theorem gX9_append_X9_in : GoodIn wsX9_append (va_wsS RX9 60 yX9_in wsX9_in) := goodIn_app (goodIn_of _ (by decide +kernel)) ggX9_append_X9_in
set_option maxRecDepth 20000 in
theorem ggX9_append_X9_refused : GoodIn wsX9_append wsX9_refused := goodIn_r _ [11, 12, 13, 14, 15, 16, 17, 18, 19, 20, 21, 22, 23, 24, 25, 26, 27, 28, 29, 30, 31] (by decide +kernel) (by decide +kernel)
set_option maxRecDepth 20000 in
theorem gX9_append_X9_refused : GoodIn wsX9_append (wsV RX9 156 RX9 yX9_refused wsX9_refused) := goodIn_app (goodIn_of _ (by decide +kernel)) ggX9_append_X9_refused
theorem dX9_append_0 : decode cX9_append 0 = .ok (.aload_n 0, 1) := by decide +kernel
theorem dX9_append_1 : decode cX9_append 1 = .ok (.iload_n 1, 1) := by decide +kernel
theorem dX9_append_2 : decode cX9_append 2 = .ok (.i2l, 1) := by decide +kernel
theorem dX9_append_3 : decode cX9_append 3 = .ok (.lconst 0, 1) := by decide +kernel
theorem dX9_append_4 : decode cX9_append 4 = .ok (.ldc2_w 151, 3) := by decide +kernel
theorem dX9_append_7 : decode cX9_append 7 = .ok (.invokestatic 60, 3) := by decide +kernel
theorem dX9_append_10 : decode cX9_append 10 = .ok (.ifCond .ne 7, 3) := by decide +kernel
theorem dX9_append_13 : decode cX9_append 13 = .ok (.iconst 1, 1) := by decide +kernel
theorem dX9_append_14 : decode cX9_append 14 = .ok (.goto 17, 3) := by decide +kernel
theorem dX9_append_17 : decode cX9_append 17 = .ok (.aload_n 0, 1) := by decide +kernel
theorem dX9_append_18 : decode cX9_append 18 = .ok (.getfield 153, 3) := by decide +kernel
theorem dX9_append_21 : decode cX9_append 21 = .ok (.bipush 120, 2) := by decide +kernel
theorem dX9_append_23 : decode cX9_append 23 = .ok (.if_icmp .ne 7, 3) := by decide +kernel
theorem dX9_append_26 : decode cX9_append 26 = .ok (.iconst 2, 1) := by decide +kernel
theorem dX9_append_27 : decode cX9_append 27 = .ok (.goto 4, 3) := by decide +kernel
theorem dX9_append_30 : decode cX9_append 30 = .ok (.iconst 0, 1) := by decide +kernel
theorem dX9_append_31 : decode cX9_append 31 = .ok (.invokevirtual 156, 3) := by decide +kernel
theorem dX9_append_34 : decode cX9_append 34 = .ok (.ifCond .eq 5, 3) := by decide +kernel
theorem dX9_append_37 : decode cX9_append 37 = .ok (.iconst 0, 1) := by decide +kernel
theorem dX9_append_38 : decode cX9_append 38 = .ok (.ireturn, 1) := by decide +kernel
theorem dX9_append_39 : decode cX9_append 39 = .ok (.aload_n 0, 1) := by decide +kernel
theorem dX9_append_40 : decode cX9_append 40 = .ok (.getfield 7, 3) := by decide +kernel
theorem dX9_append_43 : decode cX9_append 43 = .ok (.aload_n 0, 1) := by decide +kernel
theorem dX9_append_44 : decode cX9_append 44 = .ok (.getfield 153, 3) := by decide +kernel
theorem dX9_append_47 : decode cX9_append 47 = .ok (.iload_n 1, 1) := by decide +kernel
theorem dX9_append_48 : decode cX9_append 48 = .ok (.iastore, 1) := by decide +kernel
theorem dX9_append_49 : decode cX9_append 49 = .ok (.aload_n 0, 1) := by decide +kernel
theorem dX9_append_50 : decode cX9_append 50 = .ok (.dup, 1) := by decide +kernel
theorem dX9_append_51 : decode cX9_append 51 = .ok (.getfield 153, 3) := by decide +kernel
theorem dX9_append_54 : decode cX9_append 54 = .ok (.iconst 1, 1) := by decide +kernel
theorem dX9_append_55 : decode cX9_append 55 = .ok (.iadd, 1) := by decide +kernel
theorem dX9_append_56 : decode cX9_append 56 = .ok (.putfield 153, 3) := by decide +kernel
theorem dX9_append_59 : decode cX9_append 59 = .ok (.aload_n 0, 1) := by decide +kernel
theorem dX9_append_60 : decode cX9_append 60 = .ok (.getfield 153, 3) := by decide +kernel
theorem dX9_append_63 : decode cX9_append 63 = .ok (.ireturn, 1) := by decide +kernel
theorem dX9_clearText_0 : decode cX9_clearText 0 = .ok (.aload_n 0, 1) := by decide +kernel
theorem dX9_clearText_1 : decode cX9_clearText 1 = .ok (.iconst 0, 1) := by decide +kernel
theorem dX9_clearText_2 : decode cX9_clearText 2 = .ok (.putfield 54, 3) := by decide +kernel
theorem dX9_clearText_5 : decode cX9_clearText 5 = .ok (.aload_n 0, 1) := by decide +kernel
theorem dX9_clearText_6 : decode cX9_clearText 6 = .ok (.getfield 153, 3) := by decide +kernel
theorem dX9_clearText_9 : decode cX9_clearText 9 = .ok (.istore_n 1, 1) := by decide +kernel
theorem dX9_clearText_10 : decode cX9_clearText 10 = .ok (.aload_n 0, 1) := by decide +kernel
theorem dX9_clearText_11 : decode cX9_clearText 11 = .ok (.iconst 0, 1) := by decide +kernel
theorem dX9_clearText_12 : decode cX9_clearText 12 = .ok (.putfield 153, 3) := by decide +kernel
theorem dX9_clearText_15 : decode cX9_clearText 15 = .ok (.iload_n 1, 1) := by decide +kernel
theorem dX9_clearText_16 : decode cX9_clearText 16 = .ok (.ireturn, 1) := by decide +kernel
set_option maxRecDepth 20000 in
theorem ggX9_digits_X9_in : GoodIn wsX9_digits wsX9_in := goodIn_r _ [9] (by decide +kernel) (by decide +kernel)
set_option maxRecDepth 20000 in
theorem gX9_digits_X9_in : GoodIn wsX9_digits (va_wsS RX9 60 yX9_in wsX9_in) := goodIn_app (goodIn_of _ (by decide +kernel)) ggX9_digits_X9_in
theorem dX9_digits_0 : decode cX9_digits 0 = .ok (.aload_n 0, 1) := by decide +kernel
theorem dX9_digits_1 : decode cX9_digits 1 = .ok (.iconst 0, 1) := by decide +kernel
theorem dX9_digits_2 : decode cX9_digits 2 = .ok (.putfield 160, 3) := by decide +kernel
theorem dX9_digits_5 : decode cX9_digits 5 = .ok (.iload_n 1, 1) := by decide +kernel
theorem dX9_digits_6 : decode cX9_digits 6 = .ok (.istore_n 3, 1) := by decide +kernel
theorem dX9_digits_7 : decode cX9_digits 7 = .ok (.iload_n 3, 1) := by decide +kernel
theorem dX9_digits_8 : decode cX9_digits 8 = .ok (.ifCond .le 91, 3) := by decide +kernel
theorem dX9_digits_11 : decode cX9_digits 11 = .ok (.aload_n 0, 1) := by decide +kernel
theorem dX9_digits_12 : decode cX9_digits 12 = .ok (.getfield 163, 3) := by decide +kernel
theorem dX9_digits_15 : decode cX9_digits 15 = .ok (.aload_n 0, 1) := by decide +kernel
theorem dX9_digits_16 : decode cX9_digits 16 = .ok (.getfield 153, 3) := by decide +kernel
theorem dX9_digits_19 : decode cX9_digits 19 = .ok (.if_icmp .ge 18, 3) := by decide +kernel
theorem dX9_digits_22 : decode cX9_digits 22 = .ok (.aload_n 0, 1) := by decide +kernel
theorem dX9_digits_23 : decode cX9_digits 23 = .ok (.getfield 7, 3) := by decide +kernel
theorem dX9_digits_26 : decode cX9_digits 26 = .ok (.aload_n 0, 1) := by decide +kernel
theorem dX9_digits_27 : decode cX9_digits 27 = .ok (.getfield 163, 3) := by decide +kernel
theorem dX9_digits_30 : decode cX9_digits 30 = .ok (.iaload, 1) := by decide +kernel
theorem dX9_digits_31 : decode cX9_digits 31 = .ok (.bipush 48, 2) := by decide +kernel
theorem dX9_digits_33 : decode cX9_digits 33 = .ok (.isub, 1) := by decide +kernel
theorem dX9_digits_34 : decode cX9_digits 34 = .ok (.goto 4, 3) := by decide +kernel
theorem dX9_digits_37 : decode cX9_digits 37 = .ok (.iconst (-1), 1) := by decide +kernel
theorem dX9_digits_38 : decode cX9_digits 38 = .ok (.istore 4, 2) := by decide +kernel
theorem dX9_digits_40 : decode cX9_digits 40 = .ok (.iload 4, 2) := by decide +kernel
theorem dX9_digits_42 : decode cX9_digits 42 = .ok (.i2l, 1) := by decide +kernel
theorem dX9_digits_43 : decode cX9_digits 43 = .ok (.lconst 0, 1) := by decide +kernel
theorem dX9_digits_44 : decode cX9_digits 44 = .ok (.ldc2_w 166, 3) := by decide +kernel
theorem dX9_digits_47 : decode cX9_digits 47 = .ok (.invokestatic 60, 3) := by decide +kernel
theorem dX9_digits_50 : decode cX9_digits 50 = .ok (.ifCond .eq 16, 3) := by decide +kernel
theorem dX9_digits_53 : decode cX9_digits 53 = .ok (.aload_n 0, 1) := by decide +kernel
theorem dX9_digits_54 : decode cX9_digits 54 = .ok (.getfield 160, 3) := by decide +kernel
theorem dX9_digits_57 : decode cX9_digits 57 = .ok (.iload_n 3, 1) := by decide +kernel
theorem dX9_digits_58 : decode cX9_digits 58 = .ok (.iload 4, 2) := by decide +kernel
theorem dX9_digits_60 : decode cX9_digits 60 = .ok (.imul, 1) := by decide +kernel
theorem dX9_digits_61 : decode cX9_digits 61 = .ok (.iadd, 1) := by decide +kernel
theorem dX9_digits_62 : decode cX9_digits 62 = .ok (.iload_n 2, 1) := by decide +kernel
theorem dX9_digits_63 : decode cX9_digits 63 = .ok (.if_icmp .le 5, 3) := by decide +kernel
theorem dX9_digits_66 : decode cX9_digits 66 = .ok (.iconst 0, 1) := by decide +kernel
theorem dX9_digits_67 : decode cX9_digits 67 = .ok (.ireturn, 1) := by decide +kernel
theorem dX9_digits_68 : decode cX9_digits 68 = .ok (.aload_n 0, 1) := by decide +kernel
theorem dX9_digits_69 : decode cX9_digits 69 = .ok (.dup, 1) := by decide +kernel
theorem dX9_digits_70 : decode cX9_digits 70 = .ok (.getfield 160, 3) := by decide +kernel
theorem dX9_digits_73 : decode cX9_digits 73 = .ok (.iload_n 3, 1) := by decide +kernel
theorem dX9_digits_74 : decode cX9_digits 74 = .ok (.iload 4, 2) := by decide +kernel
theorem dX9_digits_76 : decode cX9_digits 76 = .ok (.imul, 1) := by decide +kernel
theorem dX9_digits_77 : decode cX9_digits 77 = .ok (.iadd, 1) := by decide +kernel
theorem dX9_digits_78 : decode cX9_digits 78 = .ok (.putfield 160, 3) := by decide +kernel
theorem dX9_digits_81 : decode cX9_digits 81 = .ok (.aload_n 0, 1) := by decide +kernel
theorem dX9_digits_82 : decode cX9_digits 82 = .ok (.dup, 1) := by decide +kernel
theorem dX9_digits_83 : decode cX9_digits 83 = .ok (.getfield 163, 3) := by decide +kernel
theorem dX9_digits_86 : decode cX9_digits 86 = .ok (.iconst 1, 1) := by decide +kernel
theorem dX9_digits_87 : decode cX9_digits 87 = .ok (.iadd, 1) := by decide +kernel
theorem dX9_digits_88 : decode cX9_digits 88 = .ok (.putfield 163, 3) := by decide +kernel
theorem dX9_digits_91 : decode cX9_digits 91 = .ok (.iload_n 3, 1) := by decide +kernel
theorem dX9_digits_92 : decode cX9_digits 92 = .ok (.bipush 10, 2) := by decide +kernel
theorem dX9_digits_94 : decode cX9_digits 94 = .ok (.idiv, 1) := by decide +kernel
theorem dX9_digits_95 : decode cX9_digits 95 = .ok (.istore_n 3, 1) := by decide +kernel
theorem dX9_digits_96 : decode cX9_digits 96 = .ok (.goto (-89), 3) := by decide +kernel
theorem dX9_digits_99 : decode cX9_digits 99 = .ok (.iconst 1, 1) := by decide +kernel
theorem dX9_digits_100 : decode cX9_digits 100 = .ok (.ireturn, 1) := by decide +kernel
theorem dX9_kindOfSign_0 : decode cX9_kindOfSign 0 = .ok (.iload_n 0, 1) := by decide +kernel
theorem dX9_kindOfSign_1 : decode cX9_kindOfSign 1 = .ok (.lookupswitch 82 #[(35, 69), (46, 67), (101, 75), (110, 73), (111, 71), (115, 77), (119, 79)], 67) := by decide +kernel
theorem dX9_kindOfSign_68 : decode cX9_kindOfSign 68 = .ok (.iconst 0, 1) := by decide +kernel
theorem dX9_kindOfSign_69 : decode cX9_kindOfSign 69 = .ok (.ireturn, 1) := by decide +kernel
theorem dX9_kindOfSign_70 : decode cX9_kindOfSign 70 = .ok (.iconst 1, 1) := by decide +kernel
theorem dX9_kindOfSign_71 : decode cX9_kindOfSign 71 = .ok (.ireturn, 1) := by decide +kernel
theorem dX9_kindOfSign_72 : decode cX9_kindOfSign 72 = .ok (.iconst 2, 1) := by decide +kernel
theorem dX9_kindOfSign_73 : decode cX9_kindOfSign 73 = .ok (.ireturn, 1) := by decide +kernel
theorem dX9_kindOfSign_74 : decode cX9_kindOfSign 74 = .ok (.iconst 3, 1) := by decide +kernel
theorem dX9_kindOfSign_75 : decode cX9_kindOfSign 75 = .ok (.ireturn, 1) := by decide +kernel
theorem dX9_kindOfSign_76 : decode cX9_kindOfSign 76 = .ok (.iconst 4, 1) := by decide +kernel
theorem dX9_kindOfSign_77 : decode cX9_kindOfSign 77 = .ok (.ireturn, 1) := by decide +kernel
theorem dX9_kindOfSign_78 : decode cX9_kindOfSign 78 = .ok (.iconst 5, 1) := by decide +kernel
theorem dX9_kindOfSign_79 : decode cX9_kindOfSign 79 = .ok (.ireturn, 1) := by decide +kernel
theorem dX9_kindOfSign_80 : decode cX9_kindOfSign 80 = .ok (.bipush 6, 2) := by decide +kernel
theorem dX9_kindOfSign_82 : decode cX9_kindOfSign 82 = .ok (.ireturn, 1) := by decide +kernel
theorem dX9_kindOfSign_83 : decode cX9_kindOfSign 83 = .ok (.iconst (-1), 1) := by decide +kernel
theorem dX9_kindOfSign_84 : decode cX9_kindOfSign 84 = .ok (.ireturn, 1) := by decide +kernel
set_option maxRecDepth 20000 in
theorem ggX9_readKinds_X9_kindOfSign : GoodIn wsX9_readKinds wsX9_kindOfSign := goodIn_r _ [8] (by decide +kernel) (by decide +kernel)
set_option maxRecDepth 20000 in
theorem gX9_readKinds_X9_kindOfSign : GoodIn wsX9_readKinds (va_wsS RX9 168 yX9_kindOfSign wsX9_kindOfSign) := goodIn_app (goodIn_of _ (by decide +kernel)) ggX9_readKinds_X9_kindOfSign
set_option maxRecDepth 20000 in
theorem ggX9_readKinds_X9_canKind : GoodIn wsX9_readKinds wsX9_canKind := goodIn_r _ [11, 12, 13, 7, 14, 15, 16, 17, 18, 19, 20, 21, 22, 23] (by decide +kernel) (by decide +kernel)
set_option maxRecDepth 20000 in
theorem gX9_readKinds_X9_canKind : GoodIn wsX9_readKinds (va_wsS RX9 172 yX9_canKind wsX9_canKind) := goodIn_app (goodIn_of _ (by decide +kernel)) ggX9_readKinds_X9_canKind
theorem dX9_readKinds_0 : decode cX9_readKinds 0 = .ok (.iconst 0, 1) := by decide +kernel
theorem dX9_readKinds_1 : decode cX9_readKinds 1 = .ok (.istore_n 2, 1) := by decide +kernel
theorem dX9_readKinds_2 : decode cX9_readKinds 2 = .ok (.iload_n 2, 1) := by decide +kernel
theorem dX9_readKinds_3 : decode cX9_readKinds 3 = .ok (.bipush 36, 2) := by decide +kernel
theorem dX9_readKinds_5 : decode cX9_readKinds 5 = .ok (.if_icmp .ge 80, 3) := by decide +kernel
theorem dX9_readKinds_8 : decode cX9_readKinds 8 = .ok (.aload_n 0, 1) := by decide +kernel
theorem dX9_readKinds_9 : decode cX9_readKinds 9 = .ok (.getfield 163, 3) := by decide +kernel
theorem dX9_readKinds_12 : decode cX9_readKinds 12 = .ok (.aload_n 0, 1) := by decide +kernel
theorem dX9_readKinds_13 : decode cX9_readKinds 13 = .ok (.getfield 153, 3) := by decide +kernel
theorem dX9_readKinds_16 : decode cX9_readKinds 16 = .ok (.if_icmp .ge 18, 3) := by decide +kernel
theorem dX9_readKinds_19 : decode cX9_readKinds 19 = .ok (.aload_n 0, 1) := by decide +kernel
theorem dX9_readKinds_20 : decode cX9_readKinds 20 = .ok (.getfield 7, 3) := by decide +kernel
theorem dX9_readKinds_23 : decode cX9_readKinds 23 = .ok (.aload_n 0, 1) := by decide +kernel
theorem dX9_readKinds_24 : decode cX9_readKinds 24 = .ok (.getfield 163, 3) := by decide +kernel
theorem dX9_readKinds_27 : decode cX9_readKinds 27 = .ok (.iaload, 1) := by decide +kernel
theorem dX9_readKinds_28 : decode cX9_readKinds 28 = .ok (.invokestatic 168, 3) := by decide +kernel
theorem dX9_readKinds_31 : decode cX9_readKinds 31 = .ok (.goto 4, 3) := by decide +kernel
theorem dX9_readKinds_34 : decode cX9_readKinds 34 = .ok (.iconst (-1), 1) := by decide +kernel
theorem dX9_readKinds_35 : decode cX9_readKinds 35 = .ok (.istore_n 3, 1) := by decide +kernel
theorem dX9_readKinds_36 : decode cX9_readKinds 36 = .ok (.iload_n 3, 1) := by decide +kernel
theorem dX9_readKinds_37 : decode cX9_readKinds 37 = .ok (.iconst (-1), 1) := by decide +kernel
theorem dX9_readKinds_38 : decode cX9_readKinds 38 = .ok (.if_icmp .ne 5, 3) := by decide +kernel
theorem dX9_readKinds_41 : decode cX9_readKinds 41 = .ok (.iconst 0, 1) := by decide +kernel
theorem dX9_readKinds_42 : decode cX9_readKinds 42 = .ok (.ireturn, 1) := by decide +kernel
theorem dX9_readKinds_43 : decode cX9_readKinds 43 = .ok (.aload_n 1, 1) := by decide +kernel
theorem dX9_readKinds_44 : decode cX9_readKinds 44 = .ok (.iload_n 2, 1) := by decide +kernel
theorem dX9_readKinds_45 : decode cX9_readKinds 45 = .ok (.iload_n 3, 1) := by decide +kernel
theorem dX9_readKinds_46 : decode cX9_readKinds 46 = .ok (.invokestatic 172, 3) := by decide +kernel
theorem dX9_readKinds_49 : decode cX9_readKinds 49 = .ok (.ifCond .eq 10, 3) := by decide +kernel
theorem dX9_readKinds_52 : decode cX9_readKinds 52 = .ok (.aload_n 1, 1) := by decide +kernel
theorem dX9_readKinds_53 : decode cX9_readKinds 53 = .ok (.iload_n 2, 1) := by decide +kernel
theorem dX9_readKinds_54 : decode cX9_readKinds 54 = .ok (.iload_n 3, 1) := by decide +kernel
theorem dX9_readKinds_55 : decode cX9_readKinds 55 = .ok (.iastore, 1) := by decide +kernel
theorem dX9_readKinds_56 : decode cX9_readKinds 56 = .ok (.goto 13, 3) := by decide +kernel
theorem dX9_readKinds_59 : decode cX9_readKinds 59 = .ok (.aload_n 0, 1) := by decide +kernel
theorem dX9_readKinds_60 : decode cX9_readKinds 60 = .ok (.dup, 1) := by decide +kernel
theorem dX9_readKinds_61 : decode cX9_readKinds 61 = .ok (.getfield 176, 3) := by decide +kernel
theorem dX9_readKinds_64 : decode cX9_readKinds 64 = .ok (.iconst 1, 1) := by decide +kernel
theorem dX9_readKinds_65 : decode cX9_readKinds 65 = .ok (.iadd, 1) := by decide +kernel
theorem dX9_readKinds_66 : decode cX9_readKinds 66 = .ok (.putfield 176, 3) := by decide +kernel
theorem dX9_readKinds_69 : decode cX9_readKinds 69 = .ok (.aload_n 0, 1) := by decide +kernel
theorem dX9_readKinds_70 : decode cX9_readKinds 70 = .ok (.dup, 1) := by decide +kernel
theorem dX9_readKinds_71 : decode cX9_readKinds 71 = .ok (.getfield 163, 3) := by decide +kernel
theorem dX9_readKinds_74 : decode cX9_readKinds 74 = .ok (.iconst 1, 1) := by decide +kernel
theorem dX9_readKinds_75 : decode cX9_readKinds 75 = .ok (.iadd, 1) := by decide +kernel
theorem dX9_readKinds_76 : decode cX9_readKinds 76 = .ok (.putfield 163, 3) := by decide +kernel
theorem dX9_readKinds_79 : decode cX9_readKinds 79 = .ok (.iinc 2 1, 3) := by decide +kernel
theorem dX9_readKinds_82 : decode cX9_readKinds 82 = .ok (.goto (-80), 3) := by decide +kernel
theorem dX9_readKinds_85 : decode cX9_readKinds 85 = .ok (.iconst 1, 1) := by decide +kernel
theorem dX9_readKinds_86 : decode cX9_readKinds 86 = .ok (.ireturn, 1) := by decide +kernel
set_option maxRecDepth 20000 in
theorem ggX9_readRobot_X9_digits : GoodIn wsX9_readRobot wsX9_digits := goodIn_r _ [7, 1, 8, 9, 10, 11, 12, 13, 6, 14, 36, 37, 38, 39, 40, 41, 42, 43, 44, 45, 46, 47, 48, 49, 50, 51, 52, 53, 54] (by decide +kernel) (by decide +kernel)
set_option maxRecDepth 20000 in
theorem gX9_readRobot_X9_digits : GoodIn wsX9_readRobot (wsV RX9 179 RX9 yX9_digits wsX9_digits) := goodIn_app (goodIn_of _ (by decide +kernel)) ggX9_readRobot_X9_digits
set_option maxRecDepth 20000 in
theorem ggX9_readRobot_X9_canPut : GoodIn wsX9_readRobot wsX9_canPut := goodIn_r _ [17, 18, 19, 6, 20, 21, 22, 23, 24, 25, 26, 27, 28, 29] (by decide +kernel) (by decide +kernel)
set_option maxRecDepth 20000 in
theorem gX9_readRobot_X9_canPut : GoodIn wsX9_readRobot (va_wsS RX9 183 yX9_canPut wsX9_canPut) := goodIn_app (goodIn_of _ (by decide +kernel)) ggX9_readRobot_X9_canPut
set_option maxRecDepth 20000 in
theorem ggX9_readRobot_X9_putOn : GoodIn wsX9_readRobot wsX9_putOn := goodIn_r _ [32, 21, 22, 6, 23, 33, 34, 35] (by decide +kernel) (by decide +kernel)
set_option maxRecDepth 20000 in
theorem gX9_readRobot_X9_putOn : GoodIn wsX9_readRobot (va_wsS RX9 186 yX9_putOn wsX9_putOn) := goodIn_app (goodIn_of _ (by decide +kernel)) ggX9_readRobot_X9_putOn
theorem dX9_readRobot_0 : decode cX9_readRobot 0 = .ok (.aload_n 0, 1) := by decide +kernel
theorem dX9_readRobot_1 : decode cX9_readRobot 1 = .ok (.iconst 1, 1) := by decide +kernel
theorem dX9_readRobot_2 : decode cX9_readRobot 2 = .ok (.iconst 1, 1) := by decide +kernel
theorem dX9_readRobot_3 : decode cX9_readRobot 3 = .ok (.invokevirtual 179, 3) := by decide +kernel
theorem dX9_readRobot_6 : decode cX9_readRobot 6 = .ok (.ifCond .ne 5, 3) := by decide +kernel
theorem dX9_readRobot_9 : decode cX9_readRobot 9 = .ok (.iconst 0, 1) := by decide +kernel
theorem dX9_readRobot_10 : decode cX9_readRobot 10 = .ok (.ireturn, 1) := by decide +kernel
theorem dX9_readRobot_11 : decode cX9_readRobot 11 = .ok (.aload_n 0, 1) := by decide +kernel
theorem dX9_readRobot_12 : decode cX9_readRobot 12 = .ok (.getfield 160, 3) := by decide +kernel
theorem dX9_readRobot_15 : decode cX9_readRobot 15 = .ok (.istore_n 2, 1) := by decide +kernel
theorem dX9_readRobot_16 : decode cX9_readRobot 16 = .ok (.aload_n 0, 1) := by decide +kernel
theorem dX9_readRobot_17 : decode cX9_readRobot 17 = .ok (.bipush 10, 2) := by decide +kernel
theorem dX9_readRobot_19 : decode cX9_readRobot 19 = .ok (.bipush 35, 2) := by decide +kernel
theorem dX9_readRobot_21 : decode cX9_readRobot 21 = .ok (.invokevirtual 179, 3) := by decide +kernel
theorem dX9_readRobot_24 : decode cX9_readRobot 24 = .ok (.ifCond .ne 5, 3) := by decide +kernel
theorem dX9_readRobot_27 : decode cX9_readRobot 27 = .ok (.iconst 0, 1) := by decide +kernel
theorem dX9_readRobot_28 : decode cX9_readRobot 28 = .ok (.ireturn, 1) := by decide +kernel
theorem dX9_readRobot_29 : decode cX9_readRobot 29 = .ok (.aload_n 0, 1) := by decide +kernel
theorem dX9_readRobot_30 : decode cX9_readRobot 30 = .ok (.getfield 160, 3) := by decide +kernel
theorem dX9_readRobot_33 : decode cX9_readRobot 33 = .ok (.istore_n 3, 1) := by decide +kernel
theorem dX9_readRobot_34 : decode cX9_readRobot 34 = .ok (.aload_n 0, 1) := by decide +kernel
theorem dX9_readRobot_35 : decode cX9_readRobot 35 = .ok (.iconst 1, 1) := by decide +kernel
theorem dX9_readRobot_36 : decode cX9_readRobot 36 = .ok (.iconst 3, 1) := by decide +kernel
theorem dX9_readRobot_37 : decode cX9_readRobot 37 = .ok (.invokevirtual 179, 3) := by decide +kernel
theorem dX9_readRobot_40 : decode cX9_readRobot 40 = .ok (.ifCond .ne 5, 3) := by decide +kernel
theorem dX9_readRobot_43 : decode cX9_readRobot 43 = .ok (.iconst 0, 1) := by decide +kernel
theorem dX9_readRobot_44 : decode cX9_readRobot 44 = .ok (.ireturn, 1) := by decide +kernel
theorem dX9_readRobot_45 : decode cX9_readRobot 45 = .ok (.aload_n 0, 1) := by decide +kernel
theorem dX9_readRobot_46 : decode cX9_readRobot 46 = .ok (.dup, 1) := by decide +kernel
theorem dX9_readRobot_47 : decode cX9_readRobot 47 = .ok (.getfield 176, 3) := by decide +kernel
theorem dX9_readRobot_50 : decode cX9_readRobot 50 = .ok (.aload_n 1, 1) := by decide +kernel
theorem dX9_readRobot_51 : decode cX9_readRobot 51 = .ok (.iload_n 2, 1) := by decide +kernel
theorem dX9_readRobot_52 : decode cX9_readRobot 52 = .ok (.iload_n 3, 1) := by decide +kernel
theorem dX9_readRobot_53 : decode cX9_readRobot 53 = .ok (.invokestatic 183, 3) := by decide +kernel
theorem dX9_readRobot_56 : decode cX9_readRobot 56 = .ok (.ifCond .eq 20, 3) := by decide +kernel
theorem dX9_readRobot_59 : decode cX9_readRobot 59 = .ok (.aload_n 1, 1) := by decide +kernel
theorem dX9_readRobot_60 : decode cX9_readRobot 60 = .ok (.iload_n 2, 1) := by decide +kernel
theorem dX9_readRobot_61 : decode cX9_readRobot 61 = .ok (.iload_n 3, 1) := by decide +kernel
theorem dX9_readRobot_62 : decode cX9_readRobot 62 = .ok (.aload_n 0, 1) := by decide +kernel
theorem dX9_readRobot_63 : decode cX9_readRobot 63 = .ok (.getfield 160, 3) := by decide +kernel
theorem dX9_readRobot_66 : decode cX9_readRobot 66 = .ok (.invokestatic 186, 3) := by decide +kernel
theorem dX9_readRobot_69 : decode cX9_readRobot 69 = .ok (.ifCond .lt 7, 3) := by decide +kernel
theorem dX9_readRobot_72 : decode cX9_readRobot 72 = .ok (.iconst 0, 1) := by decide +kernel
theorem dX9_readRobot_73 : decode cX9_readRobot 73 = .ok (.goto 4, 3) := by decide +kernel
theorem dX9_readRobot_76 : decode cX9_readRobot 76 = .ok (.iconst 1, 1) := by decide +kernel
theorem dX9_readRobot_77 : decode cX9_readRobot 77 = .ok (.iadd, 1) := by decide +kernel
theorem dX9_readRobot_78 : decode cX9_readRobot 78 = .ok (.putfield 176, 3) := by decide +kernel
theorem dX9_readRobot_81 : decode cX9_readRobot 81 = .ok (.iconst 1, 1) := by decide +kernel
theorem dX9_readRobot_82 : decode cX9_readRobot 82 = .ok (.ireturn, 1) := by decide +kernel
set_option maxRecDepth 20000 in
theorem ggX9_readProgram_X9_digits : GoodIn wsX9_readProgram wsX9_digits := goodIn_r _ [10, 1, 3, 4, 5, 11, 12, 13, 9, 14, 24, 25, 26, 27, 28, 29, 30, 31, 32, 33, 34, 35, 36, 37, 38, 39, 40, 41, 42] (by decide +kernel) (by decide +kernel)
set_option maxRecDepth 20000 in
theorem gX9_readProgram_X9_digits : GoodIn wsX9_readProgram (wsV RX9 179 RX9 yX9_digits wsX9_digits) := goodIn_app (goodIn_of _ (by decide +kernel)) ggX9_readProgram_X9_digits
set_option maxRecDepth 20000 in
theorem ggX9_readProgram_X9_of : GoodIn wsX9_readProgram wsX9_of := goodIn_r _ [17] (by decide +kernel) (by decide +kernel)
set_option maxRecDepth 20000 in
theorem gX9_readProgram_X9_of : GoodIn wsX9_readProgram (va_wsS RX9 64 yX9_of wsX9_of) := goodIn_app (goodIn_of _ (by decide +kernel)) ggX9_readProgram_X9_of
set_option maxRecDepth 20000 in
theorem ggX9_readProgram_X9_writeOn : GoodIn wsX9_readProgram wsX9_writeOn := goodIn_r _ [20, 15, 16, 9, 17, 21, 22, 23] (by decide +kernel) (by decide +kernel)
set_option maxRecDepth 20000 in
theorem gX9_readProgram_X9_writeOn : GoodIn wsX9_readProgram (va_wsS RX9 190 yX9_writeOn wsX9_writeOn) := goodIn_app (goodIn_of _ (by decide +kernel)) ggX9_readProgram_X9_writeOn
theorem dX9_readProgram_0 : decode cX9_readProgram 0 = .ok (.aload_n 0, 1) := by decide +kernel
theorem dX9_readProgram_1 : decode cX9_readProgram 1 = .ok (.iconst 1, 1) := by decide +kernel
theorem dX9_readProgram_2 : decode cX9_readProgram 2 = .ok (.iconst 1, 1) := by decide +kernel
theorem dX9_readProgram_3 : decode cX9_readProgram 3 = .ok (.invokevirtual 179, 3) := by decide +kernel
theorem dX9_readProgram_6 : decode cX9_readProgram 6 = .ok (.ifCond .ne 5, 3) := by decide +kernel
theorem dX9_readProgram_9 : decode cX9_readProgram 9 = .ok (.iconst 0, 1) := by decide +kernel
theorem dX9_readProgram_10 : decode cX9_readProgram 10 = .ok (.ireturn, 1) := by decide +kernel
theorem dX9_readProgram_11 : decode cX9_readProgram 11 = .ok (.aload_n 0, 1) := by decide +kernel
theorem dX9_readProgram_12 : decode cX9_readProgram 12 = .ok (.getfield 160, 3) := by decide +kernel
theorem dX9_readProgram_15 : decode cX9_readProgram 15 = .ok (.istore_n 2, 1) := by decide +kernel
theorem dX9_readProgram_16 : decode cX9_readProgram 16 = .ok (.iconst 0, 1) := by decide +kernel
theorem dX9_readProgram_17 : decode cX9_readProgram 17 = .ok (.istore_n 3, 1) := by decide +kernel
theorem dX9_readProgram_18 : decode cX9_readProgram 18 = .ok (.iload_n 3, 1) := by decide +kernel
theorem dX9_readProgram_19 : decode cX9_readProgram 19 = .ok (.bipush 10, 2) := by decide +kernel
theorem dX9_readProgram_21 : decode cX9_readProgram 21 = .ok (.if_icmp .ge 56, 3) := by decide +kernel
theorem dX9_readProgram_24 : decode cX9_readProgram 24 = .ok (.aload_n 0, 1) := by decide +kernel
theorem dX9_readProgram_25 : decode cX9_readProgram 25 = .ok (.iconst 1, 1) := by decide +kernel
theorem dX9_readProgram_26 : decode cX9_readProgram 26 = .ok (.iconst 5, 1) := by decide +kernel
theorem dX9_readProgram_27 : decode cX9_readProgram 27 = .ok (.invokevirtual 179, 3) := by decide +kernel
theorem dX9_readProgram_30 : decode cX9_readProgram 30 = .ok (.ifCond .eq 47, 3) := by decide +kernel
theorem dX9_readProgram_33 : decode cX9_readProgram 33 = .ok (.iinc 3 1, 3) := by decide +kernel
theorem dX9_readProgram_36 : decode cX9_readProgram 36 = .ok (.aload_n 0, 1) := by decide +kernel
theorem dX9_readProgram_37 : decode cX9_readProgram 37 = .ok (.dup, 1) := by decide +kernel
theorem dX9_readProgram_38 : decode cX9_readProgram 38 = .ok (.getfield 176, 3) := by decide +kernel
theorem dX9_readProgram_41 : decode cX9_readProgram 41 = .ok (.aload_n 1, 1) := by decide +kernel
theorem dX9_readProgram_42 : decode cX9_readProgram 42 = .ok (.iload_n 2, 1) := by decide +kernel
theorem dX9_readProgram_43 : decode cX9_readProgram 43 = .ok (.bipush 8, 2) := by decide +kernel
theorem dX9_readProgram_45 : decode cX9_readProgram 45 = .ok (.invokestatic 64, 3) := by decide +kernel
theorem dX9_readProgram_48 : decode cX9_readProgram 48 = .ok (.bipush 10, 2) := by decide +kernel
theorem dX9_readProgram_50 : decode cX9_readProgram 50 = .ok (.if_icmp .ge 19, 3) := by decide +kernel
theorem dX9_readProgram_53 : decode cX9_readProgram 53 = .ok (.aload_n 1, 1) := by decide +kernel
theorem dX9_readProgram_54 : decode cX9_readProgram 54 = .ok (.iload_n 2, 1) := by decide +kernel
theorem dX9_readProgram_55 : decode cX9_readProgram 55 = .ok (.aload_n 0, 1) := by decide +kernel
theorem dX9_readProgram_56 : decode cX9_readProgram 56 = .ok (.getfield 160, 3) := by decide +kernel
theorem dX9_readProgram_59 : decode cX9_readProgram 59 = .ok (.invokestatic 190, 3) := by decide +kernel
theorem dX9_readProgram_62 : decode cX9_readProgram 62 = .ok (.ifCond .le 7, 3) := by decide +kernel
theorem dX9_readProgram_65 : decode cX9_readProgram 65 = .ok (.iconst 0, 1) := by decide +kernel
theorem dX9_readProgram_66 : decode cX9_readProgram 66 = .ok (.goto 4, 3) := by decide +kernel
theorem dX9_readProgram_69 : decode cX9_readProgram 69 = .ok (.iconst 1, 1) := by decide +kernel
theorem dX9_readProgram_70 : decode cX9_readProgram 70 = .ok (.iadd, 1) := by decide +kernel
theorem dX9_readProgram_71 : decode cX9_readProgram 71 = .ok (.putfield 176, 3) := by decide +kernel
theorem dX9_readProgram_74 : decode cX9_readProgram 74 = .ok (.goto (-56), 3) := by decide +kernel
theorem dX9_readProgram_77 : decode cX9_readProgram 77 = .ok (.iload_n 3, 1) := by decide +kernel
theorem dX9_readProgram_78 : decode cX9_readProgram 78 = .ok (.ifCond .eq 28, 3) := by decide +kernel
theorem dX9_readProgram_81 : decode cX9_readProgram 81 = .ok (.aload_n 0, 1) := by decide +kernel
theorem dX9_readProgram_82 : decode cX9_readProgram 82 = .ok (.getfield 163, 3) := by decide +kernel
theorem dX9_readProgram_85 : decode cX9_readProgram 85 = .ok (.aload_n 0, 1) := by decide +kernel
theorem dX9_readProgram_86 : decode cX9_readProgram 86 = .ok (.getfield 153, 3) := by decide +kernel
theorem dX9_readProgram_89 : decode cX9_readProgram 89 = .ok (.if_icmp .eq 17, 3) := by decide +kernel
theorem dX9_readProgram_92 : decode cX9_readProgram 92 = .ok (.aload_n 0, 1) := by decide +kernel
theorem dX9_readProgram_93 : decode cX9_readProgram 93 = .ok (.getfield 7, 3) := by decide +kernel
theorem dX9_readProgram_96 : decode cX9_readProgram 96 = .ok (.aload_n 0, 1) := by decide +kernel
theorem dX9_readProgram_97 : decode cX9_readProgram 97 = .ok (.getfield 163, 3) := by decide +kernel
theorem dX9_readProgram_100 : decode cX9_readProgram 100 = .ok (.iaload, 1) := by decide +kernel
theorem dX9_readProgram_101 : decode cX9_readProgram 101 = .ok (.bipush 46, 2) := by decide +kernel
theorem dX9_readProgram_103 : decode cX9_readProgram 103 = .ok (.if_icmp .eq 5, 3) := by decide +kernel
theorem dX9_readProgram_106 : decode cX9_readProgram 106 = .ok (.iconst 0, 1) := by decide +kernel
theorem dX9_readProgram_107 : decode cX9_readProgram 107 = .ok (.ireturn, 1) := by decide +kernel
theorem dX9_readProgram_108 : decode cX9_readProgram 108 = .ok (.aload_n 0, 1) := by decide +kernel
theorem dX9_readProgram_109 : decode cX9_readProgram 109 = .ok (.dup, 1) := by decide +kernel
theorem dX9_readProgram_110 : decode cX9_readProgram 110 = .ok (.getfield 163, 3) := by decide +kernel
theorem dX9_readProgram_113 : decode cX9_readProgram 113 = .ok (.iconst 1, 1) := by decide +kernel
theorem dX9_readProgram_114 : decode cX9_readProgram 114 = .ok (.iadd, 1) := by decide +kernel
theorem dX9_readProgram_115 : decode cX9_readProgram 115 = .ok (.putfield 163, 3) := by decide +kernel
theorem dX9_readProgram_118 : decode cX9_readProgram 118 = .ok (.iconst 1, 1) := by decide +kernel
theorem dX9_readProgram_119 : decode cX9_readProgram 119 = .ok (.ireturn, 1) := by decide +kernel
set_option maxRecDepth 20000 in
theorem ggX9_readPart_X9_digits : GoodIn wsX9_readPart wsX9_digits := goodIn_r _ [9, 4, 2, 10, 1, 11, 12, 13, 8, 14, 68, 69, 70, 71, 72, 73, 74, 75, 76, 77, 78, 79, 80, 81, 82, 83, 84, 85, 86] (by decide +kernel) (by decide +kernel)
set_option maxRecDepth 20000 in
theorem gX9_readPart_X9_digits : GoodIn wsX9_readPart (wsV RX9 179 RX9 yX9_digits wsX9_digits) := goodIn_app (goodIn_of _ (by decide +kernel)) ggX9_readPart_X9_digits
set_option maxRecDepth 20000 in
theorem ggX9_readPart_X9_canCrate : GoodIn wsX9_readPart wsX9_canCrate := goodIn_r _ [17, 18, 19, 8, 20, 21, 22, 23, 24, 25, 26, 27, 28, 29, 30, 31, 32] (by decide +kernel) (by decide +kernel)
set_option maxRecDepth 20000 in
theorem gX9_readPart_X9_canCrate : GoodIn wsX9_readPart (va_wsS RX9 193 yX9_canCrate wsX9_canCrate) := goodIn_app (goodIn_of _ (by decide +kernel)) ggX9_readPart_X9_canCrate
set_option maxRecDepth 20000 in
theorem ggX9_readPart_X9_crateOn : GoodIn wsX9_readPart wsX9_crateOn := goodIn_r _ [35, 30, 31, 8, 32] (by decide +kernel) (by decide +kernel)
set_option maxRecDepth 20000 in
theorem gX9_readPart_X9_crateOn : GoodIn wsX9_readPart (va_wsS RX9 196 yX9_crateOn wsX9_crateOn) := goodIn_app (goodIn_of _ (by decide +kernel)) ggX9_readPart_X9_crateOn
set_option maxRecDepth 20000 in
theorem ggX9_readPart_X9_canPoint : GoodIn wsX9_readPart wsX9_canPoint := goodIn_r _ [38, 18, 19, 8, 20, 39, 40, 41] (by decide +kernel) (by decide +kernel)
set_option maxRecDepth 20000 in
theorem gX9_readPart_X9_canPoint : GoodIn wsX9_readPart (va_wsS RX9 199 yX9_canPoint wsX9_canPoint) := goodIn_app (goodIn_of _ (by decide +kernel)) ggX9_readPart_X9_canPoint
set_option maxRecDepth 20000 in
theorem ggX9_readPart_X9_pointOn : GoodIn wsX9_readPart wsX9_pointOn := goodIn_r _ [44] (by decide +kernel) (by decide +kernel)
set_option maxRecDepth 20000 in
theorem gX9_readPart_X9_pointOn : GoodIn wsX9_readPart (va_wsS RX9 202 yX9_pointOn wsX9_pointOn) := goodIn_app (goodIn_of _ (by decide +kernel)) ggX9_readPart_X9_pointOn
set_option maxRecDepth 20000 in
theorem ggX9_readPart_X9_readRobot : GoodIn wsX9_readPart wsX9_readRobot := goodIn_r _ [48, 4, 3, 5, 6, 7, 8, 9, 2, 10, 1, 11, 12, 13, 14, 49, 50, 51, 18, 19, 20, 27, 28, 29, 21, 22, 23, 24, 25, 26, 52, 53, 54, 55, 56, 57, 68, 69, 70, 71, 72, 73, 74, 75, 76, 77, 78, 79, 80, 81, 82, 83, 84, 85, 86] (by decide +kernel) (by decide +kernel)
set_option maxRecDepth 20000 in
theorem gX9_readPart_X9_readRobot : GoodIn wsX9_readPart (wsV RX9 205 RX9 yX9_readRobot wsX9_readRobot) := goodIn_app (goodIn_of _ (by decide +kernel)) ggX9_readPart_X9_readRobot
set_option maxRecDepth 20000 in
theorem ggX9_readPart_X9_readProgram : GoodIn wsX9_readPart wsX9_readProgram := goodIn_r _ [61, 4, 3, 2, 10, 1, 5, 6, 7, 8, 9, 11, 12, 13, 14, 27, 28, 29, 62, 63, 64, 65, 66, 67, 68, 69, 70, 71, 72, 73, 74, 75, 76, 77, 78, 79, 80, 81, 82, 83, 84, 85, 86] (by decide +kernel) (by decide +kernel)
set_option maxRecDepth 20000 in
theorem gX9_readPart_X9_readProgram : GoodIn wsX9_readPart (wsV RX9 208 RX9 yX9_readProgram wsX9_readProgram) := goodIn_app (goodIn_of _ (by decide +kernel)) ggX9_readPart_X9_readProgram
theorem dX9_readPart_0 : decode cX9_readPart 0 = .ok (.aload_n 0, 1) := by decide +kernel
theorem dX9_readPart_1 : decode cX9_readPart 1 = .ok (.getfield 7, 3) := by decide +kernel
theorem dX9_readPart_4 : decode cX9_readPart 4 = .ok (.aload_n 0, 1) := by decide +kernel
theorem dX9_readPart_5 : decode cX9_readPart 5 = .ok (.getfield 163, 3) := by decide +kernel
theorem dX9_readPart_8 : decode cX9_readPart 8 = .ok (.iaload, 1) := by decide +kernel
theorem dX9_readPart_9 : decode cX9_readPart 9 = .ok (.istore_n 2, 1) := by decide +kernel
theorem dX9_readPart_10 : decode cX9_readPart 10 = .ok (.aload_n 0, 1) := by decide +kernel
theorem dX9_readPart_11 : decode cX9_readPart 11 = .ok (.dup, 1) := by decide +kernel
theorem dX9_readPart_12 : decode cX9_readPart 12 = .ok (.getfield 163, 3) := by decide +kernel
theorem dX9_readPart_15 : decode cX9_readPart 15 = .ok (.iconst 1, 1) := by decide +kernel
theorem dX9_readPart_16 : decode cX9_readPart 16 = .ok (.iadd, 1) := by decide +kernel
theorem dX9_readPart_17 : decode cX9_readPart 17 = .ok (.putfield 163, 3) := by decide +kernel
theorem dX9_readPart_20 : decode cX9_readPart 20 = .ok (.iload_n 2, 1) := by decide +kernel
theorem dX9_readPart_21 : decode cX9_readPart 21 = .ok (.lookupswitch 157 #[(99, 43), (105, 151), (112, 94), (114, 145)], 43) := by decide +kernel
theorem dX9_readPart_64 : decode cX9_readPart 64 = .ok (.aload_n 0, 1) := by decide +kernel
theorem dX9_readPart_65 : decode cX9_readPart 65 = .ok (.bipush 10, 2) := by decide +kernel
theorem dX9_readPart_67 : decode cX9_readPart 67 = .ok (.bipush 35, 2) := by decide +kernel
theorem dX9_readPart_69 : decode cX9_readPart 69 = .ok (.invokevirtual 179, 3) := by decide +kernel
theorem dX9_readPart_72 : decode cX9_readPart 72 = .ok (.ifCond .ne 5, 3) := by decide +kernel
theorem dX9_readPart_75 : decode cX9_readPart 75 = .ok (.iconst 0, 1) := by decide +kernel
theorem dX9_readPart_76 : decode cX9_readPart 76 = .ok (.ireturn, 1) := by decide +kernel
theorem dX9_readPart_77 : decode cX9_readPart 77 = .ok (.aload_n 0, 1) := by decide +kernel
theorem dX9_readPart_78 : decode cX9_readPart 78 = .ok (.dup, 1) := by decide +kernel
theorem dX9_readPart_79 : decode cX9_readPart 79 = .ok (.getfield 176, 3) := by decide +kernel
theorem dX9_readPart_82 : decode cX9_readPart 82 = .ok (.aload_n 1, 1) := by decide +kernel
theorem dX9_readPart_83 : decode cX9_readPart 83 = .ok (.aload_n 0, 1) := by decide +kernel
theorem dX9_readPart_84 : decode cX9_readPart 84 = .ok (.getfield 160, 3) := by decide +kernel
theorem dX9_readPart_87 : decode cX9_readPart 87 = .ok (.invokestatic 193, 3) := by decide +kernel
theorem dX9_readPart_90 : decode cX9_readPart 90 = .ok (.ifCond .eq 18, 3) := by decide +kernel
theorem dX9_readPart_93 : decode cX9_readPart 93 = .ok (.aload_n 1, 1) := by decide +kernel
theorem dX9_readPart_94 : decode cX9_readPart 94 = .ok (.aload_n 0, 1) := by decide +kernel
theorem dX9_readPart_95 : decode cX9_readPart 95 = .ok (.getfield 160, 3) := by decide +kernel
theorem dX9_readPart_98 : decode cX9_readPart 98 = .ok (.invokestatic 196, 3) := by decide +kernel
theorem dX9_readPart_101 : decode cX9_readPart 101 = .ok (.ifCond .le 7, 3) := by decide +kernel
theorem dX9_readPart_104 : decode cX9_readPart 104 = .ok (.iconst 0, 1) := by decide +kernel
theorem dX9_readPart_105 : decode cX9_readPart 105 = .ok (.goto 4, 3) := by decide +kernel
theorem dX9_readPart_108 : decode cX9_readPart 108 = .ok (.iconst 1, 1) := by decide +kernel
theorem dX9_readPart_109 : decode cX9_readPart 109 = .ok (.iadd, 1) := by decide +kernel
theorem dX9_readPart_110 : decode cX9_readPart 110 = .ok (.putfield 176, 3) := by decide +kernel
theorem dX9_readPart_113 : decode cX9_readPart 113 = .ok (.iconst 1, 1) := by decide +kernel
theorem dX9_readPart_114 : decode cX9_readPart 114 = .ok (.ireturn, 1) := by decide +kernel
theorem dX9_readPart_115 : decode cX9_readPart 115 = .ok (.aload_n 0, 1) := by decide +kernel
theorem dX9_readPart_116 : decode cX9_readPart 116 = .ok (.bipush 10, 2) := by decide +kernel
theorem dX9_readPart_118 : decode cX9_readPart 118 = .ok (.bipush 35, 2) := by decide +kernel
theorem dX9_readPart_120 : decode cX9_readPart 120 = .ok (.invokevirtual 179, 3) := by decide +kernel
theorem dX9_readPart_123 : decode cX9_readPart 123 = .ok (.ifCond .ne 5, 3) := by decide +kernel
theorem dX9_readPart_126 : decode cX9_readPart 126 = .ok (.iconst 0, 1) := by decide +kernel
theorem dX9_readPart_127 : decode cX9_readPart 127 = .ok (.ireturn, 1) := by decide +kernel
theorem dX9_readPart_128 : decode cX9_readPart 128 = .ok (.aload_n 0, 1) := by decide +kernel
theorem dX9_readPart_129 : decode cX9_readPart 129 = .ok (.dup, 1) := by decide +kernel
theorem dX9_readPart_130 : decode cX9_readPart 130 = .ok (.getfield 176, 3) := by decide +kernel
theorem dX9_readPart_133 : decode cX9_readPart 133 = .ok (.aload_n 1, 1) := by decide +kernel
theorem dX9_readPart_134 : decode cX9_readPart 134 = .ok (.aload_n 0, 1) := by decide +kernel
theorem dX9_readPart_135 : decode cX9_readPart 135 = .ok (.getfield 160, 3) := by decide +kernel
theorem dX9_readPart_138 : decode cX9_readPart 138 = .ok (.invokestatic 199, 3) := by decide +kernel
theorem dX9_readPart_141 : decode cX9_readPart 141 = .ok (.ifCond .eq 18, 3) := by decide +kernel
theorem dX9_readPart_144 : decode cX9_readPart 144 = .ok (.aload_n 1, 1) := by decide +kernel
theorem dX9_readPart_145 : decode cX9_readPart 145 = .ok (.aload_n 0, 1) := by decide +kernel
theorem dX9_readPart_146 : decode cX9_readPart 146 = .ok (.getfield 160, 3) := by decide +kernel
theorem dX9_readPart_149 : decode cX9_readPart 149 = .ok (.invokestatic 202, 3) := by decide +kernel
theorem dX9_readPart_152 : decode cX9_readPart 152 = .ok (.ifCond .le 7, 3) := by decide +kernel
theorem dX9_readPart_155 : decode cX9_readPart 155 = .ok (.iconst 0, 1) := by decide +kernel
theorem dX9_readPart_156 : decode cX9_readPart 156 = .ok (.goto 4, 3) := by decide +kernel
theorem dX9_readPart_159 : decode cX9_readPart 159 = .ok (.iconst 1, 1) := by decide +kernel
theorem dX9_readPart_160 : decode cX9_readPart 160 = .ok (.iadd, 1) := by decide +kernel
theorem dX9_readPart_161 : decode cX9_readPart 161 = .ok (.putfield 176, 3) := by decide +kernel
theorem dX9_readPart_164 : decode cX9_readPart 164 = .ok (.iconst 1, 1) := by decide +kernel
theorem dX9_readPart_165 : decode cX9_readPart 165 = .ok (.ireturn, 1) := by decide +kernel
theorem dX9_readPart_166 : decode cX9_readPart 166 = .ok (.aload_n 0, 1) := by decide +kernel
theorem dX9_readPart_167 : decode cX9_readPart 167 = .ok (.aload_n 1, 1) := by decide +kernel
theorem dX9_readPart_168 : decode cX9_readPart 168 = .ok (.invokevirtual 205, 3) := by decide +kernel
theorem dX9_readPart_171 : decode cX9_readPart 171 = .ok (.ireturn, 1) := by decide +kernel
theorem dX9_readPart_172 : decode cX9_readPart 172 = .ok (.aload_n 0, 1) := by decide +kernel
theorem dX9_readPart_173 : decode cX9_readPart 173 = .ok (.aload_n 1, 1) := by decide +kernel
theorem dX9_readPart_174 : decode cX9_readPart 174 = .ok (.invokevirtual 208, 3) := by decide +kernel
theorem dX9_readPart_177 : decode cX9_readPart 177 = .ok (.ireturn, 1) := by decide +kernel
theorem dX9_readPart_178 : decode cX9_readPart 178 = .ok (.aload_n 0, 1) := by decide +kernel
theorem dX9_readPart_179 : decode cX9_readPart 179 = .ok (.dup, 1) := by decide +kernel
theorem dX9_readPart_180 : decode cX9_readPart 180 = .ok (.getfield 163, 3) := by decide +kernel
theorem dX9_readPart_183 : decode cX9_readPart 183 = .ok (.iconst 1, 1) := by decide +kernel
theorem dX9_readPart_184 : decode cX9_readPart 184 = .ok (.isub, 1) := by decide +kernel
theorem dX9_readPart_185 : decode cX9_readPart 185 = .ok (.putfield 163, 3) := by decide +kernel
theorem dX9_readPart_188 : decode cX9_readPart 188 = .ok (.iconst 0, 1) := by decide +kernel
theorem dX9_readPart_189 : decode cX9_readPart 189 = .ok (.ireturn, 1) := by decide +kernel
set_option maxRecDepth 20000 in
theorem ggX9_readText_X9_clear : GoodIn wsX9_readText wsX9_clear := goodIn_r _ [8] (by decide +kernel) (by decide +kernel)
set_option maxRecDepth 20000 in
theorem gX9_readText_X9_clear : GoodIn wsX9_readText (va_wsS RX9 50 yX9_clear wsX9_clear) := goodIn_app (goodIn_of _ (by decide +kernel)) ggX9_readText_X9_clear
set_option maxRecDepth 20000 in
theorem ggX9_readText_X9_readKinds : GoodIn wsX9_readText wsX9_readKinds := goodIn_r _ [12, 2, 3, 4, 1, 13, 14, 7, 15, 16, 17, 18, 19, 20, 21, 22, 23, 24, 25, 26, 27, 28, 29, 30, 85, 86, 87, 88, 89, 90, 91, 92, 93, 94, 95, 96, 97, 98, 99, 100, 101, 102, 103] (by decide +kernel) (by decide +kernel)
set_option maxRecDepth 20000 in
theorem gX9_readText_X9_readKinds : GoodIn wsX9_readText (wsV RX9 211 RX9 yX9_readKinds wsX9_readKinds) := goodIn_app (goodIn_of _ (by decide +kernel)) ggX9_readText_X9_readKinds
set_option maxRecDepth 20000 in
theorem ggX9_readText_X9_readPart : GoodIn wsX9_readText wsX9_readPart := goodIn_r _ [34, 4, 2, 1, 35, 36, 37, 38, 7, 39, 3, 40, 41, 42, 43, 44, 45, 46, 47, 48, 49, 19, 20, 21, 22, 23, 24, 25, 26, 27, 50, 51, 52, 53, 54, 55, 56, 57, 58, 28, 29, 30, 59, 60, 61, 62, 63, 64, 65, 66, 67, 68, 69, 70, 71, 72, 73, 74, 75, 76, 77, 78, 79, 80, 81, 82, 83, 84, 85, 86, 87, 88, 89, 90, 91, 92, 93, 94, 95, 96, 97, 98, 99, 100, 101, 102, 103] (by decide +kernel) (by decide +kernel)
set_option maxRecDepth 20000 in
theorem gX9_readText_X9_readPart : GoodIn wsX9_readText (wsV RX9 214 RX9 yX9_readPart wsX9_readPart) := goodIn_app (goodIn_of _ (by decide +kernel)) ggX9_readText_X9_readPart
theorem dX9_readText_0 : decode cX9_readText 0 = .ok (.aload_n 1, 1) := by decide +kernel
theorem dX9_readText_1 : decode cX9_readText 1 = .ok (.invokestatic 50, 3) := by decide +kernel
theorem dX9_readText_4 : decode cX9_readText 4 = .ok (.aload_n 0, 1) := by decide +kernel
theorem dX9_readText_5 : decode cX9_readText 5 = .ok (.iconst 0, 1) := by decide +kernel
theorem dX9_readText_6 : decode cX9_readText 6 = .ok (.putfield 176, 3) := by decide +kernel
theorem dX9_readText_9 : decode cX9_readText 9 = .ok (.aload_n 0, 1) := by decide +kernel
theorem dX9_readText_10 : decode cX9_readText 10 = .ok (.iconst 0, 1) := by decide +kernel
theorem dX9_readText_11 : decode cX9_readText 11 = .ok (.putfield 163, 3) := by decide +kernel
theorem dX9_readText_14 : decode cX9_readText 14 = .ok (.aload_n 0, 1) := by decide +kernel
theorem dX9_readText_15 : decode cX9_readText 15 = .ok (.getfield 153, 3) := by decide +kernel
theorem dX9_readText_18 : decode cX9_readText 18 = .ok (.ifCond .eq 14, 3) := by decide +kernel
theorem dX9_readText_21 : decode cX9_readText 21 = .ok (.aload_n 0, 1) := by decide +kernel
theorem dX9_readText_22 : decode cX9_readText 22 = .ok (.getfield 7, 3) := by decide +kernel
theorem dX9_readText_25 : decode cX9_readText 25 = .ok (.iconst 0, 1) := by decide +kernel
theorem dX9_readText_26 : decode cX9_readText 26 = .ok (.iaload, 1) := by decide +kernel
theorem dX9_readText_27 : decode cX9_readText 27 = .ok (.bipush 70, 2) := by decide +kernel
theorem dX9_readText_29 : decode cX9_readText 29 = .ok (.if_icmp .eq 5, 3) := by decide +kernel
theorem dX9_readText_32 : decode cX9_readText 32 = .ok (.iconst 0, 1) := by decide +kernel
theorem dX9_readText_33 : decode cX9_readText 33 = .ok (.ireturn, 1) := by decide +kernel
theorem dX9_readText_34 : decode cX9_readText 34 = .ok (.aload_n 0, 1) := by decide +kernel
theorem dX9_readText_35 : decode cX9_readText 35 = .ok (.iconst 1, 1) := by decide +kernel
theorem dX9_readText_36 : decode cX9_readText 36 = .ok (.putfield 163, 3) := by decide +kernel
theorem dX9_readText_39 : decode cX9_readText 39 = .ok (.aload_n 0, 1) := by decide +kernel
theorem dX9_readText_40 : decode cX9_readText 40 = .ok (.aload_n 1, 1) := by decide +kernel
theorem dX9_readText_41 : decode cX9_readText 41 = .ok (.invokevirtual 211, 3) := by decide +kernel
theorem dX9_readText_44 : decode cX9_readText 44 = .ok (.ifCond .ne 8, 3) := by decide +kernel
theorem dX9_readText_47 : decode cX9_readText 47 = .ok (.aload_n 0, 1) := by decide +kernel
theorem dX9_readText_48 : decode cX9_readText 48 = .ok (.getfield 163, 3) := by decide +kernel
theorem dX9_readText_51 : decode cX9_readText 51 = .ok (.ireturn, 1) := by decide +kernel
theorem dX9_readText_52 : decode cX9_readText 52 = .ok (.aload_n 0, 1) := by decide +kernel
theorem dX9_readText_53 : decode cX9_readText 53 = .ok (.getfield 163, 3) := by decide +kernel
theorem dX9_readText_56 : decode cX9_readText 56 = .ok (.aload_n 0, 1) := by decide +kernel
theorem dX9_readText_57 : decode cX9_readText 57 = .ok (.getfield 153, 3) := by decide +kernel
theorem dX9_readText_60 : decode cX9_readText 60 = .ok (.if_icmp .ge 16, 3) := by decide +kernel
theorem dX9_readText_63 : decode cX9_readText 63 = .ok (.aload_n 0, 1) := by decide +kernel
theorem dX9_readText_64 : decode cX9_readText 64 = .ok (.aload_n 1, 1) := by decide +kernel
theorem dX9_readText_65 : decode cX9_readText 65 = .ok (.invokevirtual 214, 3) := by decide +kernel
theorem dX9_readText_68 : decode cX9_readText 68 = .ok (.ifCond .ne (-16), 3) := by decide +kernel
theorem dX9_readText_71 : decode cX9_readText 71 = .ok (.aload_n 0, 1) := by decide +kernel
theorem dX9_readText_72 : decode cX9_readText 72 = .ok (.getfield 163, 3) := by decide +kernel
theorem dX9_readText_75 : decode cX9_readText 75 = .ok (.ireturn, 1) := by decide +kernel
theorem dX9_readText_76 : decode cX9_readText 76 = .ok (.iconst (-1), 1) := by decide +kernel
theorem dX9_readText_77 : decode cX9_readText 77 = .ok (.ireturn, 1) := by decide +kernel
set_option maxRecDepth 20000 in
theorem ggX9_errorPosition_X9_readText : GoodIn wsX9_errorPosition wsX9_readText := goodIn_r _ [7, 8, 9, 10, 11, 12, 13, 6, 14, 15, 16, 17, 18, 19, 20, 21, 22, 23, 24, 25, 26, 27, 28, 29, 30, 31, 32, 33, 34, 35, 36, 37, 38, 39, 40, 41, 42, 43, 44, 45, 46, 47, 48, 49, 50, 51, 52, 53, 54, 55, 56, 57, 58, 59, 60, 61, 62, 63, 64, 65, 66, 67, 68, 69, 70, 71, 72, 73, 74, 75, 76, 77, 78, 79, 80, 81, 82, 83, 84, 85, 86, 87, 88, 89, 90, 91, 92, 93, 94, 95, 96, 97, 98, 99, 100, 101, 102, 103, 104, 105, 106, 107, 108, 109] (by decide +kernel) (by decide +kernel)
set_option maxRecDepth 20000 in
theorem gX9_errorPosition_X9_readText : GoodIn wsX9_errorPosition (wsV RX9 217 RX9 yX9_readText wsX9_readText) := goodIn_app (goodIn_of _ (by decide +kernel)) ggX9_errorPosition_X9_readText
theorem dX9_errorPosition_0 : decode cX9_errorPosition 0 = .ok (.aload_n 0, 1) := by decide +kernel
theorem dX9_errorPosition_1 : decode cX9_errorPosition 1 = .ok (.iconst 0, 1) := by decide +kernel
theorem dX9_errorPosition_2 : decode cX9_errorPosition 2 = .ok (.putfield 54, 3) := by decide +kernel
theorem dX9_errorPosition_5 : decode cX9_errorPosition 5 = .ok (.aload_n 0, 1) := by decide +kernel
theorem dX9_errorPosition_6 : decode cX9_errorPosition 6 = .ok (.aload_n 0, 1) := by decide +kernel
theorem dX9_errorPosition_7 : decode cX9_errorPosition 7 = .ok (.getfield 16, 3) := by decide +kernel
theorem dX9_errorPosition_10 : decode cX9_errorPosition 10 = .ok (.invokevirtual 217, 3) := by decide +kernel
theorem dX9_errorPosition_13 : decode cX9_errorPosition 13 = .ok (.ireturn, 1) := by decide +kernel
set_option maxRecDepth 20000 in
theorem ggX9_load_X9_readText : GoodIn wsX9_load wsX9_readText := goodIn_r _ [10, 5, 11, 12, 13, 14, 15, 9, 16, 17, 18, 19, 20, 21, 22, 23, 24, 25, 26, 27, 28, 29, 30, 31, 32, 33, 34, 35, 36, 37, 38, 39, 40, 41, 42, 43, 44, 45, 46, 47, 48, 49, 50, 51, 52, 53, 54, 55, 56, 57, 58, 59, 60, 61, 62, 63, 64, 65, 66, 67, 68, 69, 70, 71, 72, 73, 74, 75, 76, 77, 78, 79, 80, 81, 82, 83, 84, 85, 86, 87, 88, 89, 90, 91, 92, 101, 102, 103, 104, 105, 106, 107, 108, 109, 110, 111, 112, 113, 114, 115, 116, 117, 118, 119] (by decide +kernel) (by decide +kernel)
set_option maxRecDepth 20000 in
theorem gX9_load_X9_readText : GoodIn wsX9_load (wsV RX9 217 RX9 yX9_readText wsX9_readText) := goodIn_app (goodIn_of _ (by decide +kernel)) ggX9_load_X9_readText
set_option maxRecDepth 20000 in
theorem ggX9_load_X9_refused : GoodIn wsX9_load wsX9_refused := goodIn_r _ [96, 97, 101, 102, 103, 104, 105, 106, 107, 108, 109, 110, 111, 112, 113, 114, 115, 116, 117, 118, 119] (by decide +kernel) (by decide +kernel)
set_option maxRecDepth 20000 in
theorem gX9_load_X9_refused : GoodIn wsX9_load (wsV RX9 156 RX9 yX9_refused wsX9_refused) := goodIn_app (goodIn_of _ (by decide +kernel)) ggX9_load_X9_refused
set_option maxRecDepth 20000 in
theorem ggX9_load_X9_copyState : GoodIn wsX9_load wsX9_copyState := goodIn_r _ [100] (by decide +kernel) (by decide +kernel)
set_option maxRecDepth 20000 in
theorem gX9_load_X9_copyState : GoodIn wsX9_load (va_wsS RX9 220 yX9_copyState wsX9_copyState) := goodIn_app (goodIn_of _ (by decide +kernel)) ggX9_load_X9_copyState
theorem dX9_load_0 : decode cX9_load 0 = .ok (.aload_n 0, 1) := by decide +kernel
theorem dX9_load_1 : decode cX9_load 1 = .ok (.aload_n 0, 1) := by decide +kernel
theorem dX9_load_2 : decode cX9_load 2 = .ok (.aload_n 0, 1) := by decide +kernel
theorem dX9_load_3 : decode cX9_load 3 = .ok (.getfield 16, 3) := by decide +kernel
theorem dX9_load_6 : decode cX9_load 6 = .ok (.invokevirtual 217, 3) := by decide +kernel
theorem dX9_load_9 : decode cX9_load 9 = .ok (.iconst (-1), 1) := by decide +kernel
theorem dX9_load_10 : decode cX9_load 10 = .ok (.if_icmp .ne 7, 3) := by decide +kernel
theorem dX9_load_13 : decode cX9_load 13 = .ok (.iconst 0, 1) := by decide +kernel
theorem dX9_load_14 : decode cX9_load 14 = .ok (.goto 4, 3) := by decide +kernel
theorem dX9_load_17 : decode cX9_load 17 = .ok (.iconst 1, 1) := by decide +kernel
theorem dX9_load_18 : decode cX9_load 18 = .ok (.invokevirtual 156, 3) := by decide +kernel
theorem dX9_load_21 : decode cX9_load 21 = .ok (.ifCond .eq 5, 3) := by decide +kernel
theorem dX9_load_24 : decode cX9_load 24 = .ok (.iconst 0, 1) := by decide +kernel
theorem dX9_load_25 : decode cX9_load 25 = .ok (.ireturn, 1) := by decide +kernel
theorem dX9_load_26 : decode cX9_load 26 = .ok (.aload_n 0, 1) := by decide +kernel
theorem dX9_load_27 : decode cX9_load 27 = .ok (.getfield 16, 3) := by decide +kernel
theorem dX9_load_30 : decode cX9_load 30 = .ok (.iconst 0, 1) := by decide +kernel
theorem dX9_load_31 : decode cX9_load 31 = .ok (.aload_n 0, 1) := by decide +kernel
theorem dX9_load_32 : decode cX9_load 32 = .ok (.getfield 13, 3) := by decide +kernel
theorem dX9_load_35 : decode cX9_load 35 = .ok (.iconst 0, 1) := by decide +kernel
theorem dX9_load_36 : decode cX9_load 36 = .ok (.invokestatic 220, 3) := by decide +kernel
theorem dX9_load_39 : decode cX9_load 39 = .ok (.aload_n 0, 1) := by decide +kernel
theorem dX9_load_40 : decode cX9_load 40 = .ok (.iconst 0, 1) := by decide +kernel
theorem dX9_load_41 : decode cX9_load 41 = .ok (.putfield 224, 3) := by decide +kernel
theorem dX9_load_44 : decode cX9_load 44 = .ok (.aload_n 0, 1) := by decide +kernel
theorem dX9_load_45 : decode cX9_load 45 = .ok (.getfield 28, 3) := by decide +kernel
theorem dX9_load_48 : decode cX9_load 48 = .ok (.iconst 0, 1) := by decide +kernel
theorem dX9_load_49 : decode cX9_load 49 = .ok (.iconst 0, 1) := by decide +kernel
theorem dX9_load_50 : decode cX9_load 50 = .ok (.bastore, 1) := by decide +kernel
theorem dX9_load_51 : decode cX9_load 51 = .ok (.aload_n 0, 1) := by decide +kernel
theorem dX9_load_52 : decode cX9_load 52 = .ok (.getfield 28, 3) := by decide +kernel
theorem dX9_load_55 : decode cX9_load 55 = .ok (.iconst 1, 1) := by decide +kernel
theorem dX9_load_56 : decode cX9_load 56 = .ok (.iconst 0, 1) := by decide +kernel
theorem dX9_load_57 : decode cX9_load 57 = .ok (.bastore, 1) := by decide +kernel
theorem dX9_load_58 : decode cX9_load 58 = .ok (.aload_n 0, 1) := by decide +kernel
theorem dX9_load_59 : decode cX9_load 59 = .ok (.getfield 176, 3) := by decide +kernel
theorem dX9_load_62 : decode cX9_load 62 = .ok (.ireturn, 1) := by decide +kernel
set_option maxRecDepth 20000 in
theorem ggX9_noCell_X9_isCell : GoodIn wsX9_noCell wsX9_isCell := goodIn_r _ [4, 5, 6, 7, 3, 8] (by decide +kernel) (by decide +kernel)
set_option maxRecDepth 20000 in
theorem gX9_noCell_X9_isCell : GoodIn wsX9_noCell (va_wsS RX9 227 yX9_isCell wsX9_isCell) := goodIn_app (goodIn_of _ (by decide +kernel)) ggX9_noCell_X9_isCell
set_option maxRecDepth 20000 in
theorem ggX9_noCell_X9_refused : GoodIn wsX9_noCell wsX9_refused := goodIn_r _ [12, 13, 14, 15, 16, 17, 18, 19, 20, 21, 22, 23, 24, 25, 26, 27, 28, 29, 30, 31, 32] (by decide +kernel) (by decide +kernel)
set_option maxRecDepth 20000 in
theorem gX9_noCell_X9_refused : GoodIn wsX9_noCell (wsV RX9 156 RX9 yX9_refused wsX9_refused) := goodIn_app (goodIn_of _ (by decide +kernel)) ggX9_noCell_X9_refused
theorem dX9_noCell_0 : decode cX9_noCell 0 = .ok (.aload_n 0, 1) := by decide +kernel
theorem dX9_noCell_1 : decode cX9_noCell 1 = .ok (.iload_n 1, 1) := by decide +kernel
theorem dX9_noCell_2 : decode cX9_noCell 2 = .ok (.invokestatic 227, 3) := by decide +kernel
theorem dX9_noCell_5 : decode cX9_noCell 5 = .ok (.ifCond .eq 7, 3) := by decide +kernel
theorem dX9_noCell_8 : decode cX9_noCell 8 = .ok (.iconst 0, 1) := by decide +kernel
theorem dX9_noCell_9 : decode cX9_noCell 9 = .ok (.goto 4, 3) := by decide +kernel
theorem dX9_noCell_12 : decode cX9_noCell 12 = .ok (.iconst 1, 1) := by decide +kernel
theorem dX9_noCell_13 : decode cX9_noCell 13 = .ok (.invokevirtual 156, 3) := by decide +kernel
theorem dX9_noCell_16 : decode cX9_noCell 16 = .ok (.ireturn, 1) := by decide +kernel
set_option maxRecDepth 20000 in
theorem ggX9_noRobot_X9_isRobot : GoodIn wsX9_noRobot wsX9_isRobot := goodIn_r _ [4, 5, 6, 3, 7] (by decide +kernel) (by decide +kernel)
set_option maxRecDepth 20000 in
theorem gX9_noRobot_X9_isRobot : GoodIn wsX9_noRobot (va_wsS RX9 230 yX9_isRobot wsX9_isRobot) := goodIn_app (goodIn_of _ (by decide +kernel)) ggX9_noRobot_X9_isRobot
set_option maxRecDepth 20000 in
theorem ggX9_noRobot_X9_refused : GoodIn wsX9_noRobot wsX9_refused := goodIn_r _ [11, 12, 13, 14, 15, 16, 17, 18, 19, 20, 21, 22, 23, 24, 25, 26, 27, 28, 29, 30, 31] (by decide +kernel) (by decide +kernel)
set_option maxRecDepth 20000 in
theorem gX9_noRobot_X9_refused : GoodIn wsX9_noRobot (wsV RX9 156 RX9 yX9_refused wsX9_refused) := goodIn_app (goodIn_of _ (by decide +kernel)) ggX9_noRobot_X9_refused
theorem dX9_noRobot_0 : decode cX9_noRobot 0 = .ok (.aload_n 0, 1) := by decide +kernel
theorem dX9_noRobot_1 : decode cX9_noRobot 1 = .ok (.iload_n 1, 1) := by decide +kernel
theorem dX9_noRobot_2 : decode cX9_noRobot 2 = .ok (.invokestatic 230, 3) := by decide +kernel
theorem dX9_noRobot_5 : decode cX9_noRobot 5 = .ok (.ifCond .eq 7, 3) := by decide +kernel
theorem dX9_noRobot_8 : decode cX9_noRobot 8 = .ok (.iconst 0, 1) := by decide +kernel
theorem dX9_noRobot_9 : decode cX9_noRobot 9 = .ok (.goto 4, 3) := by decide +kernel
theorem dX9_noRobot_12 : decode cX9_noRobot 12 = .ok (.iconst 1, 1) := by decide +kernel
theorem dX9_noRobot_13 : decode cX9_noRobot 13 = .ok (.invokevirtual 156, 3) := by decide +kernel
theorem dX9_noRobot_16 : decode cX9_noRobot 16 = .ok (.ireturn, 1) := by decide +kernel
theorem dX9_told_0 : decode cX9_told 0 = .ok (.aload_n 0, 1) := by decide +kernel
theorem dX9_told_1 : decode cX9_told 1 = .ok (.iconst 0, 1) := by decide +kernel
theorem dX9_told_2 : decode cX9_told 2 = .ok (.putfield 54, 3) := by decide +kernel
theorem dX9_told_5 : decode cX9_told 5 = .ok (.iload_n 1, 1) := by decide +kernel
theorem dX9_told_6 : decode cX9_told 6 = .ok (.ireturn, 1) := by decide +kernel
set_option maxRecDepth 20000 in
theorem ggX9_kindOf_X9_noCell : GoodIn wsX9_kindOf wsX9_noCell := goodIn_r _ [6, 7, 8, 5, 9, 10, 11, 12, 13, 14, 15, 16, 17, 18, 19, 20, 21, 22, 23, 24, 25, 26, 27, 28, 29, 30, 31, 32, 33, 34, 35, 36, 37] (by decide +kernel) (by decide +kernel)
set_option maxRecDepth 20000 in
theorem gX9_kindOf_X9_noCell : GoodIn wsX9_kindOf (wsV RX9 233 RX9 yX9_noCell wsX9_noCell) := goodIn_app (goodIn_of _ (by decide +kernel)) ggX9_kindOf_X9_noCell
theorem dX9_kindOf_0 : decode cX9_kindOf 0 = .ok (.aload_n 0, 1) := by decide +kernel
theorem dX9_kindOf_1 : decode cX9_kindOf 1 = .ok (.iload_n 1, 1) := by decide +kernel
theorem dX9_kindOf_2 : decode cX9_kindOf 2 = .ok (.invokevirtual 233, 3) := by decide +kernel
theorem dX9_kindOf_5 : decode cX9_kindOf 5 = .ok (.ifCond .eq 7, 3) := by decide +kernel
theorem dX9_kindOf_8 : decode cX9_kindOf 8 = .ok (.iconst 0, 1) := by decide +kernel
theorem dX9_kindOf_9 : decode cX9_kindOf 9 = .ok (.goto 9, 3) := by decide +kernel
theorem dX9_kindOf_12 : decode cX9_kindOf 12 = .ok (.aload_n 0, 1) := by decide +kernel
theorem dX9_kindOf_13 : decode cX9_kindOf 13 = .ok (.getfield 13, 3) := by decide +kernel
theorem dX9_kindOf_16 : decode cX9_kindOf 16 = .ok (.iload_n 1, 1) := by decide +kernel
theorem dX9_kindOf_17 : decode cX9_kindOf 17 = .ok (.iaload, 1) := by decide +kernel
theorem dX9_kindOf_18 : decode cX9_kindOf 18 = .ok (.ireturn, 1) := by decide +kernel
set_option maxRecDepth 20000 in
theorem ggX9_hasCrate_X9_noCell : GoodIn wsX9_hasCrate wsX9_noCell := goodIn_r _ [6, 7, 8, 5, 9, 10, 11, 12, 13, 14, 15, 16, 17, 18, 19, 20, 21, 22, 23, 24, 25, 26, 27, 28, 29, 30, 31, 32, 33, 34, 35, 36, 37] (by decide +kernel) (by decide +kernel)
set_option maxRecDepth 20000 in
theorem gX9_hasCrate_X9_noCell : GoodIn wsX9_hasCrate (wsV RX9 233 RX9 yX9_noCell wsX9_noCell) := goodIn_app (goodIn_of _ (by decide +kernel)) ggX9_hasCrate_X9_noCell
theorem dX9_hasCrate_0 : decode cX9_hasCrate 0 = .ok (.aload_n 0, 1) := by decide +kernel
theorem dX9_hasCrate_1 : decode cX9_hasCrate 1 = .ok (.iload_n 1, 1) := by decide +kernel
theorem dX9_hasCrate_2 : decode cX9_hasCrate 2 = .ok (.invokevirtual 233, 3) := by decide +kernel
theorem dX9_hasCrate_5 : decode cX9_hasCrate 5 = .ok (.ifCond .ne 20, 3) := by decide +kernel
theorem dX9_hasCrate_8 : decode cX9_hasCrate 8 = .ok (.aload_n 0, 1) := by decide +kernel
theorem dX9_hasCrate_9 : decode cX9_hasCrate 9 = .ok (.getfield 13, 3) := by decide +kernel
theorem dX9_hasCrate_12 : decode cX9_hasCrate 12 = .ok (.bipush 36, 2) := by decide +kernel
theorem dX9_hasCrate_14 : decode cX9_hasCrate 14 = .ok (.iload_n 1, 1) := by decide +kernel
theorem dX9_hasCrate_15 : decode cX9_hasCrate 15 = .ok (.iadd, 1) := by decide +kernel
theorem dX9_hasCrate_16 : decode cX9_hasCrate 16 = .ok (.iaload, 1) := by decide +kernel
theorem dX9_hasCrate_17 : decode cX9_hasCrate 17 = .ok (.iconst 1, 1) := by decide +kernel
theorem dX9_hasCrate_18 : decode cX9_hasCrate 18 = .ok (.if_icmp .ne 7, 3) := by decide +kernel
theorem dX9_hasCrate_21 : decode cX9_hasCrate 21 = .ok (.iconst 1, 1) := by decide +kernel
theorem dX9_hasCrate_22 : decode cX9_hasCrate 22 = .ok (.goto 4, 3) := by decide +kernel
theorem dX9_hasCrate_25 : decode cX9_hasCrate 25 = .ok (.iconst 0, 1) := by decide +kernel
theorem dX9_hasCrate_26 : decode cX9_hasCrate 26 = .ok (.ireturn, 1) := by decide +kernel
set_option maxRecDepth 20000 in
theorem ggX9_cratesByCells_X9_cratesOn : GoodIn wsX9_cratesByCells wsX9_cratesOn := goodIn_r _ [5] (by decide +kernel) (by decide +kernel)
set_option maxRecDepth 20000 in
theorem gX9_cratesByCells_X9_cratesOn : GoodIn wsX9_cratesByCells (va_wsS RX9 148 yX9_cratesOn wsX9_cratesOn) := goodIn_app (goodIn_of _ (by decide +kernel)) ggX9_cratesByCells_X9_cratesOn
set_option maxRecDepth 20000 in
theorem ggX9_cratesByCells_X9_told : GoodIn wsX9_cratesByCells wsX9_told := goodIn_r _ [9, 10, 11, 12, 13, 14, 15, 16, 17, 18, 19, 20, 21, 22, 23, 24, 25, 26, 27, 28, 29] (by decide +kernel) (by decide +kernel)
set_option maxRecDepth 20000 in
theorem gX9_cratesByCells_X9_told : GoodIn wsX9_cratesByCells (wsV RX9 236 RX9 yX9_told wsX9_told) := goodIn_app (goodIn_of _ (by decide +kernel)) ggX9_cratesByCells_X9_told
theorem dX9_cratesByCells_0 : decode cX9_cratesByCells 0 = .ok (.aload_n 0, 1) := by decide +kernel
theorem dX9_cratesByCells_1 : decode cX9_cratesByCells 1 = .ok (.aload_n 0, 1) := by decide +kernel
theorem dX9_cratesByCells_2 : decode cX9_cratesByCells 2 = .ok (.getfield 13, 3) := by decide +kernel
theorem dX9_cratesByCells_5 : decode cX9_cratesByCells 5 = .ok (.invokestatic 148, 3) := by decide +kernel
theorem dX9_cratesByCells_8 : decode cX9_cratesByCells 8 = .ok (.invokevirtual 236, 3) := by decide +kernel
theorem dX9_cratesByCells_11 : decode cX9_cratesByCells 11 = .ok (.ireturn, 1) := by decide +kernel
set_option maxRecDepth 20000 in
theorem ggX9_cratesByAccounts_X9_cratesOn : GoodIn wsX9_cratesByAccounts wsX9_cratesOn := goodIn_r _ [5] (by decide +kernel) (by decide +kernel)
set_option maxRecDepth 20000 in
theorem gX9_cratesByAccounts_X9_cratesOn : GoodIn wsX9_cratesByAccounts (va_wsS RX9 148 yX9_cratesOn wsX9_cratesOn) := goodIn_app (goodIn_of _ (by decide +kernel)) ggX9_cratesByAccounts_X9_cratesOn
set_option maxRecDepth 20000 in
theorem ggX9_cratesByAccounts_X9_told : GoodIn wsX9_cratesByAccounts wsX9_told := goodIn_r _ [9, 10, 11, 12, 13, 14, 15, 16, 17, 18, 19, 20, 21, 22, 23, 24, 25, 26, 27, 28, 29] (by decide +kernel) (by decide +kernel)
set_option maxRecDepth 20000 in
theorem gX9_cratesByAccounts_X9_told : GoodIn wsX9_cratesByAccounts (wsV RX9 236 RX9 yX9_told wsX9_told) := goodIn_app (goodIn_of _ (by decide +kernel)) ggX9_cratesByAccounts_X9_told
theorem dX9_cratesByAccounts_0 : decode cX9_cratesByAccounts 0 = .ok (.aload_n 0, 1) := by decide +kernel
theorem dX9_cratesByAccounts_1 : decode cX9_cratesByAccounts 1 = .ok (.aload_n 0, 1) := by decide +kernel
theorem dX9_cratesByAccounts_2 : decode cX9_cratesByAccounts 2 = .ok (.getfield 13, 3) := by decide +kernel
theorem dX9_cratesByAccounts_5 : decode cX9_cratesByAccounts 5 = .ok (.invokestatic 148, 3) := by decide +kernel
theorem dX9_cratesByAccounts_8 : decode cX9_cratesByAccounts 8 = .ok (.invokevirtual 236, 3) := by decide +kernel
theorem dX9_cratesByAccounts_11 : decode cX9_cratesByAccounts 11 = .ok (.ireturn, 1) := by decide +kernel
set_option maxRecDepth 20000 in
theorem ggX9_lost_X9_told : GoodIn wsX9_lost wsX9_told := goodIn_r _ [6, 7, 8, 9, 10, 11, 12, 13, 14, 15, 16, 17, 18, 19, 20, 21, 22, 23, 24, 25, 26] (by decide +kernel) (by decide +kernel)
set_option maxRecDepth 20000 in
theorem gX9_lost_X9_told : GoodIn wsX9_lost (wsV RX9 236 RX9 yX9_told wsX9_told) := goodIn_app (goodIn_of _ (by decide +kernel)) ggX9_lost_X9_told
theorem dX9_lost_0 : decode cX9_lost 0 = .ok (.aload_n 0, 1) := by decide +kernel
theorem dX9_lost_1 : decode cX9_lost 1 = .ok (.aload_n 0, 1) := by decide +kernel
theorem dX9_lost_2 : decode cX9_lost 2 = .ok (.getfield 13, 3) := by decide +kernel
theorem dX9_lost_5 : decode cX9_lost 5 = .ok (.bipush 115, 2) := by decide +kernel
theorem dX9_lost_7 : decode cX9_lost 7 = .ok (.iaload, 1) := by decide +kernel
theorem dX9_lost_8 : decode cX9_lost 8 = .ok (.invokevirtual 236, 3) := by decide +kernel
theorem dX9_lost_11 : decode cX9_lost 11 = .ok (.ireturn, 1) := by decide +kernel
set_option maxRecDepth 20000 in
theorem ggX9_checkpoints_X9_told : GoodIn wsX9_checkpoints wsX9_told := goodIn_r _ [6, 7, 8, 9, 10, 11, 12, 13, 14, 15, 16, 17, 18, 19, 20, 21, 22, 23, 24, 25, 26] (by decide +kernel) (by decide +kernel)
set_option maxRecDepth 20000 in
theorem gX9_checkpoints_X9_told : GoodIn wsX9_checkpoints (wsV RX9 236 RX9 yX9_told wsX9_told) := goodIn_app (goodIn_of _ (by decide +kernel)) ggX9_checkpoints_X9_told
theorem dX9_checkpoints_0 : decode cX9_checkpoints 0 = .ok (.aload_n 0, 1) := by decide +kernel
theorem dX9_checkpoints_1 : decode cX9_checkpoints 1 = .ok (.aload_n 0, 1) := by decide +kernel
theorem dX9_checkpoints_2 : decode cX9_checkpoints 2 = .ok (.getfield 13, 3) := by decide +kernel
theorem dX9_checkpoints_5 : decode cX9_checkpoints 5 = .ok (.bipush 110, 2) := by decide +kernel
theorem dX9_checkpoints_7 : decode cX9_checkpoints 7 = .ok (.iaload, 1) := by decide +kernel
theorem dX9_checkpoints_8 : decode cX9_checkpoints 8 = .ok (.invokevirtual 236, 3) := by decide +kernel
theorem dX9_checkpoints_11 : decode cX9_checkpoints 11 = .ok (.ireturn, 1) := by decide +kernel
set_option maxRecDepth 20000 in
theorem ggX9_cellOfCheckpoint_X9_in : GoodIn wsX9_cellOfCheckpoint wsX9_in := goodIn_r _ [5] (by decide +kernel) (by decide +kernel)
set_option maxRecDepth 20000 in
theorem gX9_cellOfCheckpoint_X9_in : GoodIn wsX9_cellOfCheckpoint (va_wsS RX9 60 yX9_in wsX9_in) := goodIn_app (goodIn_of _ (by decide +kernel)) ggX9_cellOfCheckpoint_X9_in
set_option maxRecDepth 20000 in
theorem ggX9_cellOfCheckpoint_X9_refused : GoodIn wsX9_cellOfCheckpoint wsX9_refused := goodIn_r _ [9, 10, 11, 12, 13, 14, 15, 16, 17, 18, 19, 20, 21, 22, 23, 24, 25, 26, 27, 28, 29] (by decide +kernel) (by decide +kernel)
set_option maxRecDepth 20000 in
theorem gX9_cellOfCheckpoint_X9_refused : GoodIn wsX9_cellOfCheckpoint (wsV RX9 156 RX9 yX9_refused wsX9_refused) := goodIn_app (goodIn_of _ (by decide +kernel)) ggX9_cellOfCheckpoint_X9_refused
theorem dX9_cellOfCheckpoint_0 : decode cX9_cellOfCheckpoint 0 = .ok (.aload_n 0, 1) := by decide +kernel
theorem dX9_cellOfCheckpoint_1 : decode cX9_cellOfCheckpoint 1 = .ok (.iload_n 1, 1) := by decide +kernel
theorem dX9_cellOfCheckpoint_2 : decode cX9_cellOfCheckpoint 2 = .ok (.i2l, 1) := by decide +kernel
theorem dX9_cellOfCheckpoint_3 : decode cX9_cellOfCheckpoint 3 = .ok (.lconst 1, 1) := by decide +kernel
theorem dX9_cellOfCheckpoint_4 : decode cX9_cellOfCheckpoint 4 = .ok (.aload_n 0, 1) := by decide +kernel
theorem dX9_cellOfCheckpoint_5 : decode cX9_cellOfCheckpoint 5 = .ok (.getfield 13, 3) := by decide +kernel
theorem dX9_cellOfCheckpoint_8 : decode cX9_cellOfCheckpoint 8 = .ok (.bipush 110, 2) := by decide +kernel
theorem dX9_cellOfCheckpoint_10 : decode cX9_cellOfCheckpoint 10 = .ok (.iaload, 1) := by decide +kernel
theorem dX9_cellOfCheckpoint_11 : decode cX9_cellOfCheckpoint 11 = .ok (.i2l, 1) := by decide +kernel
theorem dX9_cellOfCheckpoint_12 : decode cX9_cellOfCheckpoint 12 = .ok (.invokestatic 60, 3) := by decide +kernel
theorem dX9_cellOfCheckpoint_15 : decode cX9_cellOfCheckpoint 15 = .ok (.ifCond .eq 7, 3) := by decide +kernel
theorem dX9_cellOfCheckpoint_18 : decode cX9_cellOfCheckpoint 18 = .ok (.iconst 0, 1) := by decide +kernel
theorem dX9_cellOfCheckpoint_19 : decode cX9_cellOfCheckpoint 19 = .ok (.goto 4, 3) := by decide +kernel
theorem dX9_cellOfCheckpoint_22 : decode cX9_cellOfCheckpoint 22 = .ok (.iconst 1, 1) := by decide +kernel
theorem dX9_cellOfCheckpoint_23 : decode cX9_cellOfCheckpoint 23 = .ok (.invokevirtual 156, 3) := by decide +kernel
theorem dX9_cellOfCheckpoint_26 : decode cX9_cellOfCheckpoint 26 = .ok (.ifCond .eq 7, 3) := by decide +kernel
theorem dX9_cellOfCheckpoint_29 : decode cX9_cellOfCheckpoint 29 = .ok (.iconst 0, 1) := by decide +kernel
theorem dX9_cellOfCheckpoint_30 : decode cX9_cellOfCheckpoint 30 = .ok (.goto 12, 3) := by decide +kernel
theorem dX9_cellOfCheckpoint_33 : decode cX9_cellOfCheckpoint 33 = .ok (.aload_n 0, 1) := by decide +kernel
theorem dX9_cellOfCheckpoint_34 : decode cX9_cellOfCheckpoint 34 = .ok (.getfield 13, 3) := by decide +kernel
theorem dX9_cellOfCheckpoint_37 : decode cX9_cellOfCheckpoint 37 = .ok (.bipush 110, 2) := by decide +kernel
theorem dX9_cellOfCheckpoint_39 : decode cX9_cellOfCheckpoint 39 = .ok (.iload_n 1, 1) := by decide +kernel
theorem dX9_cellOfCheckpoint_40 : decode cX9_cellOfCheckpoint 40 = .ok (.iadd, 1) := by decide +kernel
theorem dX9_cellOfCheckpoint_41 : decode cX9_cellOfCheckpoint 41 = .ok (.iaload, 1) := by decide +kernel
theorem dX9_cellOfCheckpoint_42 : decode cX9_cellOfCheckpoint 42 = .ok (.ireturn, 1) := by decide +kernel
set_option maxRecDepth 20000 in
theorem ggX9_ofRobot_X9_noRobot : GoodIn wsX9_ofRobot wsX9_noRobot := goodIn_r _ [6, 7, 8, 5, 9, 10, 11, 12, 13, 14, 15, 16, 17, 21, 22, 23, 24, 25, 26, 27, 28, 29, 30, 31, 32, 33, 34, 35, 36, 37, 38, 39] (by decide +kernel) (by decide +kernel)
set_option maxRecDepth 20000 in
theorem gX9_ofRobot_X9_noRobot : GoodIn wsX9_ofRobot (wsV RX9 239 RX9 yX9_noRobot wsX9_noRobot) := goodIn_app (goodIn_of _ (by decide +kernel)) ggX9_ofRobot_X9_noRobot
set_option maxRecDepth 20000 in
theorem ggX9_ofRobot_X9_of : GoodIn wsX9_ofRobot wsX9_of := goodIn_r _ [20] (by decide +kernel) (by decide +kernel)
set_option maxRecDepth 20000 in
theorem gX9_ofRobot_X9_of : GoodIn wsX9_ofRobot (va_wsS RX9 64 yX9_of wsX9_of) := goodIn_app (goodIn_of _ (by decide +kernel)) ggX9_ofRobot_X9_of
theorem dX9_ofRobot_0 : decode cX9_ofRobot 0 = .ok (.aload_n 0, 1) := by decide +kernel
theorem dX9_ofRobot_1 : decode cX9_ofRobot 1 = .ok (.iload_n 1, 1) := by decide +kernel
theorem dX9_ofRobot_2 : decode cX9_ofRobot 2 = .ok (.invokevirtual 239, 3) := by decide +kernel
theorem dX9_ofRobot_5 : decode cX9_ofRobot 5 = .ok (.ifCond .eq 7, 3) := by decide +kernel
theorem dX9_ofRobot_8 : decode cX9_ofRobot 8 = .ok (.iconst 0, 1) := by decide +kernel
theorem dX9_ofRobot_9 : decode cX9_ofRobot 9 = .ok (.goto 12, 3) := by decide +kernel
theorem dX9_ofRobot_12 : decode cX9_ofRobot 12 = .ok (.aload_n 0, 1) := by decide +kernel
theorem dX9_ofRobot_13 : decode cX9_ofRobot 13 = .ok (.getfield 13, 3) := by decide +kernel
theorem dX9_ofRobot_16 : decode cX9_ofRobot 16 = .ok (.iload_n 1, 1) := by decide +kernel
theorem dX9_ofRobot_17 : decode cX9_ofRobot 17 = .ok (.iload_n 2, 1) := by decide +kernel
theorem dX9_ofRobot_18 : decode cX9_ofRobot 18 = .ok (.invokestatic 64, 3) := by decide +kernel
theorem dX9_ofRobot_21 : decode cX9_ofRobot 21 = .ok (.ireturn, 1) := by decide +kernel
set_option maxRecDepth 20000 in
theorem ggX9_cellOf_X9_ofRobot : GoodIn wsX9_cellOf wsX9_ofRobot := goodIn_r _ [5, 6, 7, 8, 9, 4, 10, 11, 12, 13, 14, 15, 16, 17, 18, 19, 20, 21, 22, 23, 24, 25, 26, 27, 28, 29, 30, 31, 32, 33, 34, 35, 36, 37, 38, 39, 40, 41, 42, 43] (by decide +kernel) (by decide +kernel)
set_option maxRecDepth 20000 in
theorem gX9_cellOf_X9_ofRobot : GoodIn wsX9_cellOf (wsV RX9 242 RX9 yX9_ofRobot wsX9_ofRobot) := goodIn_app (goodIn_of _ (by decide +kernel)) ggX9_cellOf_X9_ofRobot
theorem dX9_cellOf_0 : decode cX9_cellOf 0 = .ok (.aload_n 0, 1) := by decide +kernel
theorem dX9_cellOf_1 : decode cX9_cellOf 1 = .ok (.iload_n 1, 1) := by decide +kernel
theorem dX9_cellOf_2 : decode cX9_cellOf 2 = .ok (.iconst 0, 1) := by decide +kernel
theorem dX9_cellOf_3 : decode cX9_cellOf 3 = .ok (.invokevirtual 242, 3) := by decide +kernel
theorem dX9_cellOf_6 : decode cX9_cellOf 6 = .ok (.ireturn, 1) := by decide +kernel
set_option maxRecDepth 20000 in
theorem ggX9_facingOf_X9_ofRobot : GoodIn wsX9_facingOf wsX9_ofRobot := goodIn_r _ [5, 6, 7, 8, 9, 4, 10, 11, 12, 13, 14, 15, 16, 17, 18, 19, 20, 21, 22, 23, 24, 25, 26, 27, 28, 29, 30, 31, 32, 33, 34, 35, 36, 37, 38, 39, 40, 41, 42, 43] (by decide +kernel) (by decide +kernel)
set_option maxRecDepth 20000 in
theorem gX9_facingOf_X9_ofRobot : GoodIn wsX9_facingOf (wsV RX9 242 RX9 yX9_ofRobot wsX9_ofRobot) := goodIn_app (goodIn_of _ (by decide +kernel)) ggX9_facingOf_X9_ofRobot
theorem dX9_facingOf_0 : decode cX9_facingOf 0 = .ok (.aload_n 0, 1) := by decide +kernel
theorem dX9_facingOf_1 : decode cX9_facingOf 1 = .ok (.iload_n 1, 1) := by decide +kernel
theorem dX9_facingOf_2 : decode cX9_facingOf 2 = .ok (.iconst 1, 1) := by decide +kernel
theorem dX9_facingOf_3 : decode cX9_facingOf 3 = .ok (.invokevirtual 242, 3) := by decide +kernel
theorem dX9_facingOf_6 : decode cX9_facingOf 6 = .ok (.ireturn, 1) := by decide +kernel
set_option maxRecDepth 20000 in
theorem ggX9_nextOf_X9_ofRobot : GoodIn wsX9_nextOf wsX9_ofRobot := goodIn_r _ [5, 6, 7, 8, 9, 4, 10, 11, 12, 13, 14, 15, 16, 17, 18, 19, 20, 21, 22, 23, 24, 25, 26, 27, 28, 29, 30, 31, 32, 33, 34, 35, 36, 37, 38, 39, 40, 41, 42, 43] (by decide +kernel) (by decide +kernel)
set_option maxRecDepth 20000 in
theorem gX9_nextOf_X9_ofRobot : GoodIn wsX9_nextOf (wsV RX9 242 RX9 yX9_ofRobot wsX9_ofRobot) := goodIn_app (goodIn_of _ (by decide +kernel)) ggX9_nextOf_X9_ofRobot
theorem dX9_nextOf_0 : decode cX9_nextOf 0 = .ok (.aload_n 0, 1) := by decide +kernel
theorem dX9_nextOf_1 : decode cX9_nextOf 1 = .ok (.iload_n 1, 1) := by decide +kernel
theorem dX9_nextOf_2 : decode cX9_nextOf 2 = .ok (.iconst 2, 1) := by decide +kernel
theorem dX9_nextOf_3 : decode cX9_nextOf 3 = .ok (.invokevirtual 242, 3) := by decide +kernel
theorem dX9_nextOf_6 : decode cX9_nextOf 6 = .ok (.ireturn, 1) := by decide +kernel
set_option maxRecDepth 20000 in
theorem ggX9_isHome_X9_noRobot : GoodIn wsX9_isHome wsX9_noRobot := goodIn_r _ [6, 7, 8, 5, 9, 10, 11, 12, 13, 14, 15, 16, 17, 21, 22, 23, 24, 25, 26, 27, 28, 29, 30, 31, 32, 33, 34, 35, 36, 37, 38, 39] (by decide +kernel) (by decide +kernel)
set_option maxRecDepth 20000 in
theorem gX9_isHome_X9_noRobot : GoodIn wsX9_isHome (wsV RX9 239 RX9 yX9_noRobot wsX9_noRobot) := goodIn_app (goodIn_of _ (by decide +kernel)) ggX9_isHome_X9_noRobot
set_option maxRecDepth 20000 in
theorem ggX9_isHome_X9_of : GoodIn wsX9_isHome wsX9_of := goodIn_r _ [20] (by decide +kernel) (by decide +kernel)
set_option maxRecDepth 20000 in
theorem gX9_isHome_X9_of : GoodIn wsX9_isHome (va_wsS RX9 64 yX9_of wsX9_of) := goodIn_app (goodIn_of _ (by decide +kernel)) ggX9_isHome_X9_of
theorem dX9_isHome_0 : decode cX9_isHome 0 = .ok (.aload_n 0, 1) := by decide +kernel
theorem dX9_isHome_1 : decode cX9_isHome 1 = .ok (.iload_n 1, 1) := by decide +kernel
theorem dX9_isHome_2 : decode cX9_isHome 2 = .ok (.invokevirtual 239, 3) := by decide +kernel
theorem dX9_isHome_5 : decode cX9_isHome 5 = .ok (.ifCond .ne 36, 3) := by decide +kernel
theorem dX9_isHome_8 : decode cX9_isHome 8 = .ok (.aload_n 0, 1) := by decide +kernel
theorem dX9_isHome_9 : decode cX9_isHome 9 = .ok (.getfield 13, 3) := by decide +kernel
theorem dX9_isHome_12 : decode cX9_isHome 12 = .ok (.bipush 110, 2) := by decide +kernel
theorem dX9_isHome_14 : decode cX9_isHome 14 = .ok (.iaload, 1) := by decide +kernel
theorem dX9_isHome_15 : decode cX9_isHome 15 = .ok (.ifCond .le 26, 3) := by decide +kernel
theorem dX9_isHome_18 : decode cX9_isHome 18 = .ok (.aload_n 0, 1) := by decide +kernel
theorem dX9_isHome_19 : decode cX9_isHome 19 = .ok (.getfield 13, 3) := by decide +kernel
theorem dX9_isHome_22 : decode cX9_isHome 22 = .ok (.iload_n 1, 1) := by decide +kernel
theorem dX9_isHome_23 : decode cX9_isHome 23 = .ok (.iconst 2, 1) := by decide +kernel
theorem dX9_isHome_24 : decode cX9_isHome 24 = .ok (.invokestatic 64, 3) := by decide +kernel
theorem dX9_isHome_27 : decode cX9_isHome 27 = .ok (.aload_n 0, 1) := by decide +kernel
theorem dX9_isHome_28 : decode cX9_isHome 28 = .ok (.getfield 13, 3) := by decide +kernel
theorem dX9_isHome_31 : decode cX9_isHome 31 = .ok (.bipush 110, 2) := by decide +kernel
theorem dX9_isHome_33 : decode cX9_isHome 33 = .ok (.iaload, 1) := by decide +kernel
theorem dX9_isHome_34 : decode cX9_isHome 34 = .ok (.if_icmp .le 7, 3) := by decide +kernel
theorem dX9_isHome_37 : decode cX9_isHome 37 = .ok (.iconst 1, 1) := by decide +kernel
theorem dX9_isHome_38 : decode cX9_isHome 38 = .ok (.goto 4, 3) := by decide +kernel
theorem dX9_isHome_41 : decode cX9_isHome 41 = .ok (.iconst 0, 1) := by decide +kernel
theorem dX9_isHome_42 : decode cX9_isHome 42 = .ok (.ireturn, 1) := by decide +kernel
set_option maxRecDepth 20000 in
theorem ggX9_movesOf_X9_ofRobot : GoodIn wsX9_movesOf wsX9_ofRobot := goodIn_r _ [5, 6, 7, 8, 9, 4, 10, 11, 12, 13, 14, 15, 16, 17, 18, 19, 20, 21, 22, 23, 24, 25, 26, 27, 28, 29, 30, 31, 32, 33, 34, 35, 36, 37, 38, 39, 40, 41, 42, 43] (by decide +kernel) (by decide +kernel)
set_option maxRecDepth 20000 in
theorem gX9_movesOf_X9_ofRobot : GoodIn wsX9_movesOf (wsV RX9 242 RX9 yX9_ofRobot wsX9_ofRobot) := goodIn_app (goodIn_of _ (by decide +kernel)) ggX9_movesOf_X9_ofRobot
theorem dX9_movesOf_0 : decode cX9_movesOf 0 = .ok (.aload_n 0, 1) := by decide +kernel
theorem dX9_movesOf_1 : decode cX9_movesOf 1 = .ok (.iload_n 1, 1) := by decide +kernel
theorem dX9_movesOf_2 : decode cX9_movesOf 2 = .ok (.iconst 3, 1) := by decide +kernel
theorem dX9_movesOf_3 : decode cX9_movesOf 3 = .ok (.invokevirtual 242, 3) := by decide +kernel
theorem dX9_movesOf_6 : decode cX9_movesOf 6 = .ok (.ireturn, 1) := by decide +kernel
set_option maxRecDepth 20000 in
theorem ggX9_bumpsOf_X9_ofRobot : GoodIn wsX9_bumpsOf wsX9_ofRobot := goodIn_r _ [5, 6, 7, 8, 9, 4, 10, 11, 12, 13, 14, 15, 16, 17, 18, 19, 20, 21, 22, 23, 24, 25, 26, 27, 28, 29, 30, 31, 32, 33, 34, 35, 36, 37, 38, 39, 40, 41, 42, 43] (by decide +kernel) (by decide +kernel)
set_option maxRecDepth 20000 in
theorem gX9_bumpsOf_X9_ofRobot : GoodIn wsX9_bumpsOf (wsV RX9 242 RX9 yX9_ofRobot wsX9_ofRobot) := goodIn_app (goodIn_of _ (by decide +kernel)) ggX9_bumpsOf_X9_ofRobot
theorem dX9_bumpsOf_0 : decode cX9_bumpsOf 0 = .ok (.aload_n 0, 1) := by decide +kernel
theorem dX9_bumpsOf_1 : decode cX9_bumpsOf 1 = .ok (.iload_n 1, 1) := by decide +kernel
theorem dX9_bumpsOf_2 : decode cX9_bumpsOf 2 = .ok (.iconst 4, 1) := by decide +kernel
theorem dX9_bumpsOf_3 : decode cX9_bumpsOf 3 = .ok (.invokevirtual 242, 3) := by decide +kernel
theorem dX9_bumpsOf_6 : decode cX9_bumpsOf 6 = .ok (.ireturn, 1) := by decide +kernel
set_option maxRecDepth 20000 in
theorem ggX9_pushesOf_X9_ofRobot : GoodIn wsX9_pushesOf wsX9_ofRobot := goodIn_r _ [5, 6, 7, 8, 9, 4, 10, 11, 12, 13, 14, 15, 16, 17, 18, 19, 20, 21, 22, 23, 24, 25, 26, 27, 28, 29, 30, 31, 32, 33, 34, 35, 36, 37, 38, 39, 40, 41, 42, 43] (by decide +kernel) (by decide +kernel)
set_option maxRecDepth 20000 in
theorem gX9_pushesOf_X9_ofRobot : GoodIn wsX9_pushesOf (wsV RX9 242 RX9 yX9_ofRobot wsX9_ofRobot) := goodIn_app (goodIn_of _ (by decide +kernel)) ggX9_pushesOf_X9_ofRobot
theorem dX9_pushesOf_0 : decode cX9_pushesOf 0 = .ok (.aload_n 0, 1) := by decide +kernel
theorem dX9_pushesOf_1 : decode cX9_pushesOf 1 = .ok (.iload_n 1, 1) := by decide +kernel
theorem dX9_pushesOf_2 : decode cX9_pushesOf 2 = .ok (.iconst 5, 1) := by decide +kernel
theorem dX9_pushesOf_3 : decode cX9_pushesOf 3 = .ok (.invokevirtual 242, 3) := by decide +kernel
theorem dX9_pushesOf_6 : decode cX9_pushesOf 6 = .ok (.ireturn, 1) := by decide +kernel
set_option maxRecDepth 20000 in
theorem ggX9_fallsOf_X9_ofRobot : GoodIn wsX9_fallsOf wsX9_ofRobot := goodIn_r _ [5, 6, 7, 8, 9, 4, 10, 11, 12, 13, 14, 15, 16, 17, 18, 19, 20, 21, 22, 23, 24, 25, 26, 27, 28, 29, 30, 31, 32, 33, 34, 35, 36, 37, 38, 39, 40, 41, 42, 43] (by decide +kernel) (by decide +kernel)
set_option maxRecDepth 20000 in
theorem gX9_fallsOf_X9_ofRobot : GoodIn wsX9_fallsOf (wsV RX9 242 RX9 yX9_ofRobot wsX9_ofRobot) := goodIn_app (goodIn_of _ (by decide +kernel)) ggX9_fallsOf_X9_ofRobot
theorem dX9_fallsOf_0 : decode cX9_fallsOf 0 = .ok (.aload_n 0, 1) := by decide +kernel
theorem dX9_fallsOf_1 : decode cX9_fallsOf 1 = .ok (.iload_n 1, 1) := by decide +kernel
theorem dX9_fallsOf_2 : decode cX9_fallsOf 2 = .ok (.bipush 6, 2) := by decide +kernel
theorem dX9_fallsOf_4 : decode cX9_fallsOf 4 = .ok (.invokevirtual 242, 3) := by decide +kernel
theorem dX9_fallsOf_7 : decode cX9_fallsOf 7 = .ok (.ireturn, 1) := by decide +kernel
set_option maxRecDepth 20000 in
theorem ggX9_steps_X9_told : GoodIn wsX9_steps wsX9_told := goodIn_r _ [6, 7, 8, 9, 10, 11, 12, 13, 14, 15, 16, 17, 18, 19, 20, 21, 22, 23, 24, 25, 26] (by decide +kernel) (by decide +kernel)
set_option maxRecDepth 20000 in
theorem gX9_steps_X9_told : GoodIn wsX9_steps (wsV RX9 236 RX9 yX9_told wsX9_told) := goodIn_app (goodIn_of _ (by decide +kernel)) ggX9_steps_X9_told
theorem dX9_steps_0 : decode cX9_steps 0 = .ok (.aload_n 0, 1) := by decide +kernel
theorem dX9_steps_1 : decode cX9_steps 1 = .ok (.aload_n 0, 1) := by decide +kernel
theorem dX9_steps_2 : decode cX9_steps 2 = .ok (.getfield 13, 3) := by decide +kernel
theorem dX9_steps_5 : decode cX9_steps 5 = .ok (.bipush 116, 2) := by decide +kernel
theorem dX9_steps_7 : decode cX9_steps 7 = .ok (.iaload, 1) := by decide +kernel
theorem dX9_steps_8 : decode cX9_steps 8 = .ok (.invokevirtual 236, 3) := by decide +kernel
theorem dX9_steps_11 : decode cX9_steps 11 = .ok (.ireturn, 1) := by decide +kernel
set_option maxRecDepth 20000 in
theorem ggX9_lengthOf_X9_ofRobot : GoodIn wsX9_lengthOf wsX9_ofRobot := goodIn_r _ [5, 6, 7, 8, 9, 4, 10, 11, 12, 13, 14, 15, 16, 17, 18, 19, 20, 21, 22, 23, 24, 25, 26, 27, 28, 29, 30, 31, 32, 33, 34, 35, 36, 37, 38, 39, 40, 41, 42, 43] (by decide +kernel) (by decide +kernel)
set_option maxRecDepth 20000 in
theorem gX9_lengthOf_X9_ofRobot : GoodIn wsX9_lengthOf (wsV RX9 242 RX9 yX9_ofRobot wsX9_ofRobot) := goodIn_app (goodIn_of _ (by decide +kernel)) ggX9_lengthOf_X9_ofRobot
theorem dX9_lengthOf_0 : decode cX9_lengthOf 0 = .ok (.aload_n 0, 1) := by decide +kernel
theorem dX9_lengthOf_1 : decode cX9_lengthOf 1 = .ok (.iload_n 1, 1) := by decide +kernel
theorem dX9_lengthOf_2 : decode cX9_lengthOf 2 = .ok (.bipush 8, 2) := by decide +kernel
theorem dX9_lengthOf_4 : decode cX9_lengthOf 4 = .ok (.invokevirtual 242, 3) := by decide +kernel
theorem dX9_lengthOf_7 : decode cX9_lengthOf 7 = .ok (.ireturn, 1) := by decide +kernel
set_option maxRecDepth 20000 in
theorem ggX9_instructionAt_X9_isRobot : GoodIn wsX9_instructionAt wsX9_isRobot := goodIn_r _ [5, 6, 7, 4, 8] (by decide +kernel) (by decide +kernel)
set_option maxRecDepth 20000 in
theorem gX9_instructionAt_X9_isRobot : GoodIn wsX9_instructionAt (va_wsS RX9 230 yX9_isRobot wsX9_isRobot) := goodIn_app (goodIn_of _ (by decide +kernel)) ggX9_instructionAt_X9_isRobot
set_option maxRecDepth 20000 in
theorem ggX9_instructionAt_X9_of : GoodIn wsX9_instructionAt wsX9_of := goodIn_r _ [11] (by decide +kernel) (by decide +kernel)
set_option maxRecDepth 20000 in
theorem gX9_instructionAt_X9_of : GoodIn wsX9_instructionAt (va_wsS RX9 64 yX9_of wsX9_of) := goodIn_app (goodIn_of _ (by decide +kernel)) ggX9_instructionAt_X9_of
set_option maxRecDepth 20000 in
theorem ggX9_instructionAt_X9_in : GoodIn wsX9_instructionAt wsX9_in := goodIn_r _ [8] (by decide +kernel) (by decide +kernel)
set_option maxRecDepth 20000 in
theorem gX9_instructionAt_X9_in : GoodIn wsX9_instructionAt (va_wsS RX9 60 yX9_in wsX9_in) := goodIn_app (goodIn_of _ (by decide +kernel)) ggX9_instructionAt_X9_in
set_option maxRecDepth 20000 in
theorem ggX9_instructionAt_X9_refused : GoodIn wsX9_instructionAt wsX9_refused := goodIn_r _ [15, 16, 17, 18, 19, 20, 21, 22, 23, 24, 25, 26, 27, 28, 29, 30, 31, 32, 33, 34, 35] (by decide +kernel) (by decide +kernel)
set_option maxRecDepth 20000 in
theorem gX9_instructionAt_X9_refused : GoodIn wsX9_instructionAt (wsV RX9 156 RX9 yX9_refused wsX9_refused) := goodIn_app (goodIn_of _ (by decide +kernel)) ggX9_instructionAt_X9_refused
theorem dX9_instructionAt_0 : decode cX9_instructionAt 0 = .ok (.aload_n 0, 1) := by decide +kernel
theorem dX9_instructionAt_1 : decode cX9_instructionAt 1 = .ok (.iload_n 1, 1) := by decide +kernel
theorem dX9_instructionAt_2 : decode cX9_instructionAt 2 = .ok (.invokestatic 230, 3) := by decide +kernel
theorem dX9_instructionAt_5 : decode cX9_instructionAt 5 = .ok (.ifCond .eq 29, 3) := by decide +kernel
theorem dX9_instructionAt_8 : decode cX9_instructionAt 8 = .ok (.iload_n 2, 1) := by decide +kernel
theorem dX9_instructionAt_9 : decode cX9_instructionAt 9 = .ok (.i2l, 1) := by decide +kernel
theorem dX9_instructionAt_10 : decode cX9_instructionAt 10 = .ok (.lconst 0, 1) := by decide +kernel
theorem dX9_instructionAt_11 : decode cX9_instructionAt 11 = .ok (.aload_n 0, 1) := by decide +kernel
theorem dX9_instructionAt_12 : decode cX9_instructionAt 12 = .ok (.getfield 13, 3) := by decide +kernel
theorem dX9_instructionAt_15 : decode cX9_instructionAt 15 = .ok (.iload_n 1, 1) := by decide +kernel
theorem dX9_instructionAt_16 : decode cX9_instructionAt 16 = .ok (.bipush 8, 2) := by decide +kernel
theorem dX9_instructionAt_18 : decode cX9_instructionAt 18 = .ok (.invokestatic 64, 3) := by decide +kernel
theorem dX9_instructionAt_21 : decode cX9_instructionAt 21 = .ok (.iconst 1, 1) := by decide +kernel
theorem dX9_instructionAt_22 : decode cX9_instructionAt 22 = .ok (.isub, 1) := by decide +kernel
theorem dX9_instructionAt_23 : decode cX9_instructionAt 23 = .ok (.i2l, 1) := by decide +kernel
theorem dX9_instructionAt_24 : decode cX9_instructionAt 24 = .ok (.invokestatic 60, 3) := by decide +kernel
theorem dX9_instructionAt_27 : decode cX9_instructionAt 27 = .ok (.ifCond .eq 7, 3) := by decide +kernel
theorem dX9_instructionAt_30 : decode cX9_instructionAt 30 = .ok (.iconst 0, 1) := by decide +kernel
theorem dX9_instructionAt_31 : decode cX9_instructionAt 31 = .ok (.goto 4, 3) := by decide +kernel
theorem dX9_instructionAt_34 : decode cX9_instructionAt 34 = .ok (.iconst 1, 1) := by decide +kernel
theorem dX9_instructionAt_35 : decode cX9_instructionAt 35 = .ok (.invokevirtual 156, 3) := by decide +kernel
theorem dX9_instructionAt_38 : decode cX9_instructionAt 38 = .ok (.ifCond .eq 7, 3) := by decide +kernel
theorem dX9_instructionAt_41 : decode cX9_instructionAt 41 = .ok (.iconst 0, 1) := by decide +kernel
theorem dX9_instructionAt_42 : decode cX9_instructionAt 42 = .ok (.goto 17, 3) := by decide +kernel
theorem dX9_instructionAt_45 : decode cX9_instructionAt 45 = .ok (.aload_n 0, 1) := by decide +kernel
theorem dX9_instructionAt_46 : decode cX9_instructionAt 46 = .ok (.getfield 13, 3) := by decide +kernel
theorem dX9_instructionAt_49 : decode cX9_instructionAt 49 = .ok (.bipush 90, 2) := by decide +kernel
theorem dX9_instructionAt_51 : decode cX9_instructionAt 51 = .ok (.bipush 10, 2) := by decide +kernel
theorem dX9_instructionAt_53 : decode cX9_instructionAt 53 = .ok (.iload_n 1, 1) := by decide +kernel
theorem dX9_instructionAt_54 : decode cX9_instructionAt 54 = .ok (.imul, 1) := by decide +kernel
theorem dX9_instructionAt_55 : decode cX9_instructionAt 55 = .ok (.iadd, 1) := by decide +kernel
theorem dX9_instructionAt_56 : decode cX9_instructionAt 56 = .ok (.iload_n 2, 1) := by decide +kernel
theorem dX9_instructionAt_57 : decode cX9_instructionAt 57 = .ok (.iadd, 1) := by decide +kernel
theorem dX9_instructionAt_58 : decode cX9_instructionAt 58 = .ok (.iaload, 1) := by decide +kernel
theorem dX9_instructionAt_59 : decode cX9_instructionAt 59 = .ok (.ireturn, 1) := by decide +kernel
set_option maxRecDepth 20000 in
theorem ggX9_placeOf_X9_ofRobot : GoodIn wsX9_placeOf wsX9_ofRobot := goodIn_r _ [5, 6, 7, 8, 9, 4, 10, 11, 12, 13, 14, 15, 16, 17, 18, 19, 20, 21, 22, 23, 24, 25, 26, 27, 28, 29, 30, 31, 32, 33, 34, 35, 36, 37, 38, 39, 40, 41, 42, 43] (by decide +kernel) (by decide +kernel)
set_option maxRecDepth 20000 in
theorem gX9_placeOf_X9_ofRobot : GoodIn wsX9_placeOf (wsV RX9 242 RX9 yX9_ofRobot wsX9_ofRobot) := goodIn_app (goodIn_of _ (by decide +kernel)) ggX9_placeOf_X9_ofRobot
theorem dX9_placeOf_0 : decode cX9_placeOf 0 = .ok (.aload_n 0, 1) := by decide +kernel
theorem dX9_placeOf_1 : decode cX9_placeOf 1 = .ok (.iload_n 1, 1) := by decide +kernel
theorem dX9_placeOf_2 : decode cX9_placeOf 2 = .ok (.bipush 7, 2) := by decide +kernel
theorem dX9_placeOf_4 : decode cX9_placeOf 4 = .ok (.invokevirtual 242, 3) := by decide +kernel
theorem dX9_placeOf_7 : decode cX9_placeOf 7 = .ok (.ireturn, 1) := by decide +kernel
set_option maxRecDepth 20000 in
theorem ggX9_remember_X9_copyState : GoodIn wsX9_remember wsX9_copyState := goodIn_r _ [7] (by decide +kernel) (by decide +kernel)
set_option maxRecDepth 20000 in
theorem gX9_remember_X9_copyState : GoodIn wsX9_remember (va_wsS RX9 220 yX9_copyState wsX9_copyState) := goodIn_app (goodIn_of _ (by decide +kernel)) ggX9_remember_X9_copyState
theorem dX9_remember_0 : decode cX9_remember 0 = .ok (.aload_n 0, 1) := by decide +kernel
theorem dX9_remember_1 : decode cX9_remember 1 = .ok (.getfield 224, 3) := by decide +kernel
theorem dX9_remember_4 : decode cX9_remember 4 = .ok (.bipush 14, 2) := by decide +kernel
theorem dX9_remember_6 : decode cX9_remember 6 = .ok (.if_icmp .ne 43, 3) := by decide +kernel
theorem dX9_remember_9 : decode cX9_remember 9 = .ok (.iconst 0, 1) := by decide +kernel
theorem dX9_remember_10 : decode cX9_remember 10 = .ok (.istore_n 1, 1) := by decide +kernel
theorem dX9_remember_11 : decode cX9_remember 11 = .ok (.iload_n 1, 1) := by decide +kernel
theorem dX9_remember_12 : decode cX9_remember 12 = .ok (.sipush 1521, 3) := by decide +kernel
theorem dX9_remember_15 : decode cX9_remember 15 = .ok (.if_icmp .ge 24, 3) := by decide +kernel
theorem dX9_remember_18 : decode cX9_remember 18 = .ok (.aload_n 0, 1) := by decide +kernel
theorem dX9_remember_19 : decode cX9_remember 19 = .ok (.getfield 22, 3) := by decide +kernel
theorem dX9_remember_22 : decode cX9_remember 22 = .ok (.iload_n 1, 1) := by decide +kernel
theorem dX9_remember_23 : decode cX9_remember 23 = .ok (.aload_n 0, 1) := by decide +kernel
theorem dX9_remember_24 : decode cX9_remember 24 = .ok (.getfield 22, 3) := by decide +kernel
theorem dX9_remember_27 : decode cX9_remember 27 = .ok (.iload_n 1, 1) := by decide +kernel
theorem dX9_remember_28 : decode cX9_remember 28 = .ok (.bipush 117, 2) := by decide +kernel
theorem dX9_remember_30 : decode cX9_remember 30 = .ok (.iadd, 1) := by decide +kernel
theorem dX9_remember_31 : decode cX9_remember 31 = .ok (.iaload, 1) := by decide +kernel
theorem dX9_remember_32 : decode cX9_remember 32 = .ok (.iastore, 1) := by decide +kernel
theorem dX9_remember_33 : decode cX9_remember 33 = .ok (.iinc 1 1, 3) := by decide +kernel
theorem dX9_remember_36 : decode cX9_remember 36 = .ok (.goto (-25), 3) := by decide +kernel
theorem dX9_remember_39 : decode cX9_remember 39 = .ok (.aload_n 0, 1) := by decide +kernel
theorem dX9_remember_40 : decode cX9_remember 40 = .ok (.dup, 1) := by decide +kernel
theorem dX9_remember_41 : decode cX9_remember 41 = .ok (.getfield 224, 3) := by decide +kernel
theorem dX9_remember_44 : decode cX9_remember 44 = .ok (.iconst 1, 1) := by decide +kernel
theorem dX9_remember_45 : decode cX9_remember 45 = .ok (.isub, 1) := by decide +kernel
theorem dX9_remember_46 : decode cX9_remember 46 = .ok (.putfield 224, 3) := by decide +kernel
theorem dX9_remember_49 : decode cX9_remember 49 = .ok (.aload_n 0, 1) := by decide +kernel
theorem dX9_remember_50 : decode cX9_remember 50 = .ok (.getfield 13, 3) := by decide +kernel
theorem dX9_remember_53 : decode cX9_remember 53 = .ok (.iconst 0, 1) := by decide +kernel
theorem dX9_remember_54 : decode cX9_remember 54 = .ok (.aload_n 0, 1) := by decide +kernel
theorem dX9_remember_55 : decode cX9_remember 55 = .ok (.getfield 22, 3) := by decide +kernel
theorem dX9_remember_58 : decode cX9_remember 58 = .ok (.bipush 117, 2) := by decide +kernel
theorem dX9_remember_60 : decode cX9_remember 60 = .ok (.aload_n 0, 1) := by decide +kernel
theorem dX9_remember_61 : decode cX9_remember 61 = .ok (.getfield 224, 3) := by decide +kernel
theorem dX9_remember_64 : decode cX9_remember 64 = .ok (.imul, 1) := by decide +kernel
theorem dX9_remember_65 : decode cX9_remember 65 = .ok (.invokestatic 220, 3) := by decide +kernel
theorem dX9_remember_68 : decode cX9_remember 68 = .ok (.aload_n 0, 1) := by decide +kernel
theorem dX9_remember_69 : decode cX9_remember 69 = .ok (.dup, 1) := by decide +kernel
theorem dX9_remember_70 : decode cX9_remember 70 = .ok (.getfield 224, 3) := by decide +kernel
theorem dX9_remember_73 : decode cX9_remember 73 = .ok (.iconst 1, 1) := by decide +kernel
theorem dX9_remember_74 : decode cX9_remember 74 = .ok (.iadd, 1) := by decide +kernel
theorem dX9_remember_75 : decode cX9_remember 75 = .ok (.putfield 224, 3) := by decide +kernel
theorem dX9_remember_78 : decode cX9_remember 78 = .ok (.return_, 1) := by decide +kernel
set_option maxRecDepth 20000 in
theorem ggX9_setKind_X9_isCell : GoodIn wsX9_setKind wsX9_isCell := goodIn_r _ [6, 7, 8, 9, 5, 10] (by decide +kernel) (by decide +kernel)
set_option maxRecDepth 20000 in
theorem gX9_setKind_X9_isCell : GoodIn wsX9_setKind (va_wsS RX9 227 yX9_isCell wsX9_isCell) := goodIn_app (goodIn_of _ (by decide +kernel)) ggX9_setKind_X9_isCell
set_option maxRecDepth 20000 in
theorem ggX9_setKind_X9_in : GoodIn wsX9_setKind wsX9_in := goodIn_r _ [10] (by decide +kernel) (by decide +kernel)
set_option maxRecDepth 20000 in
theorem gX9_setKind_X9_in : GoodIn wsX9_setKind (va_wsS RX9 60 yX9_in wsX9_in) := goodIn_app (goodIn_of _ (by decide +kernel)) ggX9_setKind_X9_in
set_option maxRecDepth 20000 in
theorem ggX9_setKind_X9_canKind : GoodIn wsX9_setKind wsX9_canKind := goodIn_r _ [13, 14, 15, 5, 16, 17, 18, 19, 20, 21, 22, 23, 24, 25] (by decide +kernel) (by decide +kernel)
set_option maxRecDepth 20000 in
theorem gX9_setKind_X9_canKind : GoodIn wsX9_setKind (va_wsS RX9 172 yX9_canKind wsX9_canKind) := goodIn_app (goodIn_of _ (by decide +kernel)) ggX9_setKind_X9_canKind
set_option maxRecDepth 20000 in
theorem ggX9_setKind_X9_refused : GoodIn wsX9_setKind wsX9_refused := goodIn_r _ [29, 30, 43, 44, 45, 46, 47, 48, 49, 50, 51, 52, 53, 54, 55, 56, 57, 58, 59, 60, 61] (by decide +kernel) (by decide +kernel)
set_option maxRecDepth 20000 in
theorem gX9_setKind_X9_refused : GoodIn wsX9_setKind (wsV RX9 156 RX9 yX9_refused wsX9_refused) := goodIn_app (goodIn_of _ (by decide +kernel)) ggX9_setKind_X9_refused
set_option maxRecDepth 20000 in
theorem ggX9_setKind_X9_remember : GoodIn wsX9_setKind wsX9_remember := goodIn_r _ [34, 35, 36, 2, 37, 38, 5, 39, 43, 44, 45, 46, 47, 48, 49, 50, 51, 52, 53, 54, 55, 56, 57, 58, 59, 60, 61] (by decide +kernel) (by decide +kernel)
set_option maxRecDepth 20000 in
theorem gX9_setKind_X9_remember : GoodIn wsX9_setKind (wsV RX9 247 RX9 yX9_remember wsX9_remember) := goodIn_app (goodIn_of _ (by decide +kernel)) ggX9_setKind_X9_remember
set_option maxRecDepth 20000 in
theorem ggX9_setKind_X9_kindOn : GoodIn wsX9_setKind wsX9_kindOn := goodIn_r _ [42] (by decide +kernel) (by decide +kernel)
set_option maxRecDepth 20000 in
theorem gX9_setKind_X9_kindOn : GoodIn wsX9_setKind (va_wsS RX9 250 yX9_kindOn wsX9_kindOn) := goodIn_app (goodIn_of _ (by decide +kernel)) ggX9_setKind_X9_kindOn
theorem dX9_setKind_0 : decode cX9_setKind 0 = .ok (.aload_n 0, 1) := by decide +kernel
theorem dX9_setKind_1 : decode cX9_setKind 1 = .ok (.iload_n 1, 1) := by decide +kernel
theorem dX9_setKind_2 : decode cX9_setKind 2 = .ok (.invokestatic 227, 3) := by decide +kernel
theorem dX9_setKind_5 : decode cX9_setKind 5 = .ok (.ifCond .ne 7, 3) := by decide +kernel
theorem dX9_setKind_8 : decode cX9_setKind 8 = .ok (.iconst 1, 1) := by decide +kernel
theorem dX9_setKind_9 : decode cX9_setKind 9 = .ok (.goto 36, 3) := by decide +kernel
theorem dX9_setKind_12 : decode cX9_setKind 12 = .ok (.iload_n 2, 1) := by decide +kernel
theorem dX9_setKind_13 : decode cX9_setKind 13 = .ok (.i2l, 1) := by decide +kernel
theorem dX9_setKind_14 : decode cX9_setKind 14 = .ok (.lconst 0, 1) := by decide +kernel
theorem dX9_setKind_15 : decode cX9_setKind 15 = .ok (.ldc2_w 245, 3) := by decide +kernel
theorem dX9_setKind_18 : decode cX9_setKind 18 = .ok (.invokestatic 60, 3) := by decide +kernel
theorem dX9_setKind_21 : decode cX9_setKind 21 = .ok (.ifCond .ne 7, 3) := by decide +kernel
theorem dX9_setKind_24 : decode cX9_setKind 24 = .ok (.iconst 2, 1) := by decide +kernel
theorem dX9_setKind_25 : decode cX9_setKind 25 = .ok (.goto 20, 3) := by decide +kernel
theorem dX9_setKind_28 : decode cX9_setKind 28 = .ok (.aload_n 0, 1) := by decide +kernel
theorem dX9_setKind_29 : decode cX9_setKind 29 = .ok (.getfield 13, 3) := by decide +kernel
theorem dX9_setKind_32 : decode cX9_setKind 32 = .ok (.iload_n 1, 1) := by decide +kernel
theorem dX9_setKind_33 : decode cX9_setKind 33 = .ok (.iload_n 2, 1) := by decide +kernel
theorem dX9_setKind_34 : decode cX9_setKind 34 = .ok (.invokestatic 172, 3) := by decide +kernel
theorem dX9_setKind_37 : decode cX9_setKind 37 = .ok (.ifCond .eq 7, 3) := by decide +kernel
theorem dX9_setKind_40 : decode cX9_setKind 40 = .ok (.iconst 0, 1) := by decide +kernel
theorem dX9_setKind_41 : decode cX9_setKind 41 = .ok (.goto 4, 3) := by decide +kernel
theorem dX9_setKind_44 : decode cX9_setKind 44 = .ok (.iconst 3, 1) := by decide +kernel
theorem dX9_setKind_45 : decode cX9_setKind 45 = .ok (.invokevirtual 156, 3) := by decide +kernel
theorem dX9_setKind_48 : decode cX9_setKind 48 = .ok (.ifCond .eq 5, 3) := by decide +kernel
theorem dX9_setKind_51 : decode cX9_setKind 51 = .ok (.iconst 0, 1) := by decide +kernel
theorem dX9_setKind_52 : decode cX9_setKind 52 = .ok (.ireturn, 1) := by decide +kernel
theorem dX9_setKind_53 : decode cX9_setKind 53 = .ok (.aload_n 0, 1) := by decide +kernel
theorem dX9_setKind_54 : decode cX9_setKind 54 = .ok (.invokevirtual 247, 3) := by decide +kernel
theorem dX9_setKind_57 : decode cX9_setKind 57 = .ok (.aload_n 0, 1) := by decide +kernel
theorem dX9_setKind_58 : decode cX9_setKind 58 = .ok (.getfield 13, 3) := by decide +kernel
theorem dX9_setKind_61 : decode cX9_setKind 61 = .ok (.iload_n 1, 1) := by decide +kernel
theorem dX9_setKind_62 : decode cX9_setKind 62 = .ok (.iload_n 2, 1) := by decide +kernel
theorem dX9_setKind_63 : decode cX9_setKind 63 = .ok (.invokestatic 250, 3) := by decide +kernel
theorem dX9_setKind_66 : decode cX9_setKind 66 = .ok (.ireturn, 1) := by decide +kernel
set_option maxRecDepth 20000 in
theorem ggX9_addCrate_X9_isCell : GoodIn wsX9_addCrate wsX9_isCell := goodIn_r _ [5, 6, 7, 8, 4, 9] (by decide +kernel) (by decide +kernel)
set_option maxRecDepth 20000 in
theorem gX9_addCrate_X9_isCell : GoodIn wsX9_addCrate (va_wsS RX9 227 yX9_isCell wsX9_isCell) := goodIn_app (goodIn_of _ (by decide +kernel)) ggX9_addCrate_X9_isCell
set_option maxRecDepth 20000 in
theorem ggX9_addCrate_X9_canCrate : GoodIn wsX9_addCrate wsX9_canCrate := goodIn_r _ [12, 13, 14, 4, 15, 16, 17, 18, 19, 20, 21, 22, 23, 24, 25, 26, 27] (by decide +kernel) (by decide +kernel)
set_option maxRecDepth 20000 in
theorem gX9_addCrate_X9_canCrate : GoodIn wsX9_addCrate (va_wsS RX9 193 yX9_canCrate wsX9_canCrate) := goodIn_app (goodIn_of _ (by decide +kernel)) ggX9_addCrate_X9_canCrate
set_option maxRecDepth 20000 in
theorem ggX9_addCrate_X9_refused : GoodIn wsX9_addCrate wsX9_refused := goodIn_r _ [31, 32, 45, 46, 47, 48, 49, 50, 51, 52, 53, 54, 55, 56, 57, 58, 59, 60, 61, 62, 63] (by decide +kernel) (by decide +kernel)
set_option maxRecDepth 20000 in
theorem gX9_addCrate_X9_refused : GoodIn wsX9_addCrate (wsV RX9 156 RX9 yX9_refused wsX9_refused) := goodIn_app (goodIn_of _ (by decide +kernel)) ggX9_addCrate_X9_refused
set_option maxRecDepth 20000 in
theorem ggX9_addCrate_X9_remember : GoodIn wsX9_addCrate wsX9_remember := goodIn_r _ [36, 37, 38, 1, 39, 40, 4, 41, 45, 46, 47, 48, 49, 50, 51, 52, 53, 54, 55, 56, 57, 58, 59, 60, 61, 62, 63] (by decide +kernel) (by decide +kernel)
set_option maxRecDepth 20000 in
theorem gX9_addCrate_X9_remember : GoodIn wsX9_addCrate (wsV RX9 247 RX9 yX9_remember wsX9_remember) := goodIn_app (goodIn_of _ (by decide +kernel)) ggX9_addCrate_X9_remember
set_option maxRecDepth 20000 in
theorem ggX9_addCrate_X9_crateOn : GoodIn wsX9_addCrate wsX9_crateOn := goodIn_r _ [44, 25, 26, 4, 27] (by decide +kernel) (by decide +kernel)
set_option maxRecDepth 20000 in
theorem gX9_addCrate_X9_crateOn : GoodIn wsX9_addCrate (va_wsS RX9 196 yX9_crateOn wsX9_crateOn) := goodIn_app (goodIn_of _ (by decide +kernel)) ggX9_addCrate_X9_crateOn
theorem dX9_addCrate_0 : decode cX9_addCrate 0 = .ok (.aload_n 0, 1) := by decide +kernel
theorem dX9_addCrate_1 : decode cX9_addCrate 1 = .ok (.iload_n 1, 1) := by decide +kernel
theorem dX9_addCrate_2 : decode cX9_addCrate 2 = .ok (.invokestatic 227, 3) := by decide +kernel
theorem dX9_addCrate_5 : decode cX9_addCrate 5 = .ok (.ifCond .ne 7, 3) := by decide +kernel
theorem dX9_addCrate_8 : decode cX9_addCrate 8 = .ok (.iconst 1, 1) := by decide +kernel
theorem dX9_addCrate_9 : decode cX9_addCrate 9 = .ok (.goto 19, 3) := by decide +kernel
theorem dX9_addCrate_12 : decode cX9_addCrate 12 = .ok (.aload_n 0, 1) := by decide +kernel
theorem dX9_addCrate_13 : decode cX9_addCrate 13 = .ok (.getfield 13, 3) := by decide +kernel
theorem dX9_addCrate_16 : decode cX9_addCrate 16 = .ok (.iload_n 1, 1) := by decide +kernel
theorem dX9_addCrate_17 : decode cX9_addCrate 17 = .ok (.invokestatic 193, 3) := by decide +kernel
theorem dX9_addCrate_20 : decode cX9_addCrate 20 = .ok (.ifCond .eq 7, 3) := by decide +kernel
theorem dX9_addCrate_23 : decode cX9_addCrate 23 = .ok (.iconst 0, 1) := by decide +kernel
theorem dX9_addCrate_24 : decode cX9_addCrate 24 = .ok (.goto 4, 3) := by decide +kernel
theorem dX9_addCrate_27 : decode cX9_addCrate 27 = .ok (.iconst 2, 1) := by decide +kernel
theorem dX9_addCrate_28 : decode cX9_addCrate 28 = .ok (.invokevirtual 156, 3) := by decide +kernel
theorem dX9_addCrate_31 : decode cX9_addCrate 31 = .ok (.ifCond .eq 5, 3) := by decide +kernel
theorem dX9_addCrate_34 : decode cX9_addCrate 34 = .ok (.iconst 0, 1) := by decide +kernel
theorem dX9_addCrate_35 : decode cX9_addCrate 35 = .ok (.ireturn, 1) := by decide +kernel
theorem dX9_addCrate_36 : decode cX9_addCrate 36 = .ok (.aload_n 0, 1) := by decide +kernel
theorem dX9_addCrate_37 : decode cX9_addCrate 37 = .ok (.invokevirtual 247, 3) := by decide +kernel
theorem dX9_addCrate_40 : decode cX9_addCrate 40 = .ok (.aload_n 0, 1) := by decide +kernel
theorem dX9_addCrate_41 : decode cX9_addCrate 41 = .ok (.getfield 13, 3) := by decide +kernel
theorem dX9_addCrate_44 : decode cX9_addCrate 44 = .ok (.iload_n 1, 1) := by decide +kernel
theorem dX9_addCrate_45 : decode cX9_addCrate 45 = .ok (.invokestatic 196, 3) := by decide +kernel
theorem dX9_addCrate_48 : decode cX9_addCrate 48 = .ok (.ireturn, 1) := by decide +kernel
set_option maxRecDepth 20000 in
theorem ggX9_takeCrate_X9_isCell : GoodIn wsX9_takeCrate wsX9_isCell := goodIn_r _ [5, 6, 7, 8, 4, 9] (by decide +kernel) (by decide +kernel)
set_option maxRecDepth 20000 in
theorem gX9_takeCrate_X9_isCell : GoodIn wsX9_takeCrate (va_wsS RX9 227 yX9_isCell wsX9_isCell) := goodIn_app (goodIn_of _ (by decide +kernel)) ggX9_takeCrate_X9_isCell
set_option maxRecDepth 20000 in
theorem ggX9_takeCrate_X9_refused : GoodIn wsX9_takeCrate wsX9_refused := goodIn_r _ [13, 14, 27, 28, 29, 30, 31, 32, 33, 34, 35, 36, 37, 38, 39, 40, 41, 42, 43, 44, 45] (by decide +kernel) (by decide +kernel)
set_option maxRecDepth 20000 in
theorem gX9_takeCrate_X9_refused : GoodIn wsX9_takeCrate (wsV RX9 156 RX9 yX9_refused wsX9_refused) := goodIn_app (goodIn_of _ (by decide +kernel)) ggX9_takeCrate_X9_refused
set_option maxRecDepth 20000 in
theorem ggX9_takeCrate_X9_remember : GoodIn wsX9_takeCrate wsX9_remember := goodIn_r _ [18, 19, 20, 1, 21, 22, 4, 23, 27, 28, 29, 30, 31, 32, 33, 34, 35, 36, 37, 38, 39, 40, 41, 42, 43, 44, 45] (by decide +kernel) (by decide +kernel)
set_option maxRecDepth 20000 in
theorem gX9_takeCrate_X9_remember : GoodIn wsX9_takeCrate (wsV RX9 247 RX9 yX9_remember wsX9_remember) := goodIn_app (goodIn_of _ (by decide +kernel)) ggX9_takeCrate_X9_remember
set_option maxRecDepth 20000 in
theorem ggX9_takeCrate_X9_cratesOn : GoodIn wsX9_takeCrate wsX9_cratesOn := goodIn_r _ [26] (by decide +kernel) (by decide +kernel)
set_option maxRecDepth 20000 in
theorem gX9_takeCrate_X9_cratesOn : GoodIn wsX9_takeCrate (va_wsS RX9 148 yX9_cratesOn wsX9_cratesOn) := goodIn_app (goodIn_of _ (by decide +kernel)) ggX9_takeCrate_X9_cratesOn
theorem dX9_takeCrate_0 : decode cX9_takeCrate 0 = .ok (.aload_n 0, 1) := by decide +kernel
theorem dX9_takeCrate_1 : decode cX9_takeCrate 1 = .ok (.iload_n 1, 1) := by decide +kernel
theorem dX9_takeCrate_2 : decode cX9_takeCrate 2 = .ok (.invokestatic 227, 3) := by decide +kernel
theorem dX9_takeCrate_5 : decode cX9_takeCrate 5 = .ok (.ifCond .ne 7, 3) := by decide +kernel
theorem dX9_takeCrate_8 : decode cX9_takeCrate 8 = .ok (.iconst 1, 1) := by decide +kernel
theorem dX9_takeCrate_9 : decode cX9_takeCrate 9 = .ok (.goto 21, 3) := by decide +kernel
theorem dX9_takeCrate_12 : decode cX9_takeCrate 12 = .ok (.aload_n 0, 1) := by decide +kernel
theorem dX9_takeCrate_13 : decode cX9_takeCrate 13 = .ok (.getfield 13, 3) := by decide +kernel
theorem dX9_takeCrate_16 : decode cX9_takeCrate 16 = .ok (.bipush 36, 2) := by decide +kernel
theorem dX9_takeCrate_18 : decode cX9_takeCrate 18 = .ok (.iload_n 1, 1) := by decide +kernel
theorem dX9_takeCrate_19 : decode cX9_takeCrate 19 = .ok (.iadd, 1) := by decide +kernel
theorem dX9_takeCrate_20 : decode cX9_takeCrate 20 = .ok (.iaload, 1) := by decide +kernel
theorem dX9_takeCrate_21 : decode cX9_takeCrate 21 = .ok (.iconst 1, 1) := by decide +kernel
theorem dX9_takeCrate_22 : decode cX9_takeCrate 22 = .ok (.if_icmp .ne 7, 3) := by decide +kernel
theorem dX9_takeCrate_25 : decode cX9_takeCrate 25 = .ok (.iconst 0, 1) := by decide +kernel
theorem dX9_takeCrate_26 : decode cX9_takeCrate 26 = .ok (.goto 4, 3) := by decide +kernel
theorem dX9_takeCrate_29 : decode cX9_takeCrate 29 = .ok (.iconst 2, 1) := by decide +kernel
theorem dX9_takeCrate_30 : decode cX9_takeCrate 30 = .ok (.invokevirtual 156, 3) := by decide +kernel
theorem dX9_takeCrate_33 : decode cX9_takeCrate 33 = .ok (.ifCond .eq 5, 3) := by decide +kernel
theorem dX9_takeCrate_36 : decode cX9_takeCrate 36 = .ok (.iconst 0, 1) := by decide +kernel
theorem dX9_takeCrate_37 : decode cX9_takeCrate 37 = .ok (.ireturn, 1) := by decide +kernel
theorem dX9_takeCrate_38 : decode cX9_takeCrate 38 = .ok (.aload_n 0, 1) := by decide +kernel
theorem dX9_takeCrate_39 : decode cX9_takeCrate 39 = .ok (.invokevirtual 247, 3) := by decide +kernel
theorem dX9_takeCrate_42 : decode cX9_takeCrate 42 = .ok (.aload_n 0, 1) := by decide +kernel
theorem dX9_takeCrate_43 : decode cX9_takeCrate 43 = .ok (.getfield 13, 3) := by decide +kernel
theorem dX9_takeCrate_46 : decode cX9_takeCrate 46 = .ok (.bipush 36, 2) := by decide +kernel
theorem dX9_takeCrate_48 : decode cX9_takeCrate 48 = .ok (.iload_n 1, 1) := by decide +kernel
theorem dX9_takeCrate_49 : decode cX9_takeCrate 49 = .ok (.iadd, 1) := by decide +kernel
theorem dX9_takeCrate_50 : decode cX9_takeCrate 50 = .ok (.iconst 0, 1) := by decide +kernel
theorem dX9_takeCrate_51 : decode cX9_takeCrate 51 = .ok (.iastore, 1) := by decide +kernel
theorem dX9_takeCrate_52 : decode cX9_takeCrate 52 = .ok (.aload_n 0, 1) := by decide +kernel
theorem dX9_takeCrate_53 : decode cX9_takeCrate 53 = .ok (.getfield 13, 3) := by decide +kernel
theorem dX9_takeCrate_56 : decode cX9_takeCrate 56 = .ok (.invokestatic 148, 3) := by decide +kernel
theorem dX9_takeCrate_59 : decode cX9_takeCrate 59 = .ok (.ireturn, 1) := by decide +kernel
set_option maxRecDepth 20000 in
theorem ggX9_addCheckpoint_X9_isCell : GoodIn wsX9_addCheckpoint wsX9_isCell := goodIn_r _ [5, 6, 7, 8, 4, 9] (by decide +kernel) (by decide +kernel)
set_option maxRecDepth 20000 in
theorem gX9_addCheckpoint_X9_isCell : GoodIn wsX9_addCheckpoint (va_wsS RX9 227 yX9_isCell wsX9_isCell) := goodIn_app (goodIn_of _ (by decide +kernel)) ggX9_addCheckpoint_X9_isCell
set_option maxRecDepth 20000 in
theorem ggX9_addCheckpoint_X9_canPoint : GoodIn wsX9_addCheckpoint wsX9_canPoint := goodIn_r _ [12, 13, 14, 4, 15, 16, 17, 18] (by decide +kernel) (by decide +kernel)
set_option maxRecDepth 20000 in
theorem gX9_addCheckpoint_X9_canPoint : GoodIn wsX9_addCheckpoint (va_wsS RX9 199 yX9_canPoint wsX9_canPoint) := goodIn_app (goodIn_of _ (by decide +kernel)) ggX9_addCheckpoint_X9_canPoint
set_option maxRecDepth 20000 in
theorem ggX9_addCheckpoint_X9_refused : GoodIn wsX9_addCheckpoint wsX9_refused := goodIn_r _ [22, 23, 36, 37, 38, 39, 40, 41, 42, 43, 44, 45, 46, 47, 48, 49, 50, 51, 52, 53, 54] (by decide +kernel) (by decide +kernel)
set_option maxRecDepth 20000 in
theorem gX9_addCheckpoint_X9_refused : GoodIn wsX9_addCheckpoint (wsV RX9 156 RX9 yX9_refused wsX9_refused) := goodIn_app (goodIn_of _ (by decide +kernel)) ggX9_addCheckpoint_X9_refused
set_option maxRecDepth 20000 in
theorem ggX9_addCheckpoint_X9_remember : GoodIn wsX9_addCheckpoint wsX9_remember := goodIn_r _ [27, 28, 29, 1, 30, 31, 4, 32, 36, 37, 38, 39, 40, 41, 42, 43, 44, 45, 46, 47, 48, 49, 50, 51, 52, 53, 54] (by decide +kernel) (by decide +kernel)
set_option maxRecDepth 20000 in
theorem gX9_addCheckpoint_X9_remember : GoodIn wsX9_addCheckpoint (wsV RX9 247 RX9 yX9_remember wsX9_remember) := goodIn_app (goodIn_of _ (by decide +kernel)) ggX9_addCheckpoint_X9_remember
set_option maxRecDepth 20000 in
theorem ggX9_addCheckpoint_X9_pointOn : GoodIn wsX9_addCheckpoint wsX9_pointOn := goodIn_r _ [35] (by decide +kernel) (by decide +kernel)
set_option maxRecDepth 20000 in
theorem gX9_addCheckpoint_X9_pointOn : GoodIn wsX9_addCheckpoint (va_wsS RX9 202 yX9_pointOn wsX9_pointOn) := goodIn_app (goodIn_of _ (by decide +kernel)) ggX9_addCheckpoint_X9_pointOn
theorem dX9_addCheckpoint_0 : decode cX9_addCheckpoint 0 = .ok (.aload_n 0, 1) := by decide +kernel
theorem dX9_addCheckpoint_1 : decode cX9_addCheckpoint 1 = .ok (.iload_n 1, 1) := by decide +kernel
theorem dX9_addCheckpoint_2 : decode cX9_addCheckpoint 2 = .ok (.invokestatic 227, 3) := by decide +kernel
theorem dX9_addCheckpoint_5 : decode cX9_addCheckpoint 5 = .ok (.ifCond .ne 7, 3) := by decide +kernel
theorem dX9_addCheckpoint_8 : decode cX9_addCheckpoint 8 = .ok (.iconst 1, 1) := by decide +kernel
theorem dX9_addCheckpoint_9 : decode cX9_addCheckpoint 9 = .ok (.goto 19, 3) := by decide +kernel
theorem dX9_addCheckpoint_12 : decode cX9_addCheckpoint 12 = .ok (.aload_n 0, 1) := by decide +kernel
theorem dX9_addCheckpoint_13 : decode cX9_addCheckpoint 13 = .ok (.getfield 13, 3) := by decide +kernel
theorem dX9_addCheckpoint_16 : decode cX9_addCheckpoint 16 = .ok (.iload_n 1, 1) := by decide +kernel
theorem dX9_addCheckpoint_17 : decode cX9_addCheckpoint 17 = .ok (.invokestatic 199, 3) := by decide +kernel
theorem dX9_addCheckpoint_20 : decode cX9_addCheckpoint 20 = .ok (.ifCond .eq 7, 3) := by decide +kernel
theorem dX9_addCheckpoint_23 : decode cX9_addCheckpoint 23 = .ok (.iconst 0, 1) := by decide +kernel
theorem dX9_addCheckpoint_24 : decode cX9_addCheckpoint 24 = .ok (.goto 4, 3) := by decide +kernel
theorem dX9_addCheckpoint_27 : decode cX9_addCheckpoint 27 = .ok (.iconst 2, 1) := by decide +kernel
theorem dX9_addCheckpoint_28 : decode cX9_addCheckpoint 28 = .ok (.invokevirtual 156, 3) := by decide +kernel
theorem dX9_addCheckpoint_31 : decode cX9_addCheckpoint 31 = .ok (.ifCond .eq 5, 3) := by decide +kernel
theorem dX9_addCheckpoint_34 : decode cX9_addCheckpoint 34 = .ok (.iconst 0, 1) := by decide +kernel
theorem dX9_addCheckpoint_35 : decode cX9_addCheckpoint 35 = .ok (.ireturn, 1) := by decide +kernel
theorem dX9_addCheckpoint_36 : decode cX9_addCheckpoint 36 = .ok (.aload_n 0, 1) := by decide +kernel
theorem dX9_addCheckpoint_37 : decode cX9_addCheckpoint 37 = .ok (.invokevirtual 247, 3) := by decide +kernel
theorem dX9_addCheckpoint_40 : decode cX9_addCheckpoint 40 = .ok (.aload_n 0, 1) := by decide +kernel
theorem dX9_addCheckpoint_41 : decode cX9_addCheckpoint 41 = .ok (.getfield 13, 3) := by decide +kernel
theorem dX9_addCheckpoint_44 : decode cX9_addCheckpoint 44 = .ok (.iload_n 1, 1) := by decide +kernel
theorem dX9_addCheckpoint_45 : decode cX9_addCheckpoint 45 = .ok (.invokestatic 202, 3) := by decide +kernel
theorem dX9_addCheckpoint_48 : decode cX9_addCheckpoint 48 = .ok (.ireturn, 1) := by decide +kernel
set_option maxRecDepth 20000 in
theorem ggX9_putRobot_X9_isRobot : GoodIn wsX9_putRobot wsX9_isRobot := goodIn_r _ [6, 7, 8, 5, 9] (by decide +kernel) (by decide +kernel)
set_option maxRecDepth 20000 in
theorem gX9_putRobot_X9_isRobot : GoodIn wsX9_putRobot (va_wsS RX9 230 yX9_isRobot wsX9_isRobot) := goodIn_app (goodIn_of _ (by decide +kernel)) ggX9_putRobot_X9_isRobot
set_option maxRecDepth 20000 in
theorem ggX9_putRobot_X9_isCell : GoodIn wsX9_putRobot wsX9_isCell := goodIn_r _ [12, 13, 7, 8, 5, 9] (by decide +kernel) (by decide +kernel)
set_option maxRecDepth 20000 in
theorem gX9_putRobot_X9_isCell : GoodIn wsX9_putRobot (va_wsS RX9 227 yX9_isCell wsX9_isCell) := goodIn_app (goodIn_of _ (by decide +kernel)) ggX9_putRobot_X9_isCell
set_option maxRecDepth 20000 in
theorem ggX9_putRobot_X9_in : GoodIn wsX9_putRobot wsX9_in := goodIn_r _ [9] (by decide +kernel) (by decide +kernel)
set_option maxRecDepth 20000 in
theorem gX9_putRobot_X9_in : GoodIn wsX9_putRobot (va_wsS RX9 60 yX9_in wsX9_in) := goodIn_app (goodIn_of _ (by decide +kernel)) ggX9_putRobot_X9_in
set_option maxRecDepth 20000 in
theorem ggX9_putRobot_X9_canPut : GoodIn wsX9_putRobot wsX9_canPut := goodIn_r _ [16, 17, 18, 5, 19, 20, 21, 22, 23, 24, 25, 26, 27, 28] (by decide +kernel) (by decide +kernel)
set_option maxRecDepth 20000 in
theorem gX9_putRobot_X9_canPut : GoodIn wsX9_putRobot (va_wsS RX9 183 yX9_canPut wsX9_canPut) := goodIn_app (goodIn_of _ (by decide +kernel)) ggX9_putRobot_X9_canPut
set_option maxRecDepth 20000 in
theorem ggX9_putRobot_X9_refused : GoodIn wsX9_putRobot wsX9_refused := goodIn_r _ [32, 33, 49, 50, 51, 52, 53, 54, 55, 56, 57, 58, 59, 60, 61, 62, 63, 64, 65, 66, 67] (by decide +kernel) (by decide +kernel)
set_option maxRecDepth 20000 in
theorem gX9_putRobot_X9_refused : GoodIn wsX9_putRobot (wsV RX9 156 RX9 yX9_refused wsX9_refused) := goodIn_app (goodIn_of _ (by decide +kernel)) ggX9_putRobot_X9_refused
set_option maxRecDepth 20000 in
theorem ggX9_putRobot_X9_remember : GoodIn wsX9_putRobot wsX9_remember := goodIn_r _ [37, 38, 39, 2, 40, 41, 5, 42, 49, 50, 51, 52, 53, 54, 55, 56, 57, 58, 59, 60, 61, 62, 63, 64, 65, 66, 67] (by decide +kernel) (by decide +kernel)
set_option maxRecDepth 20000 in
theorem gX9_putRobot_X9_remember : GoodIn wsX9_putRobot (wsV RX9 247 RX9 yX9_remember wsX9_remember) := goodIn_app (goodIn_of _ (by decide +kernel)) ggX9_putRobot_X9_remember
set_option maxRecDepth 20000 in
theorem ggX9_putRobot_X9_putOn : GoodIn wsX9_putRobot wsX9_putOn := goodIn_r _ [45, 20, 21, 5, 22, 46, 47, 48] (by decide +kernel) (by decide +kernel)
set_option maxRecDepth 20000 in
theorem gX9_putRobot_X9_putOn : GoodIn wsX9_putRobot (va_wsS RX9 186 yX9_putOn wsX9_putOn) := goodIn_app (goodIn_of _ (by decide +kernel)) ggX9_putRobot_X9_putOn
theorem dX9_putRobot_0 : decode cX9_putRobot 0 = .ok (.aload_n 0, 1) := by decide +kernel
theorem dX9_putRobot_1 : decode cX9_putRobot 1 = .ok (.iload_n 1, 1) := by decide +kernel
theorem dX9_putRobot_2 : decode cX9_putRobot 2 = .ok (.invokestatic 230, 3) := by decide +kernel
theorem dX9_putRobot_5 : decode cX9_putRobot 5 = .ok (.ifCond .eq 10, 3) := by decide +kernel
theorem dX9_putRobot_8 : decode cX9_putRobot 8 = .ok (.iload_n 2, 1) := by decide +kernel
theorem dX9_putRobot_9 : decode cX9_putRobot 9 = .ok (.invokestatic 227, 3) := by decide +kernel
theorem dX9_putRobot_12 : decode cX9_putRobot 12 = .ok (.ifCond .ne 7, 3) := by decide +kernel
theorem dX9_putRobot_15 : decode cX9_putRobot 15 = .ok (.iconst 1, 1) := by decide +kernel
theorem dX9_putRobot_16 : decode cX9_putRobot 16 = .ok (.goto 36, 3) := by decide +kernel
theorem dX9_putRobot_19 : decode cX9_putRobot 19 = .ok (.iload_n 3, 1) := by decide +kernel
theorem dX9_putRobot_20 : decode cX9_putRobot 20 = .ok (.i2l, 1) := by decide +kernel
theorem dX9_putRobot_21 : decode cX9_putRobot 21 = .ok (.lconst 0, 1) := by decide +kernel
theorem dX9_putRobot_22 : decode cX9_putRobot 22 = .ok (.ldc2_w 253, 3) := by decide +kernel
theorem dX9_putRobot_25 : decode cX9_putRobot 25 = .ok (.invokestatic 60, 3) := by decide +kernel
theorem dX9_putRobot_28 : decode cX9_putRobot 28 = .ok (.ifCond .ne 7, 3) := by decide +kernel
theorem dX9_putRobot_31 : decode cX9_putRobot 31 = .ok (.iconst 2, 1) := by decide +kernel
theorem dX9_putRobot_32 : decode cX9_putRobot 32 = .ok (.goto 20, 3) := by decide +kernel
theorem dX9_putRobot_35 : decode cX9_putRobot 35 = .ok (.aload_n 0, 1) := by decide +kernel
theorem dX9_putRobot_36 : decode cX9_putRobot 36 = .ok (.getfield 13, 3) := by decide +kernel
theorem dX9_putRobot_39 : decode cX9_putRobot 39 = .ok (.iload_n 1, 1) := by decide +kernel
theorem dX9_putRobot_40 : decode cX9_putRobot 40 = .ok (.iload_n 2, 1) := by decide +kernel
theorem dX9_putRobot_41 : decode cX9_putRobot 41 = .ok (.invokestatic 183, 3) := by decide +kernel
theorem dX9_putRobot_44 : decode cX9_putRobot 44 = .ok (.ifCond .eq 7, 3) := by decide +kernel
theorem dX9_putRobot_47 : decode cX9_putRobot 47 = .ok (.iconst 0, 1) := by decide +kernel
theorem dX9_putRobot_48 : decode cX9_putRobot 48 = .ok (.goto 4, 3) := by decide +kernel
theorem dX9_putRobot_51 : decode cX9_putRobot 51 = .ok (.iconst 3, 1) := by decide +kernel
theorem dX9_putRobot_52 : decode cX9_putRobot 52 = .ok (.invokevirtual 156, 3) := by decide +kernel
theorem dX9_putRobot_55 : decode cX9_putRobot 55 = .ok (.ifCond .eq 5, 3) := by decide +kernel
theorem dX9_putRobot_58 : decode cX9_putRobot 58 = .ok (.iconst 0, 1) := by decide +kernel
theorem dX9_putRobot_59 : decode cX9_putRobot 59 = .ok (.ireturn, 1) := by decide +kernel
theorem dX9_putRobot_60 : decode cX9_putRobot 60 = .ok (.aload_n 0, 1) := by decide +kernel
theorem dX9_putRobot_61 : decode cX9_putRobot 61 = .ok (.invokevirtual 247, 3) := by decide +kernel
theorem dX9_putRobot_64 : decode cX9_putRobot 64 = .ok (.aload_n 0, 1) := by decide +kernel
theorem dX9_putRobot_65 : decode cX9_putRobot 65 = .ok (.getfield 13, 3) := by decide +kernel
theorem dX9_putRobot_68 : decode cX9_putRobot 68 = .ok (.iload_n 1, 1) := by decide +kernel
theorem dX9_putRobot_69 : decode cX9_putRobot 69 = .ok (.iload_n 2, 1) := by decide +kernel
theorem dX9_putRobot_70 : decode cX9_putRobot 70 = .ok (.iload_n 3, 1) := by decide +kernel
theorem dX9_putRobot_71 : decode cX9_putRobot 71 = .ok (.invokestatic 186, 3) := by decide +kernel
theorem dX9_putRobot_74 : decode cX9_putRobot 74 = .ok (.ireturn, 1) := by decide +kernel
set_option maxRecDepth 20000 in
theorem ggX9_write_X9_isRobot : GoodIn wsX9_write wsX9_isRobot := goodIn_r _ [6, 7, 8, 5, 9] (by decide +kernel) (by decide +kernel)
set_option maxRecDepth 20000 in
theorem gX9_write_X9_isRobot : GoodIn wsX9_write (va_wsS RX9 230 yX9_isRobot wsX9_isRobot) := goodIn_app (goodIn_of _ (by decide +kernel)) ggX9_write_X9_isRobot
set_option maxRecDepth 20000 in
theorem ggX9_write_X9_in : GoodIn wsX9_write wsX9_in := goodIn_r _ [9] (by decide +kernel) (by decide +kernel)
set_option maxRecDepth 20000 in
theorem gX9_write_X9_in : GoodIn wsX9_write (va_wsS RX9 60 yX9_in wsX9_in) := goodIn_app (goodIn_of _ (by decide +kernel)) ggX9_write_X9_in
set_option maxRecDepth 20000 in
theorem ggX9_write_X9_of : GoodIn wsX9_write wsX9_of := goodIn_r _ [12] (by decide +kernel) (by decide +kernel)
set_option maxRecDepth 20000 in
theorem gX9_write_X9_of : GoodIn wsX9_write (va_wsS RX9 64 yX9_of wsX9_of) := goodIn_app (goodIn_of _ (by decide +kernel)) ggX9_write_X9_of
set_option maxRecDepth 20000 in
theorem ggX9_write_X9_refused : GoodIn wsX9_write wsX9_refused := goodIn_r _ [16, 17, 33, 34, 35, 36, 37, 38, 39, 40, 41, 42, 43, 44, 45, 46, 47, 48, 49, 50, 51] (by decide +kernel) (by decide +kernel)
set_option maxRecDepth 20000 in
theorem gX9_write_X9_refused : GoodIn wsX9_write (wsV RX9 156 RX9 yX9_refused wsX9_refused) := goodIn_app (goodIn_of _ (by decide +kernel)) ggX9_write_X9_refused
set_option maxRecDepth 20000 in
theorem ggX9_write_X9_remember : GoodIn wsX9_write wsX9_remember := goodIn_r _ [21, 22, 23, 2, 24, 25, 5, 26, 33, 34, 35, 36, 37, 38, 39, 40, 41, 42, 43, 44, 45, 46, 47, 48, 49, 50, 51] (by decide +kernel) (by decide +kernel)
set_option maxRecDepth 20000 in
theorem gX9_write_X9_remember : GoodIn wsX9_write (wsV RX9 247 RX9 yX9_remember wsX9_remember) := goodIn_app (goodIn_of _ (by decide +kernel)) ggX9_write_X9_remember
set_option maxRecDepth 20000 in
theorem ggX9_write_X9_writeOn : GoodIn wsX9_write wsX9_writeOn := goodIn_r _ [29, 10, 11, 5, 12, 30, 31, 32] (by decide +kernel) (by decide +kernel)
set_option maxRecDepth 20000 in
theorem gX9_write_X9_writeOn : GoodIn wsX9_write (va_wsS RX9 190 yX9_writeOn wsX9_writeOn) := goodIn_app (goodIn_of _ (by decide +kernel)) ggX9_write_X9_writeOn
theorem dX9_write_0 : decode cX9_write 0 = .ok (.aload_n 0, 1) := by decide +kernel
theorem dX9_write_1 : decode cX9_write 1 = .ok (.iload_n 1, 1) := by decide +kernel
theorem dX9_write_2 : decode cX9_write 2 = .ok (.invokestatic 230, 3) := by decide +kernel
theorem dX9_write_5 : decode cX9_write 5 = .ok (.ifCond .ne 7, 3) := by decide +kernel
theorem dX9_write_8 : decode cX9_write 8 = .ok (.iconst 1, 1) := by decide +kernel
theorem dX9_write_9 : decode cX9_write 9 = .ok (.goto 39, 3) := by decide +kernel
theorem dX9_write_12 : decode cX9_write 12 = .ok (.iload_n 2, 1) := by decide +kernel
theorem dX9_write_13 : decode cX9_write 13 = .ok (.i2l, 1) := by decide +kernel
theorem dX9_write_14 : decode cX9_write 14 = .ok (.lconst 0, 1) := by decide +kernel
theorem dX9_write_15 : decode cX9_write 15 = .ok (.ldc2_w 72, 3) := by decide +kernel
theorem dX9_write_18 : decode cX9_write 18 = .ok (.invokestatic 60, 3) := by decide +kernel
theorem dX9_write_21 : decode cX9_write 21 = .ok (.ifCond .ne 7, 3) := by decide +kernel
theorem dX9_write_24 : decode cX9_write 24 = .ok (.iconst 2, 1) := by decide +kernel
theorem dX9_write_25 : decode cX9_write 25 = .ok (.goto 23, 3) := by decide +kernel
theorem dX9_write_28 : decode cX9_write 28 = .ok (.aload_n 0, 1) := by decide +kernel
theorem dX9_write_29 : decode cX9_write 29 = .ok (.getfield 13, 3) := by decide +kernel
theorem dX9_write_32 : decode cX9_write 32 = .ok (.iload_n 1, 1) := by decide +kernel
theorem dX9_write_33 : decode cX9_write 33 = .ok (.bipush 8, 2) := by decide +kernel
theorem dX9_write_35 : decode cX9_write 35 = .ok (.invokestatic 64, 3) := by decide +kernel
theorem dX9_write_38 : decode cX9_write 38 = .ok (.bipush 10, 2) := by decide +kernel
theorem dX9_write_40 : decode cX9_write 40 = .ok (.if_icmp .ge 7, 3) := by decide +kernel
theorem dX9_write_43 : decode cX9_write 43 = .ok (.iconst 0, 1) := by decide +kernel
theorem dX9_write_44 : decode cX9_write 44 = .ok (.goto 4, 3) := by decide +kernel
theorem dX9_write_47 : decode cX9_write 47 = .ok (.iconst 3, 1) := by decide +kernel
theorem dX9_write_48 : decode cX9_write 48 = .ok (.invokevirtual 156, 3) := by decide +kernel
theorem dX9_write_51 : decode cX9_write 51 = .ok (.ifCond .eq 5, 3) := by decide +kernel
theorem dX9_write_54 : decode cX9_write 54 = .ok (.iconst 0, 1) := by decide +kernel
theorem dX9_write_55 : decode cX9_write 55 = .ok (.ireturn, 1) := by decide +kernel
theorem dX9_write_56 : decode cX9_write 56 = .ok (.aload_n 0, 1) := by decide +kernel
theorem dX9_write_57 : decode cX9_write 57 = .ok (.invokevirtual 247, 3) := by decide +kernel
theorem dX9_write_60 : decode cX9_write 60 = .ok (.aload_n 0, 1) := by decide +kernel
theorem dX9_write_61 : decode cX9_write 61 = .ok (.getfield 13, 3) := by decide +kernel
theorem dX9_write_64 : decode cX9_write 64 = .ok (.iload_n 1, 1) := by decide +kernel
theorem dX9_write_65 : decode cX9_write 65 = .ok (.iload_n 2, 1) := by decide +kernel
theorem dX9_write_66 : decode cX9_write 66 = .ok (.invokestatic 190, 3) := by decide +kernel
theorem dX9_write_69 : decode cX9_write 69 = .ok (.ireturn, 1) := by decide +kernel
set_option maxRecDepth 20000 in
theorem ggX9_wipe_X9_noRobot : GoodIn wsX9_wipe wsX9_noRobot := goodIn_r _ [6, 7, 8, 5, 9, 10, 11, 12, 13, 14, 15, 16, 17, 36, 37, 38, 39, 40, 41, 42, 43, 44, 45, 46, 47, 48, 49, 50, 51, 52, 53, 54] (by decide +kernel) (by decide +kernel)
set_option maxRecDepth 20000 in
theorem gX9_wipe_X9_noRobot : GoodIn wsX9_wipe (wsV RX9 239 RX9 yX9_noRobot wsX9_noRobot) := goodIn_app (goodIn_of _ (by decide +kernel)) ggX9_wipe_X9_noRobot
set_option maxRecDepth 20000 in
theorem ggX9_wipe_X9_remember : GoodIn wsX9_wipe wsX9_remember := goodIn_r _ [21, 22, 23, 1, 24, 25, 5, 26, 36, 37, 38, 39, 40, 41, 42, 43, 44, 45, 46, 47, 48, 49, 50, 51, 52, 53, 54] (by decide +kernel) (by decide +kernel)
set_option maxRecDepth 20000 in
theorem gX9_wipe_X9_remember : GoodIn wsX9_wipe (wsV RX9 247 RX9 yX9_remember wsX9_remember) := goodIn_app (goodIn_of _ (by decide +kernel)) ggX9_wipe_X9_remember
set_option maxRecDepth 20000 in
theorem ggX9_wipe_X9_wipeOn : GoodIn wsX9_wipe wsX9_wipeOn := goodIn_r _ [29, 30, 31, 5, 32, 33, 34, 35] (by decide +kernel) (by decide +kernel)
set_option maxRecDepth 20000 in
theorem gX9_wipe_X9_wipeOn : GoodIn wsX9_wipe (va_wsS RX9 255 yX9_wipeOn wsX9_wipeOn) := goodIn_app (goodIn_of _ (by decide +kernel)) ggX9_wipe_X9_wipeOn
theorem dX9_wipe_0 : decode cX9_wipe 0 = .ok (.aload_n 0, 1) := by decide +kernel
theorem dX9_wipe_1 : decode cX9_wipe 1 = .ok (.iload_n 1, 1) := by decide +kernel
theorem dX9_wipe_2 : decode cX9_wipe 2 = .ok (.invokevirtual 239, 3) := by decide +kernel
theorem dX9_wipe_5 : decode cX9_wipe 5 = .ok (.ifCond .eq 5, 3) := by decide +kernel
theorem dX9_wipe_8 : decode cX9_wipe 8 = .ok (.iconst 0, 1) := by decide +kernel
theorem dX9_wipe_9 : decode cX9_wipe 9 = .ok (.ireturn, 1) := by decide +kernel
theorem dX9_wipe_10 : decode cX9_wipe 10 = .ok (.aload_n 0, 1) := by decide +kernel
theorem dX9_wipe_11 : decode cX9_wipe 11 = .ok (.invokevirtual 247, 3) := by decide +kernel
theorem dX9_wipe_14 : decode cX9_wipe 14 = .ok (.aload_n 0, 1) := by decide +kernel
theorem dX9_wipe_15 : decode cX9_wipe 15 = .ok (.getfield 13, 3) := by decide +kernel
theorem dX9_wipe_18 : decode cX9_wipe 18 = .ok (.iload_n 1, 1) := by decide +kernel
theorem dX9_wipe_19 : decode cX9_wipe 19 = .ok (.invokestatic 255, 3) := by decide +kernel
theorem dX9_wipe_22 : decode cX9_wipe 22 = .ok (.ireturn, 1) := by decide +kernel
set_option maxRecDepth 20000 in
theorem ggX9_step_X9_in : GoodIn wsX9_step wsX9_in := goodIn_r _ [6] (by decide +kernel) (by decide +kernel)
set_option maxRecDepth 20000 in
theorem gX9_step_X9_in : GoodIn wsX9_step (va_wsS RX9 60 yX9_in wsX9_in) := goodIn_app (goodIn_of _ (by decide +kernel)) ggX9_step_X9_in
set_option maxRecDepth 20000 in
theorem ggX9_step_X9_refused : GoodIn wsX9_step wsX9_refused := goodIn_r _ [10, 11, 104, 105, 106, 107, 108, 109, 110, 111, 112, 113, 114, 115, 116, 117, 118, 119, 120, 121, 122] (by decide +kernel) (by decide +kernel)
set_option maxRecDepth 20000 in
theorem gX9_step_X9_refused : GoodIn wsX9_step (wsV RX9 156 RX9 yX9_refused wsX9_refused) := goodIn_app (goodIn_of _ (by decide +kernel)) ggX9_step_X9_refused
set_option maxRecDepth 20000 in
theorem ggX9_step_X9_remember : GoodIn wsX9_step wsX9_remember := goodIn_r _ [15, 16, 17, 2, 18, 19, 5, 20, 104, 105, 106, 107, 108, 109, 110, 111, 112, 113, 114, 115, 116, 117, 118, 119, 120, 121, 122] (by decide +kernel) (by decide +kernel)
set_option maxRecDepth 20000 in
theorem gX9_step_X9_remember : GoodIn wsX9_step (wsV RX9 247 RX9 yX9_remember wsX9_remember) := goodIn_app (goodIn_of _ (by decide +kernel)) ggX9_step_X9_remember
set_option maxRecDepth 20000 in
theorem ggX9_step_X9_stepOn : GoodIn wsX9_step wsX9_stepOn := goodIn_r _ [24, 25, 26, 27, 5, 28, 29, 30, 31, 32, 33, 34, 35, 36, 37, 38, 39, 40, 41, 42, 43, 44, 45, 46, 47, 48, 49, 50, 51, 3, 4, 6, 52, 53, 54, 55, 56, 57, 58, 59, 60, 61, 62, 63, 64, 65, 66, 67, 68, 69, 70, 71, 72, 73, 74, 75, 76, 77, 78, 79, 80, 81, 82, 83, 84, 85, 86, 87, 88, 89, 90, 91, 92, 93, 94, 95, 96, 97, 98, 99, 100, 101, 102, 103, 104, 105, 106, 107, 108, 109, 110, 111, 112, 113, 114, 115, 116, 117, 118, 119, 120, 121, 122] (by decide +kernel) (by decide +kernel)
set_option maxRecDepth 20000 in
theorem gX9_step_X9_stepOn : GoodIn wsX9_step (wsV RX9 260 RX9 yX9_stepOn wsX9_stepOn) := goodIn_app (goodIn_of _ (by decide +kernel)) ggX9_step_X9_stepOn
theorem dX9_step_0 : decode cX9_step 0 = .ok (.aload_n 0, 1) := by decide +kernel
theorem dX9_step_1 : decode cX9_step 1 = .ok (.iload_n 1, 1) := by decide +kernel
theorem dX9_step_2 : decode cX9_step 2 = .ok (.i2l, 1) := by decide +kernel
theorem dX9_step_3 : decode cX9_step 3 = .ok (.lconst 1, 1) := by decide +kernel
theorem dX9_step_4 : decode cX9_step 4 = .ok (.ldc2_w 258, 3) := by decide +kernel
theorem dX9_step_7 : decode cX9_step 7 = .ok (.invokestatic 60, 3) := by decide +kernel
theorem dX9_step_10 : decode cX9_step 10 = .ok (.ifCond .eq 7, 3) := by decide +kernel
theorem dX9_step_13 : decode cX9_step 13 = .ok (.iconst 0, 1) := by decide +kernel
theorem dX9_step_14 : decode cX9_step 14 = .ok (.goto 4, 3) := by decide +kernel
theorem dX9_step_17 : decode cX9_step 17 = .ok (.iconst 1, 1) := by decide +kernel
theorem dX9_step_18 : decode cX9_step 18 = .ok (.invokevirtual 156, 3) := by decide +kernel
theorem dX9_step_21 : decode cX9_step 21 = .ok (.ifCond .eq 5, 3) := by decide +kernel
theorem dX9_step_24 : decode cX9_step 24 = .ok (.iconst 0, 1) := by decide +kernel
theorem dX9_step_25 : decode cX9_step 25 = .ok (.ireturn, 1) := by decide +kernel
theorem dX9_step_26 : decode cX9_step 26 = .ok (.aload_n 0, 1) := by decide +kernel
theorem dX9_step_27 : decode cX9_step 27 = .ok (.invokevirtual 247, 3) := by decide +kernel
theorem dX9_step_30 : decode cX9_step 30 = .ok (.aload_n 0, 1) := by decide +kernel
theorem dX9_step_31 : decode cX9_step 31 = .ok (.aload_n 0, 1) := by decide +kernel
theorem dX9_step_32 : decode cX9_step 32 = .ok (.getfield 13, 3) := by decide +kernel
theorem dX9_step_35 : decode cX9_step 35 = .ok (.iload_n 1, 1) := by decide +kernel
theorem dX9_step_36 : decode cX9_step 36 = .ok (.invokevirtual 260, 3) := by decide +kernel
theorem dX9_step_39 : decode cX9_step 39 = .ok (.ireturn, 1) := by decide +kernel
set_option maxRecDepth 20000 in
theorem ggX9_undo_X9_refused : GoodIn wsX9_undo wsX9_refused := goodIn_r _ [8, 9, 13, 14, 15, 16, 17, 18, 19, 20, 21, 22, 23, 24, 25, 26, 27, 28, 29, 30, 31] (by decide +kernel) (by decide +kernel)
set_option maxRecDepth 20000 in
theorem gX9_undo_X9_refused : GoodIn wsX9_undo (wsV RX9 156 RX9 yX9_refused wsX9_refused) := goodIn_app (goodIn_of _ (by decide +kernel)) ggX9_undo_X9_refused
set_option maxRecDepth 20000 in
theorem ggX9_undo_X9_copyState : GoodIn wsX9_undo wsX9_copyState := goodIn_r _ [12] (by decide +kernel) (by decide +kernel)
set_option maxRecDepth 20000 in
theorem gX9_undo_X9_copyState : GoodIn wsX9_undo (va_wsS RX9 220 yX9_copyState wsX9_copyState) := goodIn_app (goodIn_of _ (by decide +kernel)) ggX9_undo_X9_copyState
theorem dX9_undo_0 : decode cX9_undo 0 = .ok (.aload_n 0, 1) := by decide +kernel
theorem dX9_undo_1 : decode cX9_undo 1 = .ok (.aload_n 0, 1) := by decide +kernel
theorem dX9_undo_2 : decode cX9_undo 2 = .ok (.getfield 224, 3) := by decide +kernel
theorem dX9_undo_5 : decode cX9_undo 5 = .ok (.ifCond .ne 7, 3) := by decide +kernel
theorem dX9_undo_8 : decode cX9_undo 8 = .ok (.iconst 1, 1) := by decide +kernel
theorem dX9_undo_9 : decode cX9_undo 9 = .ok (.goto 4, 3) := by decide +kernel
theorem dX9_undo_12 : decode cX9_undo 12 = .ok (.iconst 0, 1) := by decide +kernel
theorem dX9_undo_13 : decode cX9_undo 13 = .ok (.invokevirtual 156, 3) := by decide +kernel
theorem dX9_undo_16 : decode cX9_undo 16 = .ok (.ifCond .eq 5, 3) := by decide +kernel
theorem dX9_undo_19 : decode cX9_undo 19 = .ok (.iconst 0, 1) := by decide +kernel
theorem dX9_undo_20 : decode cX9_undo 20 = .ok (.ireturn, 1) := by decide +kernel
theorem dX9_undo_21 : decode cX9_undo 21 = .ok (.aload_n 0, 1) := by decide +kernel
theorem dX9_undo_22 : decode cX9_undo 22 = .ok (.dup, 1) := by decide +kernel
theorem dX9_undo_23 : decode cX9_undo 23 = .ok (.getfield 224, 3) := by decide +kernel
theorem dX9_undo_26 : decode cX9_undo 26 = .ok (.iconst 1, 1) := by decide +kernel
theorem dX9_undo_27 : decode cX9_undo 27 = .ok (.isub, 1) := by decide +kernel
theorem dX9_undo_28 : decode cX9_undo 28 = .ok (.putfield 224, 3) := by decide +kernel
theorem dX9_undo_31 : decode cX9_undo 31 = .ok (.aload_n 0, 1) := by decide +kernel
theorem dX9_undo_32 : decode cX9_undo 32 = .ok (.getfield 22, 3) := by decide +kernel
theorem dX9_undo_35 : decode cX9_undo 35 = .ok (.bipush 117, 2) := by decide +kernel
theorem dX9_undo_37 : decode cX9_undo 37 = .ok (.aload_n 0, 1) := by decide +kernel
theorem dX9_undo_38 : decode cX9_undo 38 = .ok (.getfield 224, 3) := by decide +kernel
theorem dX9_undo_41 : decode cX9_undo 41 = .ok (.imul, 1) := by decide +kernel
theorem dX9_undo_42 : decode cX9_undo 42 = .ok (.aload_n 0, 1) := by decide +kernel
theorem dX9_undo_43 : decode cX9_undo 43 = .ok (.getfield 13, 3) := by decide +kernel
theorem dX9_undo_46 : decode cX9_undo 46 = .ok (.iconst 0, 1) := by decide +kernel
theorem dX9_undo_47 : decode cX9_undo 47 = .ok (.invokestatic 220, 3) := by decide +kernel
theorem dX9_undo_50 : decode cX9_undo 50 = .ok (.aload_n 0, 1) := by decide +kernel
theorem dX9_undo_51 : decode cX9_undo 51 = .ok (.getfield 224, 3) := by decide +kernel
theorem dX9_undo_54 : decode cX9_undo 54 = .ok (.ireturn, 1) := by decide +kernel
set_option maxRecDepth 20000 in
theorem ggX9_rowAhead_X9_noRobot : GoodIn wsX9_rowAhead wsX9_noRobot := goodIn_r _ [6, 7, 8, 5, 9, 10, 11, 12, 13, 14, 15, 16, 17, 34, 35, 36, 37, 38, 39, 40, 41, 42, 43, 44, 45, 46, 47, 48, 49, 50, 51, 52] (by decide +kernel) (by decide +kernel)
set_option maxRecDepth 20000 in
theorem gX9_rowAhead_X9_noRobot : GoodIn wsX9_rowAhead (wsV RX9 239 RX9 yX9_noRobot wsX9_noRobot) := goodIn_app (goodIn_of _ (by decide +kernel)) ggX9_rowAhead_X9_noRobot
set_option maxRecDepth 20000 in
theorem ggX9_rowAhead_X9_of : GoodIn wsX9_rowAhead wsX9_of := goodIn_r _ [20] (by decide +kernel) (by decide +kernel)
set_option maxRecDepth 20000 in
theorem gX9_rowAhead_X9_of : GoodIn wsX9_rowAhead (va_wsS RX9 64 yX9_of wsX9_of) := goodIn_app (goodIn_of _ (by decide +kernel)) ggX9_rowAhead_X9_of
set_option maxRecDepth 20000 in
theorem ggX9_rowAhead_X9_rowFrom : GoodIn wsX9_rowAhead wsX9_rowFrom := goodIn_r _ [23, 24, 25, 5, 26, 27, 10, 11, 12, 28, 29, 30, 31, 32, 33, 18, 19, 20] (by decide +kernel) (by decide +kernel)
set_option maxRecDepth 20000 in
theorem gX9_rowAhead_X9_rowFrom : GoodIn wsX9_rowAhead (va_wsS RX9 85 yX9_rowFrom wsX9_rowFrom) := goodIn_app (goodIn_of _ (by decide +kernel)) ggX9_rowAhead_X9_rowFrom
theorem dX9_rowAhead_0 : decode cX9_rowAhead 0 = .ok (.aload_n 0, 1) := by decide +kernel
theorem dX9_rowAhead_1 : decode cX9_rowAhead 1 = .ok (.iload_n 1, 1) := by decide +kernel
theorem dX9_rowAhead_2 : decode cX9_rowAhead 2 = .ok (.invokevirtual 239, 3) := by decide +kernel
theorem dX9_rowAhead_5 : decode cX9_rowAhead 5 = .ok (.ifCond .eq 7, 3) := by decide +kernel
theorem dX9_rowAhead_8 : decode cX9_rowAhead 8 = .ok (.iconst 0, 1) := by decide +kernel
theorem dX9_rowAhead_9 : decode cX9_rowAhead 9 = .ok (.goto 28, 3) := by decide +kernel
theorem dX9_rowAhead_12 : decode cX9_rowAhead 12 = .ok (.aload_n 0, 1) := by decide +kernel
theorem dX9_rowAhead_13 : decode cX9_rowAhead 13 = .ok (.getfield 13, 3) := by decide +kernel
theorem dX9_rowAhead_16 : decode cX9_rowAhead 16 = .ok (.aload_n 0, 1) := by decide +kernel
theorem dX9_rowAhead_17 : decode cX9_rowAhead 17 = .ok (.getfield 13, 3) := by decide +kernel
theorem dX9_rowAhead_20 : decode cX9_rowAhead 20 = .ok (.iload_n 1, 1) := by decide +kernel
theorem dX9_rowAhead_21 : decode cX9_rowAhead 21 = .ok (.iconst 0, 1) := by decide +kernel
theorem dX9_rowAhead_22 : decode cX9_rowAhead 22 = .ok (.invokestatic 64, 3) := by decide +kernel
theorem dX9_rowAhead_25 : decode cX9_rowAhead 25 = .ok (.aload_n 0, 1) := by decide +kernel
theorem dX9_rowAhead_26 : decode cX9_rowAhead 26 = .ok (.getfield 13, 3) := by decide +kernel
theorem dX9_rowAhead_29 : decode cX9_rowAhead 29 = .ok (.iload_n 1, 1) := by decide +kernel
theorem dX9_rowAhead_30 : decode cX9_rowAhead 30 = .ok (.iconst 1, 1) := by decide +kernel
theorem dX9_rowAhead_31 : decode cX9_rowAhead 31 = .ok (.invokestatic 64, 3) := by decide +kernel
theorem dX9_rowAhead_34 : decode cX9_rowAhead 34 = .ok (.invokestatic 85, 3) := by decide +kernel
theorem dX9_rowAhead_37 : decode cX9_rowAhead 37 = .ok (.ireturn, 1) := by decide +kernel
set_option maxRecDepth 20000 in
theorem ggX9_wouldClash_X9_findsWays : GoodIn wsX9_wouldClash wsX9_findsWays := goodIn_r _ [7, 8, 9, 10, 11, 6, 12, 13, 14, 15, 16, 17, 18, 19, 20, 21, 22, 23, 24, 25, 26, 27, 28, 29, 30, 31, 39, 40, 41, 42, 43, 44, 45, 46, 47, 48, 49, 50, 51, 52, 53, 54, 55, 56, 57] (by decide +kernel) (by decide +kernel)
set_option maxRecDepth 20000 in
theorem gX9_wouldClash_X9_findsWays : GoodIn wsX9_wouldClash (wsV RX9 103 RX9 yX9_findsWays wsX9_findsWays) := goodIn_app (goodIn_of _ (by decide +kernel)) ggX9_wouldClash_X9_findsWays
set_option maxRecDepth 20000 in
theorem ggX9_wouldClash_X9_clash : GoodIn wsX9_wouldClash wsX9_clash := goodIn_r _ [35, 9, 8, 13, 14, 6, 15, 36, 37, 38, 19, 20, 21, 22, 23, 24, 25, 39, 40, 41, 42, 43, 44, 45, 46, 47, 48, 49, 50, 51, 52, 53, 54, 55, 56, 57] (by decide +kernel) (by decide +kernel)
set_option maxRecDepth 20000 in
theorem gX9_wouldClash_X9_clash : GoodIn wsX9_wouldClash (wsV RX9 106 RX9 yX9_clash wsX9_clash) := goodIn_app (goodIn_of _ (by decide +kernel)) ggX9_wouldClash_X9_clash
theorem dX9_wouldClash_0 : decode cX9_wouldClash 0 = .ok (.aload_n 0, 1) := by decide +kernel
theorem dX9_wouldClash_1 : decode cX9_wouldClash 1 = .ok (.iconst 0, 1) := by decide +kernel
theorem dX9_wouldClash_2 : decode cX9_wouldClash 2 = .ok (.putfield 54, 3) := by decide +kernel
theorem dX9_wouldClash_5 : decode cX9_wouldClash 5 = .ok (.aload_n 0, 1) := by decide +kernel
theorem dX9_wouldClash_6 : decode cX9_wouldClash 6 = .ok (.aload_n 0, 1) := by decide +kernel
theorem dX9_wouldClash_7 : decode cX9_wouldClash 7 = .ok (.getfield 13, 3) := by decide +kernel
theorem dX9_wouldClash_10 : decode cX9_wouldClash 10 = .ok (.invokevirtual 103, 3) := by decide +kernel
theorem dX9_wouldClash_13 : decode cX9_wouldClash 13 = .ok (.aload_n 0, 1) := by decide +kernel
theorem dX9_wouldClash_14 : decode cX9_wouldClash 14 = .ok (.aload_n 0, 1) := by decide +kernel
theorem dX9_wouldClash_15 : decode cX9_wouldClash 15 = .ok (.getfield 13, 3) := by decide +kernel
theorem dX9_wouldClash_18 : decode cX9_wouldClash 18 = .ok (.invokevirtual 106, 3) := by decide +kernel
theorem dX9_wouldClash_21 : decode cX9_wouldClash 21 = .ok (.ireturn, 1) := by decide +kernel
set_option maxRecDepth 20000 in
theorem ggX9_passesIn_X9_noRobot : GoodIn wsX9_passesIn wsX9_noRobot := goodIn_r _ [7, 8, 9, 6, 10, 11, 12, 13, 14, 15, 16, 17, 18, 101, 102, 103, 104, 105, 106, 107, 108, 109, 110, 111, 112, 113, 114, 115, 116, 117, 118, 119] (by decide +kernel) (by decide +kernel)
set_option maxRecDepth 20000 in
theorem gX9_passesIn_X9_noRobot : GoodIn wsX9_passesIn (wsV RX9 239 RX9 yX9_noRobot wsX9_noRobot) := goodIn_app (goodIn_of _ (by decide +kernel)) ggX9_passesIn_X9_noRobot
set_option maxRecDepth 20000 in
theorem ggX9_passesIn_X9_copyState : GoodIn wsX9_passesIn wsX9_copyState := goodIn_r _ [21] (by decide +kernel) (by decide +kernel)
set_option maxRecDepth 20000 in
theorem gX9_passesIn_X9_copyState : GoodIn wsX9_passesIn (va_wsS RX9 220 yX9_copyState wsX9_copyState) := goodIn_app (goodIn_of _ (by decide +kernel)) ggX9_passesIn_X9_copyState
set_option maxRecDepth 20000 in
theorem ggX9_passesIn_X9_one : GoodIn wsX9_passesIn wsX9_one := goodIn_r _ [25, 26, 27, 28, 6, 29, 30, 31, 32, 33, 34, 35, 36, 37, 38, 39, 40, 41, 42, 43, 44, 45, 46, 47, 48, 11, 12, 13, 49, 50, 51, 52, 53, 54, 55, 56, 57, 58, 59, 60, 61, 62, 63, 64, 65, 66, 67, 68, 69, 70, 71, 72, 73, 74, 75, 76, 77, 78, 79, 80, 81, 82, 83, 84, 85, 86, 87, 88, 89, 90, 91, 92, 93, 94, 95, 96, 97, 98, 99, 100, 101, 102, 103, 104, 105, 106, 107, 108, 109, 110, 111, 112, 113, 114, 115, 116, 117, 118, 119] (by decide +kernel) (by decide +kernel)
set_option maxRecDepth 20000 in
theorem gX9_passesIn_X9_one : GoodIn wsX9_passesIn (wsV RX9 139 RX9 yX9_one wsX9_one) := goodIn_app (goodIn_of _ (by decide +kernel)) ggX9_passesIn_X9_one
set_option maxRecDepth 20000 in
theorem ggX9_passesIn_X9_of : GoodIn wsX9_passesIn wsX9_of := goodIn_r _ [41] (by decide +kernel) (by decide +kernel)
set_option maxRecDepth 20000 in
theorem gX9_passesIn_X9_of : GoodIn wsX9_passesIn (va_wsS RX9 64 yX9_of wsX9_of) := goodIn_app (goodIn_of _ (by decide +kernel)) ggX9_passesIn_X9_of
theorem dX9_passesIn_0 : decode cX9_passesIn 0 = .ok (.aload_n 0, 1) := by decide +kernel
theorem dX9_passesIn_1 : decode cX9_passesIn 1 = .ok (.iload_n 1, 1) := by decide +kernel
theorem dX9_passesIn_2 : decode cX9_passesIn 2 = .ok (.invokevirtual 239, 3) := by decide +kernel
theorem dX9_passesIn_5 : decode cX9_passesIn 5 = .ok (.ifCond .eq 5, 3) := by decide +kernel
theorem dX9_passesIn_8 : decode cX9_passesIn 8 = .ok (.iconst 0, 1) := by decide +kernel
theorem dX9_passesIn_9 : decode cX9_passesIn 9 = .ok (.ireturn, 1) := by decide +kernel
theorem dX9_passesIn_10 : decode cX9_passesIn 10 = .ok (.aload_n 0, 1) := by decide +kernel
theorem dX9_passesIn_11 : decode cX9_passesIn 11 = .ok (.getfield 13, 3) := by decide +kernel
theorem dX9_passesIn_14 : decode cX9_passesIn 14 = .ok (.iconst 0, 1) := by decide +kernel
theorem dX9_passesIn_15 : decode cX9_passesIn 15 = .ok (.aload_n 0, 1) := by decide +kernel
theorem dX9_passesIn_16 : decode cX9_passesIn 16 = .ok (.getfield 16, 3) := by decide +kernel
theorem dX9_passesIn_19 : decode cX9_passesIn 19 = .ok (.iconst 0, 1) := by decide +kernel
theorem dX9_passesIn_20 : decode cX9_passesIn 20 = .ok (.invokestatic 220, 3) := by decide +kernel
theorem dX9_passesIn_23 : decode cX9_passesIn 23 = .ok (.iconst 1, 1) := by decide +kernel
theorem dX9_passesIn_24 : decode cX9_passesIn 24 = .ok (.istore_n 2, 1) := by decide +kernel
theorem dX9_passesIn_25 : decode cX9_passesIn 25 = .ok (.iload_n 2, 1) := by decide +kernel
theorem dX9_passesIn_26 : decode cX9_passesIn 26 = .ok (.sipush 150, 3) := by decide +kernel
theorem dX9_passesIn_29 : decode cX9_passesIn 29 = .ok (.if_icmp .gt 41, 3) := by decide +kernel
theorem dX9_passesIn_32 : decode cX9_passesIn 32 = .ok (.aload_n 0, 1) := by decide +kernel
theorem dX9_passesIn_33 : decode cX9_passesIn 33 = .ok (.aload_n 0, 1) := by decide +kernel
theorem dX9_passesIn_34 : decode cX9_passesIn 34 = .ok (.getfield 16, 3) := by decide +kernel
theorem dX9_passesIn_37 : decode cX9_passesIn 37 = .ok (.invokevirtual 139, 3) := by decide +kernel
theorem dX9_passesIn_40 : decode cX9_passesIn 40 = .ok (.pop, 1) := by decide +kernel
theorem dX9_passesIn_41 : decode cX9_passesIn 41 = .ok (.aload_n 0, 1) := by decide +kernel
theorem dX9_passesIn_42 : decode cX9_passesIn 42 = .ok (.getfield 16, 3) := by decide +kernel
theorem dX9_passesIn_45 : decode cX9_passesIn 45 = .ok (.iload_n 1, 1) := by decide +kernel
theorem dX9_passesIn_46 : decode cX9_passesIn 46 = .ok (.iconst 2, 1) := by decide +kernel
theorem dX9_passesIn_47 : decode cX9_passesIn 47 = .ok (.invokestatic 64, 3) := by decide +kernel
theorem dX9_passesIn_50 : decode cX9_passesIn 50 = .ok (.aload_n 0, 1) := by decide +kernel
theorem dX9_passesIn_51 : decode cX9_passesIn 51 = .ok (.getfield 13, 3) := by decide +kernel
theorem dX9_passesIn_54 : decode cX9_passesIn 54 = .ok (.iload_n 1, 1) := by decide +kernel
theorem dX9_passesIn_55 : decode cX9_passesIn 55 = .ok (.iconst 2, 1) := by decide +kernel
theorem dX9_passesIn_56 : decode cX9_passesIn 56 = .ok (.invokestatic 64, 3) := by decide +kernel
theorem dX9_passesIn_59 : decode cX9_passesIn 59 = .ok (.if_icmp .le 5, 3) := by decide +kernel
theorem dX9_passesIn_62 : decode cX9_passesIn 62 = .ok (.iload_n 2, 1) := by decide +kernel
theorem dX9_passesIn_63 : decode cX9_passesIn 63 = .ok (.ireturn, 1) := by decide +kernel
theorem dX9_passesIn_64 : decode cX9_passesIn 64 = .ok (.iinc 2 1, 3) := by decide +kernel
theorem dX9_passesIn_67 : decode cX9_passesIn 67 = .ok (.goto (-42), 3) := by decide +kernel
theorem dX9_passesIn_70 : decode cX9_passesIn 70 = .ok (.iconst (-1), 1) := by decide +kernel
theorem dX9_passesIn_71 : decode cX9_passesIn 71 = .ok (.ireturn, 1) := by decide +kernel
set_option maxRecDepth 20000 in
theorem ggX9_areLike_X9_of : GoodIn wsX9_areLike wsX9_of := goodIn_r _ [4] (by decide +kernel) (by decide +kernel)
set_option maxRecDepth 20000 in
theorem gX9_areLike_X9_of : GoodIn wsX9_areLike (va_wsS RX9 64 yX9_of wsX9_of) := goodIn_app (goodIn_of _ (by decide +kernel)) ggX9_areLike_X9_of
theorem dX9_areLike_0 : decode cX9_areLike 0 = .ok (.iconst 0, 1) := by decide +kernel
theorem dX9_areLike_1 : decode cX9_areLike 1 = .ok (.istore_n 2, 1) := by decide +kernel
theorem dX9_areLike_2 : decode cX9_areLike 2 = .ok (.iload_n 2, 1) := by decide +kernel
theorem dX9_areLike_3 : decode cX9_areLike 3 = .ok (.bipush 36, 2) := by decide +kernel
theorem dX9_areLike_5 : decode cX9_areLike 5 = .ok (.if_icmp .ge 26, 3) := by decide +kernel
theorem dX9_areLike_8 : decode cX9_areLike 8 = .ok (.aload_n 0, 1) := by decide +kernel
theorem dX9_areLike_9 : decode cX9_areLike 9 = .ok (.bipush 36, 2) := by decide +kernel
theorem dX9_areLike_11 : decode cX9_areLike 11 = .ok (.iload_n 2, 1) := by decide +kernel
theorem dX9_areLike_12 : decode cX9_areLike 12 = .ok (.iadd, 1) := by decide +kernel
theorem dX9_areLike_13 : decode cX9_areLike 13 = .ok (.iaload, 1) := by decide +kernel
theorem dX9_areLike_14 : decode cX9_areLike 14 = .ok (.aload_n 1, 1) := by decide +kernel
theorem dX9_areLike_15 : decode cX9_areLike 15 = .ok (.bipush 36, 2) := by decide +kernel
theorem dX9_areLike_17 : decode cX9_areLike 17 = .ok (.iload_n 2, 1) := by decide +kernel
theorem dX9_areLike_18 : decode cX9_areLike 18 = .ok (.iadd, 1) := by decide +kernel
theorem dX9_areLike_19 : decode cX9_areLike 19 = .ok (.iaload, 1) := by decide +kernel
theorem dX9_areLike_20 : decode cX9_areLike 20 = .ok (.if_icmp .eq 5, 3) := by decide +kernel
theorem dX9_areLike_23 : decode cX9_areLike 23 = .ok (.iconst 0, 1) := by decide +kernel
theorem dX9_areLike_24 : decode cX9_areLike 24 = .ok (.ireturn, 1) := by decide +kernel
theorem dX9_areLike_25 : decode cX9_areLike 25 = .ok (.iinc 2 1, 3) := by decide +kernel
theorem dX9_areLike_28 : decode cX9_areLike 28 = .ok (.goto (-26), 3) := by decide +kernel
theorem dX9_areLike_31 : decode cX9_areLike 31 = .ok (.iconst 1, 1) := by decide +kernel
theorem dX9_areLike_32 : decode cX9_areLike 32 = .ok (.istore_n 2, 1) := by decide +kernel
theorem dX9_areLike_33 : decode cX9_areLike 33 = .ok (.iconst 0, 1) := by decide +kernel
theorem dX9_areLike_34 : decode cX9_areLike 34 = .ok (.istore_n 3, 1) := by decide +kernel
theorem dX9_areLike_35 : decode cX9_areLike 35 = .ok (.iload_n 3, 1) := by decide +kernel
theorem dX9_areLike_36 : decode cX9_areLike 36 = .ok (.iconst 2, 1) := by decide +kernel
theorem dX9_areLike_37 : decode cX9_areLike 37 = .ok (.if_icmp .ge 81, 3) := by decide +kernel
theorem dX9_areLike_40 : decode cX9_areLike 40 = .ok (.iload_n 2, 1) := by decide +kernel
theorem dX9_areLike_41 : decode cX9_areLike 41 = .ok (.ifCond .eq 69, 3) := by decide +kernel
theorem dX9_areLike_44 : decode cX9_areLike 44 = .ok (.aload_n 0, 1) := by decide +kernel
theorem dX9_areLike_45 : decode cX9_areLike 45 = .ok (.iload_n 3, 1) := by decide +kernel
theorem dX9_areLike_46 : decode cX9_areLike 46 = .ok (.iconst 0, 1) := by decide +kernel
theorem dX9_areLike_47 : decode cX9_areLike 47 = .ok (.invokestatic 64, 3) := by decide +kernel
theorem dX9_areLike_50 : decode cX9_areLike 50 = .ok (.aload_n 1, 1) := by decide +kernel
theorem dX9_areLike_51 : decode cX9_areLike 51 = .ok (.iload_n 3, 1) := by decide +kernel
theorem dX9_areLike_52 : decode cX9_areLike 52 = .ok (.iconst 0, 1) := by decide +kernel
theorem dX9_areLike_53 : decode cX9_areLike 53 = .ok (.invokestatic 64, 3) := by decide +kernel
theorem dX9_areLike_56 : decode cX9_areLike 56 = .ok (.if_icmp .ne 54, 3) := by decide +kernel
theorem dX9_areLike_59 : decode cX9_areLike 59 = .ok (.aload_n 0, 1) := by decide +kernel
theorem dX9_areLike_60 : decode cX9_areLike 60 = .ok (.iload_n 3, 1) := by decide +kernel
theorem dX9_areLike_61 : decode cX9_areLike 61 = .ok (.iconst 1, 1) := by decide +kernel
theorem dX9_areLike_62 : decode cX9_areLike 62 = .ok (.invokestatic 64, 3) := by decide +kernel
theorem dX9_areLike_65 : decode cX9_areLike 65 = .ok (.aload_n 1, 1) := by decide +kernel
theorem dX9_areLike_66 : decode cX9_areLike 66 = .ok (.iload_n 3, 1) := by decide +kernel
theorem dX9_areLike_67 : decode cX9_areLike 67 = .ok (.iconst 1, 1) := by decide +kernel
theorem dX9_areLike_68 : decode cX9_areLike 68 = .ok (.invokestatic 64, 3) := by decide +kernel
theorem dX9_areLike_71 : decode cX9_areLike 71 = .ok (.if_icmp .ne 39, 3) := by decide +kernel
theorem dX9_areLike_74 : decode cX9_areLike 74 = .ok (.aload_n 0, 1) := by decide +kernel
theorem dX9_areLike_75 : decode cX9_areLike 75 = .ok (.iload_n 3, 1) := by decide +kernel
theorem dX9_areLike_76 : decode cX9_areLike 76 = .ok (.iconst 2, 1) := by decide +kernel
theorem dX9_areLike_77 : decode cX9_areLike 77 = .ok (.invokestatic 64, 3) := by decide +kernel
theorem dX9_areLike_80 : decode cX9_areLike 80 = .ok (.aload_n 1, 1) := by decide +kernel
theorem dX9_areLike_81 : decode cX9_areLike 81 = .ok (.iload_n 3, 1) := by decide +kernel
theorem dX9_areLike_82 : decode cX9_areLike 82 = .ok (.iconst 2, 1) := by decide +kernel
theorem dX9_areLike_83 : decode cX9_areLike 83 = .ok (.invokestatic 64, 3) := by decide +kernel
theorem dX9_areLike_86 : decode cX9_areLike 86 = .ok (.if_icmp .ne 24, 3) := by decide +kernel
theorem dX9_areLike_89 : decode cX9_areLike 89 = .ok (.aload_n 0, 1) := by decide +kernel
theorem dX9_areLike_90 : decode cX9_areLike 90 = .ok (.iload_n 3, 1) := by decide +kernel
theorem dX9_areLike_91 : decode cX9_areLike 91 = .ok (.bipush 7, 2) := by decide +kernel
theorem dX9_areLike_93 : decode cX9_areLike 93 = .ok (.invokestatic 64, 3) := by decide +kernel
theorem dX9_areLike_96 : decode cX9_areLike 96 = .ok (.aload_n 1, 1) := by decide +kernel
theorem dX9_areLike_97 : decode cX9_areLike 97 = .ok (.iload_n 3, 1) := by decide +kernel
theorem dX9_areLike_98 : decode cX9_areLike 98 = .ok (.bipush 7, 2) := by decide +kernel
theorem dX9_areLike_100 : decode cX9_areLike 100 = .ok (.invokestatic 64, 3) := by decide +kernel
theorem dX9_areLike_103 : decode cX9_areLike 103 = .ok (.if_icmp .ne 7, 3) := by decide +kernel
theorem dX9_areLike_106 : decode cX9_areLike 106 = .ok (.iconst 1, 1) := by decide +kernel
theorem dX9_areLike_107 : decode cX9_areLike 107 = .ok (.goto 4, 3) := by decide +kernel
theorem dX9_areLike_110 : decode cX9_areLike 110 = .ok (.iconst 0, 1) := by decide +kernel
theorem dX9_areLike_111 : decode cX9_areLike 111 = .ok (.istore_n 2, 1) := by decide +kernel
theorem dX9_areLike_112 : decode cX9_areLike 112 = .ok (.iinc 3 1, 3) := by decide +kernel
theorem dX9_areLike_115 : decode cX9_areLike 115 = .ok (.goto (-80), 3) := by decide +kernel
theorem dX9_areLike_118 : decode cX9_areLike 118 = .ok (.iload_n 2, 1) := by decide +kernel
theorem dX9_areLike_119 : decode cX9_areLike 119 = .ok (.ireturn, 1) := by decide +kernel
set_option maxRecDepth 20000 in
theorem ggX9_loop_X9_copyState : GoodIn wsX9_loop wsX9_copyState := goodIn_r _ [8] (by decide +kernel) (by decide +kernel)
set_option maxRecDepth 20000 in
theorem gX9_loop_X9_copyState : GoodIn wsX9_loop (va_wsS RX9 220 yX9_copyState wsX9_copyState) := goodIn_app (goodIn_of _ (by decide +kernel)) ggX9_loop_X9_copyState
set_option maxRecDepth 20000 in
theorem ggX9_loop_X9_stepOn : GoodIn wsX9_loop wsX9_stepOn := goodIn_r _ [12, 13, 14, 15, 7, 16, 17, 18, 19, 20, 21, 22, 23, 24, 25, 26, 27, 28, 29, 30, 31, 32, 33, 34, 35, 36, 37, 38, 39, 40, 41, 42, 43, 44, 45, 46, 47, 48, 49, 50, 51, 52, 53, 54, 55, 56, 57, 58, 59, 60, 61, 62, 63, 64, 65, 66, 67, 68, 69, 70, 71, 72, 73, 74, 75, 76, 77, 78, 79, 80, 81, 82, 83, 84, 85, 86, 87, 88, 89, 90, 91, 92, 93, 94, 98, 99, 100, 101, 102, 103, 104, 105, 106, 107, 108, 109, 110, 111, 112, 113, 114, 115, 116] (by decide +kernel) (by decide +kernel)
set_option maxRecDepth 20000 in
theorem gX9_loop_X9_stepOn : GoodIn wsX9_loop (wsV RX9 260 RX9 yX9_stepOn wsX9_stepOn) := goodIn_app (goodIn_of _ (by decide +kernel)) ggX9_loop_X9_stepOn
set_option maxRecDepth 20000 in
theorem ggX9_loop_X9_one : GoodIn wsX9_loop wsX9_one := goodIn_r _ [16, 17, 18, 19, 7, 20, 21, 22, 23, 24, 25, 26, 27, 28, 29, 30, 31, 32, 33, 34, 35, 36, 37, 38, 39, 40, 41, 42, 43, 44, 45, 46, 47, 48, 49, 50, 51, 52, 53, 54, 55, 56, 57, 58, 59, 60, 61, 62, 63, 64, 65, 66, 67, 68, 69, 70, 71, 72, 73, 74, 75, 76, 77, 78, 79, 80, 81, 82, 83, 84, 85, 86, 87, 88, 89, 90, 91, 92, 93, 94, 98, 99, 100, 101, 102, 103, 104, 105, 106, 107, 108, 109, 110, 111, 112, 113, 114, 115, 116] (by decide +kernel) (by decide +kernel)
set_option maxRecDepth 20000 in
theorem gX9_loop_X9_one : GoodIn wsX9_loop (wsV RX9 139 RX9 yX9_one wsX9_one) := goodIn_app (goodIn_of _ (by decide +kernel)) ggX9_loop_X9_one
set_option maxRecDepth 20000 in
theorem ggX9_loop_X9_areLike : GoodIn wsX9_loop wsX9_areLike := goodIn_r _ [97, 30, 31, 7, 32] (by decide +kernel) (by decide +kernel)
set_option maxRecDepth 20000 in
theorem gX9_loop_X9_areLike : GoodIn wsX9_loop (va_wsS RX9 263 yX9_areLike wsX9_areLike) := goodIn_app (goodIn_of _ (by decide +kernel)) ggX9_loop_X9_areLike
theorem dX9_loop_0 : decode cX9_loop 0 = .ok (.aload_n 0, 1) := by decide +kernel
theorem dX9_loop_1 : decode cX9_loop 1 = .ok (.iconst 0, 1) := by decide +kernel
theorem dX9_loop_2 : decode cX9_loop 2 = .ok (.putfield 54, 3) := by decide +kernel
theorem dX9_loop_5 : decode cX9_loop 5 = .ok (.aload_n 0, 1) := by decide +kernel
theorem dX9_loop_6 : decode cX9_loop 6 = .ok (.getfield 13, 3) := by decide +kernel
theorem dX9_loop_9 : decode cX9_loop 9 = .ok (.iconst 0, 1) := by decide +kernel
theorem dX9_loop_10 : decode cX9_loop 10 = .ok (.aload_n 0, 1) := by decide +kernel
theorem dX9_loop_11 : decode cX9_loop 11 = .ok (.getfield 16, 3) := by decide +kernel
theorem dX9_loop_14 : decode cX9_loop 14 = .ok (.iconst 0, 1) := by decide +kernel
theorem dX9_loop_15 : decode cX9_loop 15 = .ok (.invokestatic 220, 3) := by decide +kernel
theorem dX9_loop_18 : decode cX9_loop 18 = .ok (.aload_n 0, 1) := by decide +kernel
theorem dX9_loop_19 : decode cX9_loop 19 = .ok (.aload_n 0, 1) := by decide +kernel
theorem dX9_loop_20 : decode cX9_loop 20 = .ok (.getfield 16, 3) := by decide +kernel
theorem dX9_loop_23 : decode cX9_loop 23 = .ok (.bipush 120, 2) := by decide +kernel
theorem dX9_loop_25 : decode cX9_loop 25 = .ok (.invokevirtual 260, 3) := by decide +kernel
theorem dX9_loop_28 : decode cX9_loop 28 = .ok (.pop, 1) := by decide +kernel
theorem dX9_loop_29 : decode cX9_loop 29 = .ok (.aload_n 0, 1) := by decide +kernel
theorem dX9_loop_30 : decode cX9_loop 30 = .ok (.getfield 16, 3) := by decide +kernel
theorem dX9_loop_33 : decode cX9_loop 33 = .ok (.iconst 0, 1) := by decide +kernel
theorem dX9_loop_34 : decode cX9_loop 34 = .ok (.aload_n 0, 1) := by decide +kernel
theorem dX9_loop_35 : decode cX9_loop 35 = .ok (.getfield 19, 3) := by decide +kernel
theorem dX9_loop_38 : decode cX9_loop 38 = .ok (.iconst 0, 1) := by decide +kernel
theorem dX9_loop_39 : decode cX9_loop 39 = .ok (.invokestatic 220, 3) := by decide +kernel
theorem dX9_loop_42 : decode cX9_loop 42 = .ok (.iconst 1, 1) := by decide +kernel
theorem dX9_loop_43 : decode cX9_loop 43 = .ok (.istore_n 1, 1) := by decide +kernel
theorem dX9_loop_44 : decode cX9_loop 44 = .ok (.iload_n 1, 1) := by decide +kernel
theorem dX9_loop_45 : decode cX9_loop 45 = .ok (.bipush 120, 2) := by decide +kernel
theorem dX9_loop_47 : decode cX9_loop 47 = .ok (.if_icmp .gt 34, 3) := by decide +kernel
theorem dX9_loop_50 : decode cX9_loop 50 = .ok (.aload_n 0, 1) := by decide +kernel
theorem dX9_loop_51 : decode cX9_loop 51 = .ok (.aload_n 0, 1) := by decide +kernel
theorem dX9_loop_52 : decode cX9_loop 52 = .ok (.getfield 16, 3) := by decide +kernel
theorem dX9_loop_55 : decode cX9_loop 55 = .ok (.invokevirtual 139, 3) := by decide +kernel
theorem dX9_loop_58 : decode cX9_loop 58 = .ok (.pop, 1) := by decide +kernel
theorem dX9_loop_59 : decode cX9_loop 59 = .ok (.aload_n 0, 1) := by decide +kernel
theorem dX9_loop_60 : decode cX9_loop 60 = .ok (.getfield 16, 3) := by decide +kernel
theorem dX9_loop_63 : decode cX9_loop 63 = .ok (.aload_n 0, 1) := by decide +kernel
theorem dX9_loop_64 : decode cX9_loop 64 = .ok (.getfield 19, 3) := by decide +kernel
theorem dX9_loop_67 : decode cX9_loop 67 = .ok (.invokestatic 263, 3) := by decide +kernel
theorem dX9_loop_70 : decode cX9_loop 70 = .ok (.ifCond .eq 5, 3) := by decide +kernel
theorem dX9_loop_73 : decode cX9_loop 73 = .ok (.iload_n 1, 1) := by decide +kernel
theorem dX9_loop_74 : decode cX9_loop 74 = .ok (.ireturn, 1) := by decide +kernel
theorem dX9_loop_75 : decode cX9_loop 75 = .ok (.iinc 1 1, 3) := by decide +kernel
theorem dX9_loop_78 : decode cX9_loop 78 = .ok (.goto (-34), 3) := by decide +kernel
theorem dX9_loop_81 : decode cX9_loop 81 = .ok (.iconst (-1), 1) := by decide +kernel
theorem dX9_loop_82 : decode cX9_loop 82 = .ok (.ireturn, 1) := by decide +kernel
set_option maxRecDepth 20000 in
theorem ggX9_loopByWaiting_X9_loop : GoodIn wsX9_loopByWaiting wsX9_loop := goodIn_r _ [5, 6, 7, 8, 9, 10, 11, 4, 12, 13, 14, 15, 16, 17, 18, 19, 20, 21, 22, 23, 24, 25, 26, 27, 28, 29, 30, 31, 32, 33, 34, 35, 36, 37, 38, 39, 40, 41, 42, 43, 44, 45, 46, 47, 48, 49, 50, 51, 52, 53, 54, 55, 56, 57, 58, 59, 60, 61, 62, 63, 64, 65, 66, 67, 68, 69, 70, 71, 72, 73, 74, 75, 76, 77, 78, 79, 80, 81, 82, 83, 84, 85, 86, 87, 88, 89, 90, 91, 92, 93, 94, 95, 96, 97, 98, 99, 100, 101, 102, 103, 104, 105, 106, 107, 108, 109, 110, 111, 112, 113, 114, 115, 116, 117, 118, 119, 120] (by decide +kernel) (by decide +kernel)
set_option maxRecDepth 20000 in
theorem gX9_loopByWaiting_X9_loop : GoodIn wsX9_loopByWaiting (wsV RX9 267 RX9 yX9_loop wsX9_loop) := goodIn_app (goodIn_of _ (by decide +kernel)) ggX9_loopByWaiting_X9_loop
theorem dX9_loopByWaiting_0 : decode cX9_loopByWaiting 0 = .ok (.aload_n 0, 1) := by decide +kernel
theorem dX9_loopByWaiting_1 : decode cX9_loopByWaiting 1 = .ok (.invokevirtual 267, 3) := by decide +kernel
theorem dX9_loopByWaiting_4 : decode cX9_loopByWaiting 4 = .ok (.ireturn, 1) := by decide +kernel
set_option maxRecDepth 20000 in
theorem ggX9_loopByKeeping_X9_loop : GoodIn wsX9_loopByKeeping wsX9_loop := goodIn_r _ [5, 6, 7, 8, 9, 10, 11, 4, 12, 13, 14, 15, 16, 17, 18, 19, 20, 21, 22, 23, 24, 25, 26, 27, 28, 29, 30, 31, 32, 33, 34, 35, 36, 37, 38, 39, 40, 41, 42, 43, 44, 45, 46, 47, 48, 49, 50, 51, 52, 53, 54, 55, 56, 57, 58, 59, 60, 61, 62, 63, 64, 65, 66, 67, 68, 69, 70, 71, 72, 73, 74, 75, 76, 77, 78, 79, 80, 81, 82, 83, 84, 85, 86, 87, 88, 89, 90, 91, 92, 93, 94, 95, 96, 97, 98, 99, 100, 101, 102, 103, 104, 105, 106, 107, 108, 109, 110, 111, 112, 113, 114, 115, 116, 117, 118, 119, 120] (by decide +kernel) (by decide +kernel)
set_option maxRecDepth 20000 in
theorem gX9_loopByKeeping_X9_loop : GoodIn wsX9_loopByKeeping (wsV RX9 267 RX9 yX9_loop wsX9_loop) := goodIn_app (goodIn_of _ (by decide +kernel)) ggX9_loopByKeeping_X9_loop
theorem dX9_loopByKeeping_0 : decode cX9_loopByKeeping 0 = .ok (.aload_n 0, 1) := by decide +kernel
theorem dX9_loopByKeeping_1 : decode cX9_loopByKeeping 1 = .ok (.invokevirtual 267, 3) := by decide +kernel
theorem dX9_loopByKeeping_4 : decode cX9_loopByKeeping 4 = .ok (.ireturn, 1) := by decide +kernel
set_option maxRecDepth 20000 in
theorem ggX9_brings_X9_next : GoodIn wsX9_brings wsX9_next := goodIn_r _ [4, 5, 6, 7, 3, 8] (by decide +kernel) (by decide +kernel)
set_option maxRecDepth 20000 in
theorem gX9_brings_X9_next : GoodIn wsX9_brings (va_wsS RX9 74 yX9_next wsX9_next) := goodIn_app (goodIn_of _ (by decide +kernel)) ggX9_brings_X9_next
set_option maxRecDepth 20000 in
theorem ggX9_brings_X9_isHard : GoodIn wsX9_brings wsX9_isHard := goodIn_r _ [11] (by decide +kernel) (by decide +kernel)
set_option maxRecDepth 20000 in
theorem gX9_brings_X9_isHard : GoodIn wsX9_brings (va_wsS RX9 145 yX9_isHard wsX9_isHard) := goodIn_app (goodIn_of _ (by decide +kernel)) ggX9_brings_X9_isHard
theorem dX9_brings_0 : decode cX9_brings 0 = .ok (.iload_n 1, 1) := by decide +kernel
theorem dX9_brings_1 : decode cX9_brings 1 = .ok (.iconst 4, 1) := by decide +kernel
theorem dX9_brings_2 : decode cX9_brings 2 = .ok (.irem, 1) := by decide +kernel
theorem dX9_brings_3 : decode cX9_brings 3 = .ok (.istore_n 3, 1) := by decide +kernel
theorem dX9_brings_4 : decode cX9_brings 4 = .ok (.iload_n 2, 1) := by decide +kernel
theorem dX9_brings_5 : decode cX9_brings 5 = .ok (.iconst 1, 1) := by decide +kernel
theorem dX9_brings_6 : decode cX9_brings 6 = .ok (.if_icmp .le 31, 3) := by decide +kernel
theorem dX9_brings_9 : decode cX9_brings 9 = .ok (.iload_n 1, 1) := by decide +kernel
theorem dX9_brings_10 : decode cX9_brings 10 = .ok (.iload_n 3, 1) := by decide +kernel
theorem dX9_brings_11 : decode cX9_brings 11 = .ok (.isub, 1) := by decide +kernel
theorem dX9_brings_12 : decode cX9_brings 12 = .ok (.iload_n 3, 1) := by decide +kernel
theorem dX9_brings_13 : decode cX9_brings 13 = .ok (.iload_n 2, 1) := by decide +kernel
theorem dX9_brings_14 : decode cX9_brings 14 = .ok (.iconst 2, 1) := by decide +kernel
theorem dX9_brings_15 : decode cX9_brings 15 = .ok (.if_icmp .ne 7, 3) := by decide +kernel
theorem dX9_brings_18 : decode cX9_brings 18 = .ok (.iconst 3, 1) := by decide +kernel
theorem dX9_brings_19 : decode cX9_brings 19 = .ok (.goto 13, 3) := by decide +kernel
theorem dX9_brings_22 : decode cX9_brings 22 = .ok (.iload_n 2, 1) := by decide +kernel
theorem dX9_brings_23 : decode cX9_brings 23 = .ok (.iconst 3, 1) := by decide +kernel
theorem dX9_brings_24 : decode cX9_brings 24 = .ok (.if_icmp .ne 7, 3) := by decide +kernel
theorem dX9_brings_27 : decode cX9_brings 27 = .ok (.iconst 1, 1) := by decide +kernel
theorem dX9_brings_28 : decode cX9_brings 28 = .ok (.goto 4, 3) := by decide +kernel
theorem dX9_brings_31 : decode cX9_brings 31 = .ok (.iconst 2, 1) := by decide +kernel
theorem dX9_brings_32 : decode cX9_brings 32 = .ok (.iadd, 1) := by decide +kernel
theorem dX9_brings_33 : decode cX9_brings 33 = .ok (.iconst 4, 1) := by decide +kernel
theorem dX9_brings_34 : decode cX9_brings 34 = .ok (.irem, 1) := by decide +kernel
theorem dX9_brings_35 : decode cX9_brings 35 = .ok (.iadd, 1) := by decide +kernel
theorem dX9_brings_36 : decode cX9_brings 36 = .ok (.ireturn, 1) := by decide +kernel
theorem dX9_brings_37 : decode cX9_brings 37 = .ok (.iload_n 1, 1) := by decide +kernel
theorem dX9_brings_38 : decode cX9_brings 38 = .ok (.iconst 4, 1) := by decide +kernel
theorem dX9_brings_39 : decode cX9_brings 39 = .ok (.idiv, 1) := by decide +kernel
theorem dX9_brings_40 : decode cX9_brings 40 = .ok (.iload_n 2, 1) := by decide +kernel
theorem dX9_brings_41 : decode cX9_brings 41 = .ok (.ifCond .ne 7, 3) := by decide +kernel
theorem dX9_brings_44 : decode cX9_brings 44 = .ok (.iload_n 3, 1) := by decide +kernel
theorem dX9_brings_45 : decode cX9_brings 45 = .ok (.goto 8, 3) := by decide +kernel
theorem dX9_brings_48 : decode cX9_brings 48 = .ok (.iload_n 3, 1) := by decide +kernel
theorem dX9_brings_49 : decode cX9_brings 49 = .ok (.iconst 2, 1) := by decide +kernel
theorem dX9_brings_50 : decode cX9_brings 50 = .ok (.iadd, 1) := by decide +kernel
theorem dX9_brings_51 : decode cX9_brings 51 = .ok (.iconst 4, 1) := by decide +kernel
theorem dX9_brings_52 : decode cX9_brings 52 = .ok (.irem, 1) := by decide +kernel
theorem dX9_brings_53 : decode cX9_brings 53 = .ok (.invokestatic 74, 3) := by decide +kernel
theorem dX9_brings_56 : decode cX9_brings 56 = .ok (.istore 4, 2) := by decide +kernel
theorem dX9_brings_58 : decode cX9_brings 58 = .ok (.iload 4, 2) := by decide +kernel
theorem dX9_brings_60 : decode cX9_brings 60 = .ok (.iconst (-1), 1) := by decide +kernel
theorem dX9_brings_61 : decode cX9_brings 61 = .ok (.if_icmp .eq 12, 3) := by decide +kernel
theorem dX9_brings_64 : decode cX9_brings 64 = .ok (.aload_n 0, 1) := by decide +kernel
theorem dX9_brings_65 : decode cX9_brings 65 = .ok (.iload 4, 2) := by decide +kernel
theorem dX9_brings_67 : decode cX9_brings 67 = .ok (.invokestatic 145, 3) := by decide +kernel
theorem dX9_brings_70 : decode cX9_brings 70 = .ok (.ifCond .eq 7, 3) := by decide +kernel
theorem dX9_brings_73 : decode cX9_brings 73 = .ok (.iconst (-1), 1) := by decide +kernel
theorem dX9_brings_74 : decode cX9_brings 74 = .ok (.goto 9, 3) := by decide +kernel
theorem dX9_brings_77 : decode cX9_brings 77 = .ok (.iconst 4, 1) := by decide +kernel
theorem dX9_brings_78 : decode cX9_brings 78 = .ok (.iload 4, 2) := by decide +kernel
theorem dX9_brings_80 : decode cX9_brings 80 = .ok (.imul, 1) := by decide +kernel
theorem dX9_brings_81 : decode cX9_brings 81 = .ok (.iload_n 3, 1) := by decide +kernel
theorem dX9_brings_82 : decode cX9_brings 82 = .ok (.iadd, 1) := by decide +kernel
theorem dX9_brings_83 : decode cX9_brings 83 = .ok (.ireturn, 1) := by decide +kernel
set_option maxRecDepth 20000 in
theorem ggX9_fewest_X9_isRobot : GoodIn wsX9_fewest wsX9_isRobot := goodIn_r _ [7, 8, 9, 6, 10] (by decide +kernel) (by decide +kernel)
set_option maxRecDepth 20000 in
theorem gX9_fewest_X9_isRobot : GoodIn wsX9_fewest (va_wsS RX9 230 yX9_isRobot wsX9_isRobot) := goodIn_app (goodIn_of _ (by decide +kernel)) ggX9_fewest_X9_isRobot
set_option maxRecDepth 20000 in
theorem ggX9_fewest_X9_isCell : GoodIn wsX9_fewest wsX9_isCell := goodIn_r _ [13, 14, 8, 9, 6, 10] (by decide +kernel) (by decide +kernel)
set_option maxRecDepth 20000 in
theorem gX9_fewest_X9_isCell : GoodIn wsX9_fewest (va_wsS RX9 227 yX9_isCell wsX9_isCell) := goodIn_app (goodIn_of _ (by decide +kernel)) ggX9_fewest_X9_isCell
set_option maxRecDepth 20000 in
theorem ggX9_fewest_X9_refused : GoodIn wsX9_fewest wsX9_refused := goodIn_r _ [18, 19, 33, 34, 35, 36, 37, 38, 39, 40, 41, 42, 43, 44, 45, 46, 47, 48, 49, 50, 51] (by decide +kernel) (by decide +kernel)
set_option maxRecDepth 20000 in
theorem gX9_fewest_X9_refused : GoodIn wsX9_fewest (wsV RX9 156 RX9 yX9_refused wsX9_refused) := goodIn_app (goodIn_of _ (by decide +kernel)) ggX9_fewest_X9_refused
set_option maxRecDepth 20000 in
theorem ggX9_fewest_X9_of : GoodIn wsX9_fewest wsX9_of := goodIn_r _ [22] (by decide +kernel) (by decide +kernel)
set_option maxRecDepth 20000 in
theorem gX9_fewest_X9_of : GoodIn wsX9_fewest (va_wsS RX9 64 yX9_of wsX9_of) := goodIn_app (goodIn_of _ (by decide +kernel)) ggX9_fewest_X9_of
set_option maxRecDepth 20000 in
theorem ggX9_fewest_X9_brings : GoodIn wsX9_fewest wsX9_brings := goodIn_r _ [25, 26, 27, 6, 28, 29, 8, 9, 10, 30, 31, 32] (by decide +kernel) (by decide +kernel)
set_option maxRecDepth 20000 in
theorem gX9_fewest_X9_brings : GoodIn wsX9_fewest (va_wsS RX9 271 yX9_brings wsX9_brings) := goodIn_app (goodIn_of _ (by decide +kernel)) ggX9_fewest_X9_brings
theorem dX9_fewest_0 : decode cX9_fewest 0 = .ok (.aload_n 0, 1) := by decide +kernel
theorem dX9_fewest_1 : decode cX9_fewest 1 = .ok (.iload_n 1, 1) := by decide +kernel
theorem dX9_fewest_2 : decode cX9_fewest 2 = .ok (.invokestatic 230, 3) := by decide +kernel
theorem dX9_fewest_5 : decode cX9_fewest 5 = .ok (.ifCond .eq 14, 3) := by decide +kernel
theorem dX9_fewest_8 : decode cX9_fewest 8 = .ok (.iload_n 2, 1) := by decide +kernel
theorem dX9_fewest_9 : decode cX9_fewest 9 = .ok (.invokestatic 227, 3) := by decide +kernel
theorem dX9_fewest_12 : decode cX9_fewest 12 = .ok (.ifCond .eq 7, 3) := by decide +kernel
theorem dX9_fewest_15 : decode cX9_fewest 15 = .ok (.iconst 0, 1) := by decide +kernel
theorem dX9_fewest_16 : decode cX9_fewest 16 = .ok (.goto 4, 3) := by decide +kernel
theorem dX9_fewest_19 : decode cX9_fewest 19 = .ok (.iconst 1, 1) := by decide +kernel
theorem dX9_fewest_20 : decode cX9_fewest 20 = .ok (.invokevirtual 156, 3) := by decide +kernel
theorem dX9_fewest_23 : decode cX9_fewest 23 = .ok (.ifCond .eq 5, 3) := by decide +kernel
theorem dX9_fewest_26 : decode cX9_fewest 26 = .ok (.iconst 0, 1) := by decide +kernel
theorem dX9_fewest_27 : decode cX9_fewest 27 = .ok (.ireturn, 1) := by decide +kernel
theorem dX9_fewest_28 : decode cX9_fewest 28 = .ok (.iconst 0, 1) := by decide +kernel
theorem dX9_fewest_29 : decode cX9_fewest 29 = .ok (.istore_n 3, 1) := by decide +kernel
theorem dX9_fewest_30 : decode cX9_fewest 30 = .ok (.iload_n 3, 1) := by decide +kernel
theorem dX9_fewest_31 : decode cX9_fewest 31 = .ok (.sipush 144, 3) := by decide +kernel
theorem dX9_fewest_34 : decode cX9_fewest 34 = .ok (.if_icmp .ge 16, 3) := by decide +kernel
theorem dX9_fewest_37 : decode cX9_fewest 37 = .ok (.aload_n 0, 1) := by decide +kernel
theorem dX9_fewest_38 : decode cX9_fewest 38 = .ok (.getfield 44, 3) := by decide +kernel
theorem dX9_fewest_41 : decode cX9_fewest 41 = .ok (.iload_n 3, 1) := by decide +kernel
theorem dX9_fewest_42 : decode cX9_fewest 42 = .ok (.iconst (-1), 1) := by decide +kernel
theorem dX9_fewest_43 : decode cX9_fewest 43 = .ok (.iastore, 1) := by decide +kernel
theorem dX9_fewest_44 : decode cX9_fewest 44 = .ok (.iinc 3 1, 3) := by decide +kernel
theorem dX9_fewest_47 : decode cX9_fewest 47 = .ok (.goto (-17), 3) := by decide +kernel
theorem dX9_fewest_50 : decode cX9_fewest 50 = .ok (.iconst 1, 1) := by decide +kernel
theorem dX9_fewest_51 : decode cX9_fewest 51 = .ok (.istore_n 3, 1) := by decide +kernel
theorem dX9_fewest_52 : decode cX9_fewest 52 = .ok (.aload_n 0, 1) := by decide +kernel
theorem dX9_fewest_53 : decode cX9_fewest 53 = .ok (.getfield 47, 3) := by decide +kernel
theorem dX9_fewest_56 : decode cX9_fewest 56 = .ok (.iconst 0, 1) := by decide +kernel
theorem dX9_fewest_57 : decode cX9_fewest 57 = .ok (.iconst 4, 1) := by decide +kernel
theorem dX9_fewest_58 : decode cX9_fewest 58 = .ok (.aload_n 0, 1) := by decide +kernel
theorem dX9_fewest_59 : decode cX9_fewest 59 = .ok (.getfield 13, 3) := by decide +kernel
theorem dX9_fewest_62 : decode cX9_fewest 62 = .ok (.iload_n 1, 1) := by decide +kernel
theorem dX9_fewest_63 : decode cX9_fewest 63 = .ok (.iconst 0, 1) := by decide +kernel
theorem dX9_fewest_64 : decode cX9_fewest 64 = .ok (.invokestatic 64, 3) := by decide +kernel
theorem dX9_fewest_67 : decode cX9_fewest 67 = .ok (.imul, 1) := by decide +kernel
theorem dX9_fewest_68 : decode cX9_fewest 68 = .ok (.aload_n 0, 1) := by decide +kernel
theorem dX9_fewest_69 : decode cX9_fewest 69 = .ok (.getfield 13, 3) := by decide +kernel
theorem dX9_fewest_72 : decode cX9_fewest 72 = .ok (.iload_n 1, 1) := by decide +kernel
theorem dX9_fewest_73 : decode cX9_fewest 73 = .ok (.iconst 1, 1) := by decide +kernel
theorem dX9_fewest_74 : decode cX9_fewest 74 = .ok (.invokestatic 64, 3) := by decide +kernel
theorem dX9_fewest_77 : decode cX9_fewest 77 = .ok (.iadd, 1) := by decide +kernel
theorem dX9_fewest_78 : decode cX9_fewest 78 = .ok (.iastore, 1) := by decide +kernel
theorem dX9_fewest_79 : decode cX9_fewest 79 = .ok (.aload_n 0, 1) := by decide +kernel
theorem dX9_fewest_80 : decode cX9_fewest 80 = .ok (.getfield 44, 3) := by decide +kernel
theorem dX9_fewest_83 : decode cX9_fewest 83 = .ok (.aload_n 0, 1) := by decide +kernel
theorem dX9_fewest_84 : decode cX9_fewest 84 = .ok (.getfield 47, 3) := by decide +kernel
theorem dX9_fewest_87 : decode cX9_fewest 87 = .ok (.iconst 0, 1) := by decide +kernel
theorem dX9_fewest_88 : decode cX9_fewest 88 = .ok (.iaload, 1) := by decide +kernel
theorem dX9_fewest_89 : decode cX9_fewest 89 = .ok (.iconst 0, 1) := by decide +kernel
theorem dX9_fewest_90 : decode cX9_fewest 90 = .ok (.iastore, 1) := by decide +kernel
theorem dX9_fewest_91 : decode cX9_fewest 91 = .ok (.iconst 0, 1) := by decide +kernel
theorem dX9_fewest_92 : decode cX9_fewest 92 = .ok (.istore 4, 2) := by decide +kernel
theorem dX9_fewest_94 : decode cX9_fewest 94 = .ok (.iload 4, 2) := by decide +kernel
theorem dX9_fewest_96 : decode cX9_fewest 96 = .ok (.iload_n 3, 1) := by decide +kernel
theorem dX9_fewest_97 : decode cX9_fewest 97 = .ok (.if_icmp .ge 117, 3) := by decide +kernel
theorem dX9_fewest_100 : decode cX9_fewest 100 = .ok (.aload_n 0, 1) := by decide +kernel
theorem dX9_fewest_101 : decode cX9_fewest 101 = .ok (.getfield 47, 3) := by decide +kernel
theorem dX9_fewest_104 : decode cX9_fewest 104 = .ok (.iload 4, 2) := by decide +kernel
theorem dX9_fewest_106 : decode cX9_fewest 106 = .ok (.iaload, 1) := by decide +kernel
theorem dX9_fewest_107 : decode cX9_fewest 107 = .ok (.iconst 4, 1) := by decide +kernel
theorem dX9_fewest_108 : decode cX9_fewest 108 = .ok (.idiv, 1) := by decide +kernel
theorem dX9_fewest_109 : decode cX9_fewest 109 = .ok (.iload_n 2, 1) := by decide +kernel
theorem dX9_fewest_110 : decode cX9_fewest 110 = .ok (.if_icmp .ne 16, 3) := by decide +kernel
theorem dX9_fewest_113 : decode cX9_fewest 113 = .ok (.aload_n 0, 1) := by decide +kernel
theorem dX9_fewest_114 : decode cX9_fewest 114 = .ok (.getfield 44, 3) := by decide +kernel
theorem dX9_fewest_117 : decode cX9_fewest 117 = .ok (.aload_n 0, 1) := by decide +kernel
theorem dX9_fewest_118 : decode cX9_fewest 118 = .ok (.getfield 47, 3) := by decide +kernel
theorem dX9_fewest_121 : decode cX9_fewest 121 = .ok (.iload 4, 2) := by decide +kernel
theorem dX9_fewest_123 : decode cX9_fewest 123 = .ok (.iaload, 1) := by decide +kernel
theorem dX9_fewest_124 : decode cX9_fewest 124 = .ok (.iaload, 1) := by decide +kernel
theorem dX9_fewest_125 : decode cX9_fewest 125 = .ok (.ireturn, 1) := by decide +kernel
theorem dX9_fewest_126 : decode cX9_fewest 126 = .ok (.iconst 0, 1) := by decide +kernel
theorem dX9_fewest_127 : decode cX9_fewest 127 = .ok (.istore 5, 2) := by decide +kernel
theorem dX9_fewest_129 : decode cX9_fewest 129 = .ok (.iload 5, 2) := by decide +kernel
theorem dX9_fewest_131 : decode cX9_fewest 131 = .ok (.iconst 5, 1) := by decide +kernel
theorem dX9_fewest_132 : decode cX9_fewest 132 = .ok (.if_icmp .ge 76, 3) := by decide +kernel
theorem dX9_fewest_135 : decode cX9_fewest 135 = .ok (.aload_n 0, 1) := by decide +kernel
theorem dX9_fewest_136 : decode cX9_fewest 136 = .ok (.getfield 13, 3) := by decide +kernel
theorem dX9_fewest_139 : decode cX9_fewest 139 = .ok (.aload_n 0, 1) := by decide +kernel
theorem dX9_fewest_140 : decode cX9_fewest 140 = .ok (.getfield 47, 3) := by decide +kernel
theorem dX9_fewest_143 : decode cX9_fewest 143 = .ok (.iload 4, 2) := by decide +kernel
theorem dX9_fewest_145 : decode cX9_fewest 145 = .ok (.iaload, 1) := by decide +kernel
theorem dX9_fewest_146 : decode cX9_fewest 146 = .ok (.iload 5, 2) := by decide +kernel
theorem dX9_fewest_148 : decode cX9_fewest 148 = .ok (.invokestatic 271, 3) := by decide +kernel
theorem dX9_fewest_151 : decode cX9_fewest 151 = .ok (.istore 6, 2) := by decide +kernel
theorem dX9_fewest_153 : decode cX9_fewest 153 = .ok (.iload 6, 2) := by decide +kernel
theorem dX9_fewest_155 : decode cX9_fewest 155 = .ok (.iconst (-1), 1) := by decide +kernel
theorem dX9_fewest_156 : decode cX9_fewest 156 = .ok (.if_icmp .eq 46, 3) := by decide +kernel
theorem dX9_fewest_159 : decode cX9_fewest 159 = .ok (.aload_n 0, 1) := by decide +kernel
theorem dX9_fewest_160 : decode cX9_fewest 160 = .ok (.getfield 44, 3) := by decide +kernel
theorem dX9_fewest_163 : decode cX9_fewest 163 = .ok (.iload 6, 2) := by decide +kernel
theorem dX9_fewest_165 : decode cX9_fewest 165 = .ok (.iaload, 1) := by decide +kernel
theorem dX9_fewest_166 : decode cX9_fewest 166 = .ok (.iconst (-1), 1) := by decide +kernel
theorem dX9_fewest_167 : decode cX9_fewest 167 = .ok (.if_icmp .ne 35, 3) := by decide +kernel
theorem dX9_fewest_170 : decode cX9_fewest 170 = .ok (.aload_n 0, 1) := by decide +kernel
theorem dX9_fewest_171 : decode cX9_fewest 171 = .ok (.getfield 44, 3) := by decide +kernel
theorem dX9_fewest_174 : decode cX9_fewest 174 = .ok (.iload 6, 2) := by decide +kernel
theorem dX9_fewest_176 : decode cX9_fewest 176 = .ok (.aload_n 0, 1) := by decide +kernel
theorem dX9_fewest_177 : decode cX9_fewest 177 = .ok (.getfield 44, 3) := by decide +kernel
theorem dX9_fewest_180 : decode cX9_fewest 180 = .ok (.aload_n 0, 1) := by decide +kernel
theorem dX9_fewest_181 : decode cX9_fewest 181 = .ok (.getfield 47, 3) := by decide +kernel
theorem dX9_fewest_184 : decode cX9_fewest 184 = .ok (.iload 4, 2) := by decide +kernel
theorem dX9_fewest_186 : decode cX9_fewest 186 = .ok (.iaload, 1) := by decide +kernel
theorem dX9_fewest_187 : decode cX9_fewest 187 = .ok (.iaload, 1) := by decide +kernel
theorem dX9_fewest_188 : decode cX9_fewest 188 = .ok (.iconst 1, 1) := by decide +kernel
theorem dX9_fewest_189 : decode cX9_fewest 189 = .ok (.iadd, 1) := by decide +kernel
theorem dX9_fewest_190 : decode cX9_fewest 190 = .ok (.iastore, 1) := by decide +kernel
theorem dX9_fewest_191 : decode cX9_fewest 191 = .ok (.aload_n 0, 1) := by decide +kernel
theorem dX9_fewest_192 : decode cX9_fewest 192 = .ok (.getfield 47, 3) := by decide +kernel
theorem dX9_fewest_195 : decode cX9_fewest 195 = .ok (.iload_n 3, 1) := by decide +kernel
theorem dX9_fewest_196 : decode cX9_fewest 196 = .ok (.iload 6, 2) := by decide +kernel
theorem dX9_fewest_198 : decode cX9_fewest 198 = .ok (.iastore, 1) := by decide +kernel
theorem dX9_fewest_199 : decode cX9_fewest 199 = .ok (.iinc 3 1, 3) := by decide +kernel
theorem dX9_fewest_202 : decode cX9_fewest 202 = .ok (.iinc 5 1, 3) := by decide +kernel
theorem dX9_fewest_205 : decode cX9_fewest 205 = .ok (.goto (-76), 3) := by decide +kernel
theorem dX9_fewest_208 : decode cX9_fewest 208 = .ok (.iinc 4 1, 3) := by decide +kernel
theorem dX9_fewest_211 : decode cX9_fewest 211 = .ok (.goto (-117), 3) := by decide +kernel
theorem dX9_fewest_214 : decode cX9_fewest 214 = .ok (.iconst (-1), 1) := by decide +kernel
theorem dX9_fewest_215 : decode cX9_fewest 215 = .ok (.ireturn, 1) := by decide +kernel
set_option maxRecDepth 20000 in
theorem ggX9_fewestBySpreading_X9_fewest : GoodIn wsX9_fewestBySpreading wsX9_fewest := goodIn_r _ [5, 6, 7, 8, 9, 10, 4, 11, 12, 13, 14, 15, 16, 17, 18, 19, 20, 21, 22, 23, 24, 25, 26, 27, 28, 29, 30, 31, 32, 33, 34, 35, 36, 37, 38, 39, 40, 41, 42, 43, 44, 45, 46, 47, 48, 49, 50, 51, 52, 53, 54, 55] (by decide +kernel) (by decide +kernel)
set_option maxRecDepth 20000 in
theorem gX9_fewestBySpreading_X9_fewest : GoodIn wsX9_fewestBySpreading (wsV RX9 274 RX9 yX9_fewest wsX9_fewest) := goodIn_app (goodIn_of _ (by decide +kernel)) ggX9_fewestBySpreading_X9_fewest
theorem dX9_fewestBySpreading_0 : decode cX9_fewestBySpreading 0 = .ok (.aload_n 0, 1) := by decide +kernel
theorem dX9_fewestBySpreading_1 : decode cX9_fewestBySpreading 1 = .ok (.iload_n 1, 1) := by decide +kernel
theorem dX9_fewestBySpreading_2 : decode cX9_fewestBySpreading 2 = .ok (.iload_n 2, 1) := by decide +kernel
theorem dX9_fewestBySpreading_3 : decode cX9_fewestBySpreading 3 = .ok (.invokevirtual 274, 3) := by decide +kernel
theorem dX9_fewestBySpreading_6 : decode cX9_fewestBySpreading 6 = .ok (.ireturn, 1) := by decide +kernel
set_option maxRecDepth 20000 in
theorem ggX9_fewestBySweeping_X9_fewest : GoodIn wsX9_fewestBySweeping wsX9_fewest := goodIn_r _ [5, 6, 7, 8, 9, 10, 4, 11, 12, 13, 14, 15, 16, 17, 18, 19, 20, 21, 22, 23, 24, 25, 26, 27, 28, 29, 30, 31, 32, 33, 34, 35, 36, 37, 38, 39, 40, 41, 42, 43, 44, 45, 46, 47, 48, 49, 50, 51, 52, 53, 54, 55] (by decide +kernel) (by decide +kernel)
set_option maxRecDepth 20000 in
theorem gX9_fewestBySweeping_X9_fewest : GoodIn wsX9_fewestBySweeping (wsV RX9 274 RX9 yX9_fewest wsX9_fewest) := goodIn_app (goodIn_of _ (by decide +kernel)) ggX9_fewestBySweeping_X9_fewest
theorem dX9_fewestBySweeping_0 : decode cX9_fewestBySweeping 0 = .ok (.aload_n 0, 1) := by decide +kernel
theorem dX9_fewestBySweeping_1 : decode cX9_fewestBySweeping 1 = .ok (.iload_n 1, 1) := by decide +kernel
theorem dX9_fewestBySweeping_2 : decode cX9_fewestBySweeping 2 = .ok (.iload_n 2, 1) := by decide +kernel
theorem dX9_fewestBySweeping_3 : decode cX9_fewestBySweeping 3 = .ok (.invokevirtual 274, 3) := by decide +kernel
theorem dX9_fewestBySweeping_6 : decode cX9_fewestBySweeping 6 = .ok (.ireturn, 1) := by decide +kernel
set_option maxRecDepth 20000 in
theorem ggX9_turn_X9_canKind : GoodIn wsX9_turn wsX9_canKind := goodIn_r _ [4, 5, 6, 3, 7, 8, 9, 10, 11, 12, 13, 14, 15, 16] (by decide +kernel) (by decide +kernel)
set_option maxRecDepth 20000 in
theorem gX9_turn_X9_canKind : GoodIn wsX9_turn (va_wsS RX9 172 yX9_canKind wsX9_canKind) := goodIn_app (goodIn_of _ (by decide +kernel)) ggX9_turn_X9_canKind
set_option maxRecDepth 20000 in
theorem ggX9_turn_X9_kindOn : GoodIn wsX9_turn wsX9_kindOn := goodIn_r _ [19] (by decide +kernel) (by decide +kernel)
set_option maxRecDepth 20000 in
theorem gX9_turn_X9_kindOn : GoodIn wsX9_turn (va_wsS RX9 250 yX9_kindOn wsX9_kindOn) := goodIn_app (goodIn_of _ (by decide +kernel)) ggX9_turn_X9_kindOn
set_option maxRecDepth 20000 in
theorem ggX9_turn_X9_canCrate : GoodIn wsX9_turn wsX9_canCrate := goodIn_r _ [22, 23, 24, 3, 25, 5, 6, 7, 8, 9, 10, 11, 12, 13, 26, 27, 28] (by decide +kernel) (by decide +kernel)
set_option maxRecDepth 20000 in
theorem gX9_turn_X9_canCrate : GoodIn wsX9_turn (va_wsS RX9 193 yX9_canCrate wsX9_canCrate) := goodIn_app (goodIn_of _ (by decide +kernel)) ggX9_turn_X9_canCrate
set_option maxRecDepth 20000 in
theorem ggX9_turn_X9_crateOn : GoodIn wsX9_turn wsX9_crateOn := goodIn_r _ [31, 26, 27, 3, 28] (by decide +kernel) (by decide +kernel)
set_option maxRecDepth 20000 in
theorem gX9_turn_X9_crateOn : GoodIn wsX9_turn (va_wsS RX9 196 yX9_crateOn wsX9_crateOn) := goodIn_app (goodIn_of _ (by decide +kernel)) ggX9_turn_X9_crateOn
set_option maxRecDepth 20000 in
theorem ggX9_turn_X9_canPoint : GoodIn wsX9_turn wsX9_canPoint := goodIn_r _ [34, 23, 24, 3, 25, 14, 15, 16] (by decide +kernel) (by decide +kernel)
set_option maxRecDepth 20000 in
theorem gX9_turn_X9_canPoint : GoodIn wsX9_turn (va_wsS RX9 199 yX9_canPoint wsX9_canPoint) := goodIn_app (goodIn_of _ (by decide +kernel)) ggX9_turn_X9_canPoint
set_option maxRecDepth 20000 in
theorem ggX9_turn_X9_pointOn : GoodIn wsX9_turn wsX9_pointOn := goodIn_r _ [37] (by decide +kernel) (by decide +kernel)
set_option maxRecDepth 20000 in
theorem gX9_turn_X9_pointOn : GoodIn wsX9_turn (va_wsS RX9 202 yX9_pointOn wsX9_pointOn) := goodIn_app (goodIn_of _ (by decide +kernel)) ggX9_turn_X9_pointOn
set_option maxRecDepth 20000 in
theorem ggX9_turn_X9_canPut : GoodIn wsX9_turn wsX9_canPut := goodIn_r _ [40, 23, 24, 3, 25, 11, 12, 13, 5, 6, 7, 8, 9, 10] (by decide +kernel) (by decide +kernel)
set_option maxRecDepth 20000 in
theorem gX9_turn_X9_canPut : GoodIn wsX9_turn (va_wsS RX9 183 yX9_canPut wsX9_canPut) := goodIn_app (goodIn_of _ (by decide +kernel)) ggX9_turn_X9_canPut
set_option maxRecDepth 20000 in
theorem ggX9_turn_X9_putOn : GoodIn wsX9_turn wsX9_putOn := goodIn_r _ [43, 11, 12, 3, 13, 44, 45, 46] (by decide +kernel) (by decide +kernel)
set_option maxRecDepth 20000 in
theorem gX9_turn_X9_putOn : GoodIn wsX9_turn (va_wsS RX9 186 yX9_putOn wsX9_putOn) := goodIn_app (goodIn_of _ (by decide +kernel)) ggX9_turn_X9_putOn
set_option maxRecDepth 20000 in
theorem ggX9_turn_X9_of : GoodIn wsX9_turn wsX9_of := goodIn_r _ [13] (by decide +kernel) (by decide +kernel)
set_option maxRecDepth 20000 in
theorem gX9_turn_X9_of : GoodIn wsX9_turn (va_wsS RX9 64 yX9_of wsX9_of) := goodIn_app (goodIn_of _ (by decide +kernel)) ggX9_turn_X9_of
set_option maxRecDepth 20000 in
theorem ggX9_turn_X9_writeOn : GoodIn wsX9_turn wsX9_writeOn := goodIn_r _ [49, 11, 12, 3, 13, 50, 51, 52] (by decide +kernel) (by decide +kernel)
set_option maxRecDepth 20000 in
theorem gX9_turn_X9_writeOn : GoodIn wsX9_turn (va_wsS RX9 190 yX9_writeOn wsX9_writeOn) := goodIn_app (goodIn_of _ (by decide +kernel)) ggX9_turn_X9_writeOn
set_option maxRecDepth 20000 in
theorem ggX9_turn_X9_wipeOn : GoodIn wsX9_turn wsX9_wipeOn := goodIn_r _ [55, 11, 12, 3, 13, 44, 45, 46] (by decide +kernel) (by decide +kernel)
set_option maxRecDepth 20000 in
theorem gX9_turn_X9_wipeOn : GoodIn wsX9_turn (va_wsS RX9 255 yX9_wipeOn wsX9_wipeOn) := goodIn_app (goodIn_of _ (by decide +kernel)) ggX9_turn_X9_wipeOn
set_option maxRecDepth 20000 in
theorem ggX9_turn_X9_stepOn : GoodIn wsX9_turn wsX9_stepOn := goodIn_r _ [59, 60, 61, 62, 3, 63, 64, 65, 66, 67, 68, 69, 70, 71, 72, 73, 74, 75, 76, 11, 12, 13, 77, 78, 79, 80, 81, 82, 83, 84, 85, 86, 5, 6, 7, 8, 9, 10, 87, 88, 89, 90, 91, 92, 93, 94, 95, 96, 97, 98, 99, 100, 44, 45, 46, 50, 51, 52, 101, 102, 103, 104, 105, 106, 107, 108, 109, 110, 111, 112, 113, 114, 115, 116, 117, 118, 119, 120, 121, 122, 123, 124, 125, 126, 127, 128, 129, 130, 131, 132, 133, 134, 135, 136, 137, 138, 139, 140, 141, 142, 143, 144, 145] (by decide +kernel) (by decide +kernel)
set_option maxRecDepth 20000 in
theorem gX9_turn_X9_stepOn : GoodIn wsX9_turn (wsV RX9 260 RX9 yX9_stepOn wsX9_stepOn) := goodIn_app (goodIn_of _ (by decide +kernel)) ggX9_turn_X9_stepOn
theorem dX9_turn_0 : decode cX9_turn 0 = .ok (.iload_n 3, 1) := by decide +kernel
theorem dX9_turn_1 : decode cX9_turn 1 = .ok (.bipush 36, 2) := by decide +kernel
theorem dX9_turn_3 : decode cX9_turn 3 = .ok (.irem, 1) := by decide +kernel
theorem dX9_turn_4 : decode cX9_turn 4 = .ok (.istore 4, 2) := by decide +kernel
theorem dX9_turn_6 : decode cX9_turn 6 = .ok (.iload_n 2, 1) := by decide +kernel
theorem dX9_turn_7 : decode cX9_turn 7 = .ok (.iconst 3, 1) := by decide +kernel
theorem dX9_turn_8 : decode cX9_turn 8 = .ok (.if_icmp .ge 36, 3) := by decide +kernel
theorem dX9_turn_11 : decode cX9_turn 11 = .ok (.aload_n 1, 1) := by decide +kernel
theorem dX9_turn_12 : decode cX9_turn 12 = .ok (.iload 4, 2) := by decide +kernel
theorem dX9_turn_14 : decode cX9_turn 14 = .ok (.iload_n 3, 1) := by decide +kernel
theorem dX9_turn_15 : decode cX9_turn 15 = .ok (.bipush 64, 2) := by decide +kernel
theorem dX9_turn_17 : decode cX9_turn 17 = .ok (.idiv, 1) := by decide +kernel
theorem dX9_turn_18 : decode cX9_turn 18 = .ok (.bipush 7, 2) := by decide +kernel
theorem dX9_turn_20 : decode cX9_turn 20 = .ok (.irem, 1) := by decide +kernel
theorem dX9_turn_21 : decode cX9_turn 21 = .ok (.invokestatic 172, 3) := by decide +kernel
theorem dX9_turn_24 : decode cX9_turn 24 = .ok (.ifCond .eq 187, 3) := by decide +kernel
theorem dX9_turn_27 : decode cX9_turn 27 = .ok (.aload_n 1, 1) := by decide +kernel
theorem dX9_turn_28 : decode cX9_turn 28 = .ok (.iload 4, 2) := by decide +kernel
theorem dX9_turn_30 : decode cX9_turn 30 = .ok (.iload_n 3, 1) := by decide +kernel
theorem dX9_turn_31 : decode cX9_turn 31 = .ok (.bipush 64, 2) := by decide +kernel
theorem dX9_turn_33 : decode cX9_turn 33 = .ok (.idiv, 1) := by decide +kernel
theorem dX9_turn_34 : decode cX9_turn 34 = .ok (.bipush 7, 2) := by decide +kernel
theorem dX9_turn_36 : decode cX9_turn 36 = .ok (.irem, 1) := by decide +kernel
theorem dX9_turn_37 : decode cX9_turn 37 = .ok (.invokestatic 250, 3) := by decide +kernel
theorem dX9_turn_40 : decode cX9_turn 40 = .ok (.pop, 1) := by decide +kernel
theorem dX9_turn_41 : decode cX9_turn 41 = .ok (.goto 170, 3) := by decide +kernel
theorem dX9_turn_44 : decode cX9_turn 44 = .ok (.iload_n 2, 1) := by decide +kernel
theorem dX9_turn_45 : decode cX9_turn 45 = .ok (.iconst 5, 1) := by decide +kernel
theorem dX9_turn_46 : decode cX9_turn 46 = .ok (.if_icmp .ge 22, 3) := by decide +kernel
theorem dX9_turn_49 : decode cX9_turn 49 = .ok (.aload_n 1, 1) := by decide +kernel
theorem dX9_turn_50 : decode cX9_turn 50 = .ok (.iload 4, 2) := by decide +kernel
theorem dX9_turn_52 : decode cX9_turn 52 = .ok (.invokestatic 193, 3) := by decide +kernel
theorem dX9_turn_55 : decode cX9_turn 55 = .ok (.ifCond .eq 156, 3) := by decide +kernel
theorem dX9_turn_58 : decode cX9_turn 58 = .ok (.aload_n 1, 1) := by decide +kernel
theorem dX9_turn_59 : decode cX9_turn 59 = .ok (.iload 4, 2) := by decide +kernel
theorem dX9_turn_61 : decode cX9_turn 61 = .ok (.invokestatic 196, 3) := by decide +kernel
theorem dX9_turn_64 : decode cX9_turn 64 = .ok (.pop, 1) := by decide +kernel
theorem dX9_turn_65 : decode cX9_turn 65 = .ok (.goto 146, 3) := by decide +kernel
theorem dX9_turn_68 : decode cX9_turn 68 = .ok (.iload_n 2, 1) := by decide +kernel
theorem dX9_turn_69 : decode cX9_turn 69 = .ok (.iconst 5, 1) := by decide +kernel
theorem dX9_turn_70 : decode cX9_turn 70 = .ok (.if_icmp .ne 22, 3) := by decide +kernel
theorem dX9_turn_73 : decode cX9_turn 73 = .ok (.aload_n 1, 1) := by decide +kernel
theorem dX9_turn_74 : decode cX9_turn 74 = .ok (.iload 4, 2) := by decide +kernel
theorem dX9_turn_76 : decode cX9_turn 76 = .ok (.invokestatic 199, 3) := by decide +kernel
theorem dX9_turn_79 : decode cX9_turn 79 = .ok (.ifCond .eq 132, 3) := by decide +kernel
theorem dX9_turn_82 : decode cX9_turn 82 = .ok (.aload_n 1, 1) := by decide +kernel
theorem dX9_turn_83 : decode cX9_turn 83 = .ok (.iload 4, 2) := by decide +kernel
theorem dX9_turn_85 : decode cX9_turn 85 = .ok (.invokestatic 202, 3) := by decide +kernel
theorem dX9_turn_88 : decode cX9_turn 88 = .ok (.pop, 1) := by decide +kernel
theorem dX9_turn_89 : decode cX9_turn 89 = .ok (.goto 122, 3) := by decide +kernel
theorem dX9_turn_92 : decode cX9_turn 92 = .ok (.iload_n 2, 1) := by decide +kernel
theorem dX9_turn_93 : decode cX9_turn 93 = .ok (.bipush 6, 2) := by decide +kernel
theorem dX9_turn_95 : decode cX9_turn 95 = .ok (.if_icmp .ne 43, 3) := by decide +kernel
theorem dX9_turn_98 : decode cX9_turn 98 = .ok (.aload_n 1, 1) := by decide +kernel
theorem dX9_turn_99 : decode cX9_turn 99 = .ok (.iload_n 3, 1) := by decide +kernel
theorem dX9_turn_100 : decode cX9_turn 100 = .ok (.iconst 2, 1) := by decide +kernel
theorem dX9_turn_101 : decode cX9_turn 101 = .ok (.irem, 1) := by decide +kernel
theorem dX9_turn_102 : decode cX9_turn 102 = .ok (.iload_n 3, 1) := by decide +kernel
theorem dX9_turn_103 : decode cX9_turn 103 = .ok (.iconst 2, 1) := by decide +kernel
theorem dX9_turn_104 : decode cX9_turn 104 = .ok (.idiv, 1) := by decide +kernel
theorem dX9_turn_105 : decode cX9_turn 105 = .ok (.bipush 36, 2) := by decide +kernel
theorem dX9_turn_107 : decode cX9_turn 107 = .ok (.irem, 1) := by decide +kernel
theorem dX9_turn_108 : decode cX9_turn 108 = .ok (.invokestatic 183, 3) := by decide +kernel
theorem dX9_turn_111 : decode cX9_turn 111 = .ok (.ifCond .eq 100, 3) := by decide +kernel
theorem dX9_turn_114 : decode cX9_turn 114 = .ok (.aload_n 1, 1) := by decide +kernel
theorem dX9_turn_115 : decode cX9_turn 115 = .ok (.iload_n 3, 1) := by decide +kernel
theorem dX9_turn_116 : decode cX9_turn 116 = .ok (.iconst 2, 1) := by decide +kernel
theorem dX9_turn_117 : decode cX9_turn 117 = .ok (.irem, 1) := by decide +kernel
theorem dX9_turn_118 : decode cX9_turn 118 = .ok (.iload_n 3, 1) := by decide +kernel
theorem dX9_turn_119 : decode cX9_turn 119 = .ok (.iconst 2, 1) := by decide +kernel
theorem dX9_turn_120 : decode cX9_turn 120 = .ok (.idiv, 1) := by decide +kernel
theorem dX9_turn_121 : decode cX9_turn 121 = .ok (.bipush 36, 2) := by decide +kernel
theorem dX9_turn_123 : decode cX9_turn 123 = .ok (.irem, 1) := by decide +kernel
theorem dX9_turn_124 : decode cX9_turn 124 = .ok (.iload_n 3, 1) := by decide +kernel
theorem dX9_turn_125 : decode cX9_turn 125 = .ok (.sipush 128, 3) := by decide +kernel
theorem dX9_turn_128 : decode cX9_turn 128 = .ok (.idiv, 1) := by decide +kernel
theorem dX9_turn_129 : decode cX9_turn 129 = .ok (.iconst 4, 1) := by decide +kernel
theorem dX9_turn_130 : decode cX9_turn 130 = .ok (.irem, 1) := by decide +kernel
theorem dX9_turn_131 : decode cX9_turn 131 = .ok (.invokestatic 186, 3) := by decide +kernel
theorem dX9_turn_134 : decode cX9_turn 134 = .ok (.pop, 1) := by decide +kernel
theorem dX9_turn_135 : decode cX9_turn 135 = .ok (.goto 76, 3) := by decide +kernel
theorem dX9_turn_138 : decode cX9_turn 138 = .ok (.iload_n 2, 1) := by decide +kernel
theorem dX9_turn_139 : decode cX9_turn 139 = .ok (.bipush 11, 2) := by decide +kernel
theorem dX9_turn_141 : decode cX9_turn 141 = .ok (.if_icmp .ge 34, 3) := by decide +kernel
theorem dX9_turn_144 : decode cX9_turn 144 = .ok (.aload_n 1, 1) := by decide +kernel
theorem dX9_turn_145 : decode cX9_turn 145 = .ok (.iload_n 3, 1) := by decide +kernel
theorem dX9_turn_146 : decode cX9_turn 146 = .ok (.iconst 2, 1) := by decide +kernel
theorem dX9_turn_147 : decode cX9_turn 147 = .ok (.irem, 1) := by decide +kernel
theorem dX9_turn_148 : decode cX9_turn 148 = .ok (.bipush 8, 2) := by decide +kernel
theorem dX9_turn_150 : decode cX9_turn 150 = .ok (.invokestatic 64, 3) := by decide +kernel
theorem dX9_turn_153 : decode cX9_turn 153 = .ok (.bipush 10, 2) := by decide +kernel
theorem dX9_turn_155 : decode cX9_turn 155 = .ok (.if_icmp .ge 56, 3) := by decide +kernel
theorem dX9_turn_158 : decode cX9_turn 158 = .ok (.aload_n 1, 1) := by decide +kernel
theorem dX9_turn_159 : decode cX9_turn 159 = .ok (.iload_n 3, 1) := by decide +kernel
theorem dX9_turn_160 : decode cX9_turn 160 = .ok (.iconst 2, 1) := by decide +kernel
theorem dX9_turn_161 : decode cX9_turn 161 = .ok (.irem, 1) := by decide +kernel
theorem dX9_turn_162 : decode cX9_turn 162 = .ok (.iload_n 3, 1) := by decide +kernel
theorem dX9_turn_163 : decode cX9_turn 163 = .ok (.iconst 2, 1) := by decide +kernel
theorem dX9_turn_164 : decode cX9_turn 164 = .ok (.idiv, 1) := by decide +kernel
theorem dX9_turn_165 : decode cX9_turn 165 = .ok (.bipush 6, 2) := by decide +kernel
theorem dX9_turn_167 : decode cX9_turn 167 = .ok (.irem, 1) := by decide +kernel
theorem dX9_turn_168 : decode cX9_turn 168 = .ok (.invokestatic 190, 3) := by decide +kernel
theorem dX9_turn_171 : decode cX9_turn 171 = .ok (.pop, 1) := by decide +kernel
theorem dX9_turn_172 : decode cX9_turn 172 = .ok (.goto 39, 3) := by decide +kernel
theorem dX9_turn_175 : decode cX9_turn 175 = .ok (.iload_n 2, 1) := by decide +kernel
theorem dX9_turn_176 : decode cX9_turn 176 = .ok (.bipush 11, 2) := by decide +kernel
theorem dX9_turn_178 : decode cX9_turn 178 = .ok (.if_icmp .ne 22, 3) := by decide +kernel
theorem dX9_turn_181 : decode cX9_turn 181 = .ok (.iload_n 3, 1) := by decide +kernel
theorem dX9_turn_182 : decode cX9_turn 182 = .ok (.iconst 2, 1) := by decide +kernel
theorem dX9_turn_183 : decode cX9_turn 183 = .ok (.idiv, 1) := by decide +kernel
theorem dX9_turn_184 : decode cX9_turn 184 = .ok (.iconst 4, 1) := by decide +kernel
theorem dX9_turn_185 : decode cX9_turn 185 = .ok (.irem, 1) := by decide +kernel
theorem dX9_turn_186 : decode cX9_turn 186 = .ok (.ifCond .ne 25, 3) := by decide +kernel
theorem dX9_turn_189 : decode cX9_turn 189 = .ok (.aload_n 1, 1) := by decide +kernel
theorem dX9_turn_190 : decode cX9_turn 190 = .ok (.iload_n 3, 1) := by decide +kernel
theorem dX9_turn_191 : decode cX9_turn 191 = .ok (.iconst 2, 1) := by decide +kernel
theorem dX9_turn_192 : decode cX9_turn 192 = .ok (.irem, 1) := by decide +kernel
theorem dX9_turn_193 : decode cX9_turn 193 = .ok (.invokestatic 255, 3) := by decide +kernel
theorem dX9_turn_196 : decode cX9_turn 196 = .ok (.pop, 1) := by decide +kernel
theorem dX9_turn_197 : decode cX9_turn 197 = .ok (.goto 14, 3) := by decide +kernel
theorem dX9_turn_200 : decode cX9_turn 200 = .ok (.aload_n 0, 1) := by decide +kernel
theorem dX9_turn_201 : decode cX9_turn 201 = .ok (.aload_n 1, 1) := by decide +kernel
theorem dX9_turn_202 : decode cX9_turn 202 = .ok (.iconst 1, 1) := by decide +kernel
theorem dX9_turn_203 : decode cX9_turn 203 = .ok (.iload_n 3, 1) := by decide +kernel
theorem dX9_turn_204 : decode cX9_turn 204 = .ok (.iconst 4, 1) := by decide +kernel
theorem dX9_turn_205 : decode cX9_turn 205 = .ok (.irem, 1) := by decide +kernel
theorem dX9_turn_206 : decode cX9_turn 206 = .ok (.iadd, 1) := by decide +kernel
theorem dX9_turn_207 : decode cX9_turn 207 = .ok (.invokevirtual 260, 3) := by decide +kernel
theorem dX9_turn_210 : decode cX9_turn 210 = .ok (.ireturn, 1) := by decide +kernel
theorem dX9_turn_211 : decode cX9_turn 211 = .ok (.iconst 0, 1) := by decide +kernel
theorem dX9_turn_212 : decode cX9_turn 212 = .ok (.ireturn, 1) := by decide +kernel
set_option maxRecDepth 20000 in
theorem ggX9_simulate_X9_in : GoodIn wsX9_simulate wsX9_in := goodIn_r _ [9] (by decide +kernel) (by decide +kernel)
set_option maxRecDepth 20000 in
theorem gX9_simulate_X9_in : GoodIn wsX9_simulate (va_wsS RX9 60 yX9_in wsX9_in) := goodIn_app (goodIn_of _ (by decide +kernel)) ggX9_simulate_X9_in
set_option maxRecDepth 20000 in
theorem ggX9_simulate_X9_refused : GoodIn wsX9_simulate wsX9_refused := goodIn_r _ [13, 14, 144, 145, 146, 147, 148, 149, 150, 151, 152, 153, 154, 155, 156, 157, 158, 159, 160, 161, 162] (by decide +kernel) (by decide +kernel)
set_option maxRecDepth 20000 in
theorem gX9_simulate_X9_refused : GoodIn wsX9_simulate (wsV RX9 156 RX9 yX9_refused wsX9_refused) := goodIn_app (goodIn_of _ (by decide +kernel)) ggX9_simulate_X9_refused
set_option maxRecDepth 20000 in
theorem ggX9_simulate_X9_copyState : GoodIn wsX9_simulate wsX9_copyState := goodIn_r _ [17] (by decide +kernel) (by decide +kernel)
set_option maxRecDepth 20000 in
theorem gX9_simulate_X9_copyState : GoodIn wsX9_simulate (va_wsS RX9 220 yX9_copyState wsX9_copyState) := goodIn_app (goodIn_of _ (by decide +kernel)) ggX9_simulate_X9_copyState
set_option maxRecDepth 20000 in
theorem ggX9_simulate_X9_turn : GoodIn wsX9_simulate wsX9_turn := goodIn_r _ [21, 22, 23, 8, 24, 25, 26, 27, 28, 29, 30, 31, 32, 33, 34, 35, 36, 37, 38, 39, 40, 41, 42, 43, 44, 45, 46, 47, 48, 49, 50, 51, 52, 53, 54, 55, 56, 57, 58, 59, 60, 61, 62, 63, 64, 65, 66, 67, 68, 69, 70, 71, 72, 73, 74, 75, 76, 77, 78, 79, 80, 81, 82, 83, 84, 85, 86, 87, 88, 89, 90, 91, 92, 93, 94, 95, 96, 97, 98, 99, 100, 101, 102, 103, 6, 7, 9, 104, 105, 106, 107, 108, 109, 110, 111, 112, 113, 114, 115, 116, 117, 118, 119, 120, 121, 122, 123, 124, 125, 126, 127, 128, 129, 130, 131, 132, 133, 134, 135, 136, 137, 138, 139, 140, 141, 142, 143, 144, 145, 146, 147, 148, 149, 150, 151, 152, 153, 154, 155, 156, 157, 158, 159, 160, 161, 162] (by decide +kernel) (by decide +kernel)
set_option maxRecDepth 20000 in
theorem gX9_simulate_X9_turn : GoodIn wsX9_simulate (wsV RX9 283 RX9 yX9_turn wsX9_turn) := goodIn_app (goodIn_of _ (by decide +kernel)) ggX9_simulate_X9_turn
set_option maxRecDepth 20000 in
theorem ggX9_simulate_X9_of : GoodIn wsX9_simulate wsX9_of := goodIn_r _ [33] (by decide +kernel) (by decide +kernel)
set_option maxRecDepth 20000 in
theorem gX9_simulate_X9_of : GoodIn wsX9_simulate (va_wsS RX9 64 yX9_of wsX9_of) := goodIn_app (goodIn_of _ (by decide +kernel)) ggX9_simulate_X9_of
theorem dX9_simulate_0 : decode cX9_simulate 0 = .ok (.aload_n 0, 1) := by decide +kernel
theorem dX9_simulate_1 : decode cX9_simulate 1 = .ok (.iload_n 3, 1) := by decide +kernel
theorem dX9_simulate_2 : decode cX9_simulate 2 = .ok (.i2l, 1) := by decide +kernel
theorem dX9_simulate_3 : decode cX9_simulate 3 = .ok (.lconst 1, 1) := by decide +kernel
theorem dX9_simulate_4 : decode cX9_simulate 4 = .ok (.ldc2_w 277, 3) := by decide +kernel
theorem dX9_simulate_7 : decode cX9_simulate 7 = .ok (.invokestatic 60, 3) := by decide +kernel
theorem dX9_simulate_10 : decode cX9_simulate 10 = .ok (.ifCond .eq 7, 3) := by decide +kernel
theorem dX9_simulate_13 : decode cX9_simulate 13 = .ok (.iconst 0, 1) := by decide +kernel
theorem dX9_simulate_14 : decode cX9_simulate 14 = .ok (.goto 4, 3) := by decide +kernel
theorem dX9_simulate_17 : decode cX9_simulate 17 = .ok (.iconst 1, 1) := by decide +kernel
theorem dX9_simulate_18 : decode cX9_simulate 18 = .ok (.invokevirtual 156, 3) := by decide +kernel
theorem dX9_simulate_21 : decode cX9_simulate 21 = .ok (.ifCond .eq 5, 3) := by decide +kernel
theorem dX9_simulate_24 : decode cX9_simulate 24 = .ok (.iconst 0, 1) := by decide +kernel
theorem dX9_simulate_25 : decode cX9_simulate 25 = .ok (.ireturn, 1) := by decide +kernel
theorem dX9_simulate_26 : decode cX9_simulate 26 = .ok (.aload_n 0, 1) := by decide +kernel
theorem dX9_simulate_27 : decode cX9_simulate 27 = .ok (.getfield 13, 3) := by decide +kernel
theorem dX9_simulate_30 : decode cX9_simulate 30 = .ok (.iconst 0, 1) := by decide +kernel
theorem dX9_simulate_31 : decode cX9_simulate 31 = .ok (.aload_n 0, 1) := by decide +kernel
theorem dX9_simulate_32 : decode cX9_simulate 32 = .ok (.getfield 16, 3) := by decide +kernel
theorem dX9_simulate_35 : decode cX9_simulate 35 = .ok (.iconst 0, 1) := by decide +kernel
theorem dX9_simulate_36 : decode cX9_simulate 36 = .ok (.invokestatic 220, 3) := by decide +kernel
theorem dX9_simulate_39 : decode cX9_simulate 39 = .ok (.lload_n 1, 1) := by decide +kernel
theorem dX9_simulate_40 : decode cX9_simulate 40 = .ok (.lstore 4, 2) := by decide +kernel
theorem dX9_simulate_42 : decode cX9_simulate 42 = .ok (.iconst 0, 1) := by decide +kernel
theorem dX9_simulate_43 : decode cX9_simulate 43 = .ok (.istore 6, 2) := by decide +kernel
theorem dX9_simulate_45 : decode cX9_simulate 45 = .ok (.iconst 0, 1) := by decide +kernel
theorem dX9_simulate_46 : decode cX9_simulate 46 = .ok (.istore 7, 2) := by decide +kernel
theorem dX9_simulate_48 : decode cX9_simulate 48 = .ok (.iload 7, 2) := by decide +kernel
theorem dX9_simulate_50 : decode cX9_simulate 50 = .ok (.iload_n 3, 1) := by decide +kernel
theorem dX9_simulate_51 : decode cX9_simulate 51 = .ok (.if_icmp .ge 52, 3) := by decide +kernel
theorem dX9_simulate_54 : decode cX9_simulate 54 = .ok (.lload 4, 2) := by decide +kernel
theorem dX9_simulate_56 : decode cX9_simulate 56 = .ok (.ldc2_w 279, 3) := by decide +kernel
theorem dX9_simulate_59 : decode cX9_simulate 59 = .ok (.lmul, 1) := by decide +kernel
theorem dX9_simulate_60 : decode cX9_simulate 60 = .ok (.ldc2_w 281, 3) := by decide +kernel
theorem dX9_simulate_63 : decode cX9_simulate 63 = .ok (.ladd, 1) := by decide +kernel
theorem dX9_simulate_64 : decode cX9_simulate 64 = .ok (.lstore 4, 2) := by decide +kernel
theorem dX9_simulate_66 : decode cX9_simulate 66 = .ok (.lload 4, 2) := by decide +kernel
theorem dX9_simulate_68 : decode cX9_simulate 68 = .ok (.bipush 33, 2) := by decide +kernel
theorem dX9_simulate_70 : decode cX9_simulate 70 = .ok (.lushr, 1) := by decide +kernel
theorem dX9_simulate_71 : decode cX9_simulate 71 = .ok (.l2i, 1) := by decide +kernel
theorem dX9_simulate_72 : decode cX9_simulate 72 = .ok (.istore 8, 2) := by decide +kernel
theorem dX9_simulate_74 : decode cX9_simulate 74 = .ok (.iload 6, 2) := by decide +kernel
theorem dX9_simulate_76 : decode cX9_simulate 76 = .ok (.aload_n 0, 1) := by decide +kernel
theorem dX9_simulate_77 : decode cX9_simulate 77 = .ok (.aload_n 0, 1) := by decide +kernel
theorem dX9_simulate_78 : decode cX9_simulate 78 = .ok (.getfield 16, 3) := by decide +kernel
theorem dX9_simulate_81 : decode cX9_simulate 81 = .ok (.iload 8, 2) := by decide +kernel
theorem dX9_simulate_83 : decode cX9_simulate 83 = .ok (.bipush 16, 2) := by decide +kernel
theorem dX9_simulate_85 : decode cX9_simulate 85 = .ok (.irem, 1) := by decide +kernel
theorem dX9_simulate_86 : decode cX9_simulate 86 = .ok (.iload 8, 2) := by decide +kernel
theorem dX9_simulate_88 : decode cX9_simulate 88 = .ok (.bipush 16, 2) := by decide +kernel
theorem dX9_simulate_90 : decode cX9_simulate 90 = .ok (.idiv, 1) := by decide +kernel
theorem dX9_simulate_91 : decode cX9_simulate 91 = .ok (.invokevirtual 283, 3) := by decide +kernel
theorem dX9_simulate_94 : decode cX9_simulate 94 = .ok (.iadd, 1) := by decide +kernel
theorem dX9_simulate_95 : decode cX9_simulate 95 = .ok (.istore 6, 2) := by decide +kernel
theorem dX9_simulate_97 : decode cX9_simulate 97 = .ok (.iinc 7 1, 3) := by decide +kernel
theorem dX9_simulate_100 : decode cX9_simulate 100 = .ok (.goto (-52), 3) := by decide +kernel
theorem dX9_simulate_103 : decode cX9_simulate 103 = .ok (.sipush 10000, 3) := by decide +kernel
theorem dX9_simulate_106 : decode cX9_simulate 106 = .ok (.iload 6, 2) := by decide +kernel
theorem dX9_simulate_108 : decode cX9_simulate 108 = .ok (.imul, 1) := by decide +kernel
theorem dX9_simulate_109 : decode cX9_simulate 109 = .ok (.bipush 100, 2) := by decide +kernel
theorem dX9_simulate_111 : decode cX9_simulate 111 = .ok (.aload_n 0, 1) := by decide +kernel
theorem dX9_simulate_112 : decode cX9_simulate 112 = .ok (.getfield 16, 3) := by decide +kernel
theorem dX9_simulate_115 : decode cX9_simulate 115 = .ok (.iconst 0, 1) := by decide +kernel
theorem dX9_simulate_116 : decode cX9_simulate 116 = .ok (.iconst 0, 1) := by decide +kernel
theorem dX9_simulate_117 : decode cX9_simulate 117 = .ok (.invokestatic 64, 3) := by decide +kernel
theorem dX9_simulate_120 : decode cX9_simulate 120 = .ok (.imul, 1) := by decide +kernel
theorem dX9_simulate_121 : decode cX9_simulate 121 = .ok (.iadd, 1) := by decide +kernel
theorem dX9_simulate_122 : decode cX9_simulate 122 = .ok (.aload_n 0, 1) := by decide +kernel
theorem dX9_simulate_123 : decode cX9_simulate 123 = .ok (.getfield 16, 3) := by decide +kernel
theorem dX9_simulate_126 : decode cX9_simulate 126 = .ok (.iconst 1, 1) := by decide +kernel
theorem dX9_simulate_127 : decode cX9_simulate 127 = .ok (.iconst 0, 1) := by decide +kernel
theorem dX9_simulate_128 : decode cX9_simulate 128 = .ok (.invokestatic 64, 3) := by decide +kernel
theorem dX9_simulate_131 : decode cX9_simulate 131 = .ok (.iadd, 1) := by decide +kernel
theorem dX9_simulate_132 : decode cX9_simulate 132 = .ok (.ireturn, 1) := by decide +kernel
set_option maxRecDepth 20000 in
theorem ggX9_save_X9_in : GoodIn wsX9_save wsX9_in := goodIn_r _ [7] (by decide +kernel) (by decide +kernel)
set_option maxRecDepth 20000 in
theorem gX9_save_X9_in : GoodIn wsX9_save (va_wsS RX9 60 yX9_in wsX9_in) := goodIn_app (goodIn_of _ (by decide +kernel)) ggX9_save_X9_in
set_option maxRecDepth 20000 in
theorem ggX9_save_X9_refused : GoodIn wsX9_save wsX9_refused := goodIn_r _ [11, 12, 16, 17, 18, 19, 20, 21, 22, 23, 24, 25, 26, 27, 28, 29, 30, 31, 32, 33, 34] (by decide +kernel) (by decide +kernel)
set_option maxRecDepth 20000 in
theorem gX9_save_X9_refused : GoodIn wsX9_save (wsV RX9 156 RX9 yX9_refused wsX9_refused) := goodIn_app (goodIn_of _ (by decide +kernel)) ggX9_save_X9_refused
set_option maxRecDepth 20000 in
theorem ggX9_save_X9_copyState : GoodIn wsX9_save wsX9_copyState := goodIn_r _ [15] (by decide +kernel) (by decide +kernel)
set_option maxRecDepth 20000 in
theorem gX9_save_X9_copyState : GoodIn wsX9_save (va_wsS RX9 220 yX9_copyState wsX9_copyState) := goodIn_app (goodIn_of _ (by decide +kernel)) ggX9_save_X9_copyState
theorem dX9_save_0 : decode cX9_save 0 = .ok (.aload_n 0, 1) := by decide +kernel
theorem dX9_save_1 : decode cX9_save 1 = .ok (.iload_n 1, 1) := by decide +kernel
theorem dX9_save_2 : decode cX9_save 2 = .ok (.i2l, 1) := by decide +kernel
theorem dX9_save_3 : decode cX9_save 3 = .ok (.lconst 0, 1) := by decide +kernel
theorem dX9_save_4 : decode cX9_save 4 = .ok (.lconst 1, 1) := by decide +kernel
theorem dX9_save_5 : decode cX9_save 5 = .ok (.invokestatic 60, 3) := by decide +kernel
theorem dX9_save_8 : decode cX9_save 8 = .ok (.ifCond .eq 7, 3) := by decide +kernel
theorem dX9_save_11 : decode cX9_save 11 = .ok (.iconst 0, 1) := by decide +kernel
theorem dX9_save_12 : decode cX9_save 12 = .ok (.goto 4, 3) := by decide +kernel
theorem dX9_save_15 : decode cX9_save 15 = .ok (.iconst 1, 1) := by decide +kernel
theorem dX9_save_16 : decode cX9_save 16 = .ok (.invokevirtual 156, 3) := by decide +kernel
theorem dX9_save_19 : decode cX9_save 19 = .ok (.ifCond .eq 5, 3) := by decide +kernel
theorem dX9_save_22 : decode cX9_save 22 = .ok (.iconst 0, 1) := by decide +kernel
theorem dX9_save_23 : decode cX9_save 23 = .ok (.ireturn, 1) := by decide +kernel
theorem dX9_save_24 : decode cX9_save 24 = .ok (.aload_n 0, 1) := by decide +kernel
theorem dX9_save_25 : decode cX9_save 25 = .ok (.getfield 13, 3) := by decide +kernel
theorem dX9_save_28 : decode cX9_save 28 = .ok (.iconst 0, 1) := by decide +kernel
theorem dX9_save_29 : decode cX9_save 29 = .ok (.aload_n 0, 1) := by decide +kernel
theorem dX9_save_30 : decode cX9_save 30 = .ok (.getfield 25, 3) := by decide +kernel
theorem dX9_save_33 : decode cX9_save 33 = .ok (.bipush 117, 2) := by decide +kernel
theorem dX9_save_35 : decode cX9_save 35 = .ok (.iload_n 1, 1) := by decide +kernel
theorem dX9_save_36 : decode cX9_save 36 = .ok (.imul, 1) := by decide +kernel
theorem dX9_save_37 : decode cX9_save 37 = .ok (.invokestatic 220, 3) := by decide +kernel
theorem dX9_save_40 : decode cX9_save 40 = .ok (.aload_n 0, 1) := by decide +kernel
theorem dX9_save_41 : decode cX9_save 41 = .ok (.getfield 28, 3) := by decide +kernel
theorem dX9_save_44 : decode cX9_save 44 = .ok (.iload_n 1, 1) := by decide +kernel
theorem dX9_save_45 : decode cX9_save 45 = .ok (.iconst 1, 1) := by decide +kernel
theorem dX9_save_46 : decode cX9_save 46 = .ok (.bastore, 1) := by decide +kernel
theorem dX9_save_47 : decode cX9_save 47 = .ok (.aload_n 0, 1) := by decide +kernel
theorem dX9_save_48 : decode cX9_save 48 = .ok (.getfield 13, 3) := by decide +kernel
theorem dX9_save_51 : decode cX9_save 51 = .ok (.bipush 116, 2) := by decide +kernel
theorem dX9_save_53 : decode cX9_save 53 = .ok (.iaload, 1) := by decide +kernel
theorem dX9_save_54 : decode cX9_save 54 = .ok (.ireturn, 1) := by decide +kernel
set_option maxRecDepth 20000 in
theorem ggX9_restore_X9_in : GoodIn wsX9_restore wsX9_in := goodIn_r _ [8] (by decide +kernel) (by decide +kernel)
set_option maxRecDepth 20000 in
theorem gX9_restore_X9_in : GoodIn wsX9_restore (va_wsS RX9 60 yX9_in wsX9_in) := goodIn_app (goodIn_of _ (by decide +kernel)) ggX9_restore_X9_in
set_option maxRecDepth 20000 in
theorem ggX9_restore_X9_refused : GoodIn wsX9_restore wsX9_refused := goodIn_r _ [12, 13, 17, 18, 19, 20, 21, 22, 23, 24, 25, 26, 27, 28, 29, 30, 31, 32, 33, 34, 35] (by decide +kernel) (by decide +kernel)
set_option maxRecDepth 20000 in
theorem gX9_restore_X9_refused : GoodIn wsX9_restore (wsV RX9 156 RX9 yX9_refused wsX9_refused) := goodIn_app (goodIn_of _ (by decide +kernel)) ggX9_restore_X9_refused
set_option maxRecDepth 20000 in
theorem ggX9_restore_X9_copyState : GoodIn wsX9_restore wsX9_copyState := goodIn_r _ [16] (by decide +kernel) (by decide +kernel)
set_option maxRecDepth 20000 in
theorem gX9_restore_X9_copyState : GoodIn wsX9_restore (va_wsS RX9 220 yX9_copyState wsX9_copyState) := goodIn_app (goodIn_of _ (by decide +kernel)) ggX9_restore_X9_copyState
theorem dX9_restore_0 : decode cX9_restore 0 = .ok (.aload_n 0, 1) := by decide +kernel
theorem dX9_restore_1 : decode cX9_restore 1 = .ok (.iload_n 1, 1) := by decide +kernel
theorem dX9_restore_2 : decode cX9_restore 2 = .ok (.i2l, 1) := by decide +kernel
theorem dX9_restore_3 : decode cX9_restore 3 = .ok (.lconst 0, 1) := by decide +kernel
theorem dX9_restore_4 : decode cX9_restore 4 = .ok (.lconst 1, 1) := by decide +kernel
theorem dX9_restore_5 : decode cX9_restore 5 = .ok (.invokestatic 60, 3) := by decide +kernel
theorem dX9_restore_8 : decode cX9_restore 8 = .ok (.ifCond .ne 7, 3) := by decide +kernel
theorem dX9_restore_11 : decode cX9_restore 11 = .ok (.iconst 1, 1) := by decide +kernel
theorem dX9_restore_12 : decode cX9_restore 12 = .ok (.goto 17, 3) := by decide +kernel
theorem dX9_restore_15 : decode cX9_restore 15 = .ok (.aload_n 0, 1) := by decide +kernel
theorem dX9_restore_16 : decode cX9_restore 16 = .ok (.getfield 28, 3) := by decide +kernel
theorem dX9_restore_19 : decode cX9_restore 19 = .ok (.iload_n 1, 1) := by decide +kernel
theorem dX9_restore_20 : decode cX9_restore 20 = .ok (.baload, 1) := by decide +kernel
theorem dX9_restore_21 : decode cX9_restore 21 = .ok (.ifCond .ne 7, 3) := by decide +kernel
theorem dX9_restore_24 : decode cX9_restore 24 = .ok (.iconst 2, 1) := by decide +kernel
theorem dX9_restore_25 : decode cX9_restore 25 = .ok (.goto 4, 3) := by decide +kernel
theorem dX9_restore_28 : decode cX9_restore 28 = .ok (.iconst 0, 1) := by decide +kernel
theorem dX9_restore_29 : decode cX9_restore 29 = .ok (.invokevirtual 156, 3) := by decide +kernel
theorem dX9_restore_32 : decode cX9_restore 32 = .ok (.ifCond .eq 5, 3) := by decide +kernel
theorem dX9_restore_35 : decode cX9_restore 35 = .ok (.iconst 0, 1) := by decide +kernel
theorem dX9_restore_36 : decode cX9_restore 36 = .ok (.ireturn, 1) := by decide +kernel
theorem dX9_restore_37 : decode cX9_restore 37 = .ok (.aload_n 0, 1) := by decide +kernel
theorem dX9_restore_38 : decode cX9_restore 38 = .ok (.getfield 25, 3) := by decide +kernel
theorem dX9_restore_41 : decode cX9_restore 41 = .ok (.bipush 117, 2) := by decide +kernel
theorem dX9_restore_43 : decode cX9_restore 43 = .ok (.iload_n 1, 1) := by decide +kernel
theorem dX9_restore_44 : decode cX9_restore 44 = .ok (.imul, 1) := by decide +kernel
theorem dX9_restore_45 : decode cX9_restore 45 = .ok (.aload_n 0, 1) := by decide +kernel
theorem dX9_restore_46 : decode cX9_restore 46 = .ok (.getfield 13, 3) := by decide +kernel
theorem dX9_restore_49 : decode cX9_restore 49 = .ok (.iconst 0, 1) := by decide +kernel
theorem dX9_restore_50 : decode cX9_restore 50 = .ok (.invokestatic 220, 3) := by decide +kernel
theorem dX9_restore_53 : decode cX9_restore 53 = .ok (.aload_n 0, 1) := by decide +kernel
theorem dX9_restore_54 : decode cX9_restore 54 = .ok (.iconst 0, 1) := by decide +kernel
theorem dX9_restore_55 : decode cX9_restore 55 = .ok (.putfield 224, 3) := by decide +kernel
theorem dX9_restore_58 : decode cX9_restore 58 = .ok (.aload_n 0, 1) := by decide +kernel
theorem dX9_restore_59 : decode cX9_restore 59 = .ok (.getfield 13, 3) := by decide +kernel
theorem dX9_restore_62 : decode cX9_restore 62 = .ok (.bipush 116, 2) := by decide +kernel
theorem dX9_restore_64 : decode cX9_restore 64 = .ok (.iaload, 1) := by decide +kernel
theorem dX9_restore_65 : decode cX9_restore 65 = .ok (.ireturn, 1) := by decide +kernel
