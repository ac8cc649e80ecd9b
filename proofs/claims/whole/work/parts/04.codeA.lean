theorem dX2_setOf_0 : decode cX2_setOf 0 = .ok (.iload_n 0, 1) := by decide +kernel
theorem dX2_setOf_1 : decode cX2_setOf 1 = .ok (.ifCond .lt 15, 3) := by decide +kernel
theorem dX2_setOf_4 : decode cX2_setOf 4 = .ok (.iload_n 0, 1) := by decide +kernel
theorem dX2_setOf_5 : decode cX2_setOf 5 = .ok (.bipush 36, 2) := by decide +kernel
theorem dX2_setOf_7 : decode cX2_setOf 7 = .ok (.if_icmp .ge 9, 3) := by decide +kernel
theorem dX2_setOf_10 : decode cX2_setOf 10 = .ok (.lconst 1, 1) := by decide +kernel
theorem dX2_setOf_11 : decode cX2_setOf 11 = .ok (.iload_n 0, 1) := by decide +kernel
theorem dX2_setOf_12 : decode cX2_setOf 12 = .ok (.lshl, 1) := by decide +kernel
theorem dX2_setOf_13 : decode cX2_setOf 13 = .ok (.goto 4, 3) := by decide +kernel
theorem dX2_setOf_16 : decode cX2_setOf 16 = .ok (.lconst 0, 1) := by decide +kernel
theorem dX2_setOf_17 : decode cX2_setOf 17 = .ok (.lreturn, 1) := by decide +kernel
theorem dX2_holds_0 : decode cX2_holds 0 = .ok (.iload_n 2, 1) := by decide +kernel
theorem dX2_holds_1 : decode cX2_holds 1 = .ok (.ifCond .lt 23, 3) := by decide +kernel
theorem dX2_holds_4 : decode cX2_holds 4 = .ok (.iload_n 2, 1) := by decide +kernel
theorem dX2_holds_5 : decode cX2_holds 5 = .ok (.bipush 36, 2) := by decide +kernel
theorem dX2_holds_7 : decode cX2_holds 7 = .ok (.if_icmp .ge 17, 3) := by decide +kernel
theorem dX2_holds_10 : decode cX2_holds 10 = .ok (.lload_n 0, 1) := by decide +kernel
theorem dX2_holds_11 : decode cX2_holds 11 = .ok (.iload_n 2, 1) := by decide +kernel
theorem dX2_holds_12 : decode cX2_holds 12 = .ok (.lushr, 1) := by decide +kernel
theorem dX2_holds_13 : decode cX2_holds 13 = .ok (.lconst 1, 1) := by decide +kernel
theorem dX2_holds_14 : decode cX2_holds 14 = .ok (.land, 1) := by decide +kernel
theorem dX2_holds_15 : decode cX2_holds 15 = .ok (.lconst 0, 1) := by decide +kernel
theorem dX2_holds_16 : decode cX2_holds 16 = .ok (.lcmp, 1) := by decide +kernel
theorem dX2_holds_17 : decode cX2_holds 17 = .ok (.ifCond .eq 7, 3) := by decide +kernel
theorem dX2_holds_20 : decode cX2_holds 20 = .ok (.iconst 1, 1) := by decide +kernel
theorem dX2_holds_21 : decode cX2_holds 21 = .ok (.goto 4, 3) := by decide +kernel
theorem dX2_holds_24 : decode cX2_holds 24 = .ok (.iconst 0, 1) := by decide +kernel
theorem dX2_holds_25 : decode cX2_holds 25 = .ok (.ireturn, 1) := by decide +kernel
theorem dX2_turned_0 : decode cX2_turned 0 = .ok (.iload_n 0, 1) := by decide +kernel
theorem dX2_turned_1 : decode cX2_turned 1 = .ok (.iload_n 1, 1) := by decide +kernel
theorem dX2_turned_2 : decode cX2_turned 2 = .ok (.iadd, 1) := by decide +kernel
theorem dX2_turned_3 : decode cX2_turned 3 = .ok (.iconst 3, 1) := by decide +kernel
theorem dX2_turned_4 : decode cX2_turned 4 = .ok (.iand, 1) := by decide +kernel
theorem dX2_turned_5 : decode cX2_turned 5 = .ok (.ireturn, 1) := by decide +kernel
theorem dX2_beside_0 : decode cX2_beside 0 = .ok (.iload_n 0, 1) := by decide +kernel
theorem dX2_beside_1 : decode cX2_beside 1 = .ok (.ifCond .lt 9, 3) := by decide +kernel
theorem dX2_beside_4 : decode cX2_beside 4 = .ok (.iload_n 0, 1) := by decide +kernel
theorem dX2_beside_5 : decode cX2_beside 5 = .ok (.bipush 36, 2) := by decide +kernel
theorem dX2_beside_7 : decode cX2_beside 7 = .ok (.if_icmp .lt 5, 3) := by decide +kernel
theorem dX2_beside_10 : decode cX2_beside 10 = .ok (.iconst (-1), 1) := by decide +kernel
theorem dX2_beside_11 : decode cX2_beside 11 = .ok (.ireturn, 1) := by decide +kernel
theorem dX2_beside_12 : decode cX2_beside 12 = .ok (.iload_n 0, 1) := by decide +kernel
theorem dX2_beside_13 : decode cX2_beside 13 = .ok (.bipush 6, 2) := by decide +kernel
theorem dX2_beside_15 : decode cX2_beside 15 = .ok (.irem, 1) := by decide +kernel
theorem dX2_beside_16 : decode cX2_beside 16 = .ok (.istore_n 2, 1) := by decide +kernel
theorem dX2_beside_17 : decode cX2_beside 17 = .ok (.iload_n 1, 1) := by decide +kernel
theorem dX2_beside_18 : decode cX2_beside 18 = .ok (.tableswitch 69 0 2 #[26, 41, 54], 26) := by decide +kernel
theorem dX2_beside_44 : decode cX2_beside 44 = .ok (.iload_n 0, 1) := by decide +kernel
theorem dX2_beside_45 : decode cX2_beside 45 = .ok (.bipush 6, 2) := by decide +kernel
theorem dX2_beside_47 : decode cX2_beside 47 = .ok (.if_icmp .lt 10, 3) := by decide +kernel
theorem dX2_beside_50 : decode cX2_beside 50 = .ok (.iload_n 0, 1) := by decide +kernel
theorem dX2_beside_51 : decode cX2_beside 51 = .ok (.bipush 6, 2) := by decide +kernel
theorem dX2_beside_53 : decode cX2_beside 53 = .ok (.isub, 1) := by decide +kernel
theorem dX2_beside_54 : decode cX2_beside 54 = .ok (.goto 4, 3) := by decide +kernel
theorem dX2_beside_57 : decode cX2_beside 57 = .ok (.iconst (-1), 1) := by decide +kernel
theorem dX2_beside_58 : decode cX2_beside 58 = .ok (.ireturn, 1) := by decide +kernel
theorem dX2_beside_59 : decode cX2_beside 59 = .ok (.iload_n 2, 1) := by decide +kernel
theorem dX2_beside_60 : decode cX2_beside 60 = .ok (.iconst 5, 1) := by decide +kernel
theorem dX2_beside_61 : decode cX2_beside 61 = .ok (.if_icmp .ge 9, 3) := by decide +kernel
theorem dX2_beside_64 : decode cX2_beside 64 = .ok (.iload_n 0, 1) := by decide +kernel
theorem dX2_beside_65 : decode cX2_beside 65 = .ok (.iconst 1, 1) := by decide +kernel
theorem dX2_beside_66 : decode cX2_beside 66 = .ok (.iadd, 1) := by decide +kernel
theorem dX2_beside_67 : decode cX2_beside 67 = .ok (.goto 4, 3) := by decide +kernel
theorem dX2_beside_70 : decode cX2_beside 70 = .ok (.iconst (-1), 1) := by decide +kernel
theorem dX2_beside_71 : decode cX2_beside 71 = .ok (.ireturn, 1) := by decide +kernel
theorem dX2_beside_72 : decode cX2_beside 72 = .ok (.iload_n 0, 1) := by decide +kernel
theorem dX2_beside_73 : decode cX2_beside 73 = .ok (.bipush 30, 2) := by decide +kernel
theorem dX2_beside_75 : decode cX2_beside 75 = .ok (.if_icmp .ge 10, 3) := by decide +kernel
theorem dX2_beside_78 : decode cX2_beside 78 = .ok (.iload_n 0, 1) := by decide +kernel
theorem dX2_beside_79 : decode cX2_beside 79 = .ok (.bipush 6, 2) := by decide +kernel
theorem dX2_beside_81 : decode cX2_beside 81 = .ok (.iadd, 1) := by decide +kernel
theorem dX2_beside_82 : decode cX2_beside 82 = .ok (.goto 4, 3) := by decide +kernel
theorem dX2_beside_85 : decode cX2_beside 85 = .ok (.iconst (-1), 1) := by decide +kernel
theorem dX2_beside_86 : decode cX2_beside 86 = .ok (.ireturn, 1) := by decide +kernel
theorem dX2_beside_87 : decode cX2_beside 87 = .ok (.iload_n 2, 1) := by decide +kernel
theorem dX2_beside_88 : decode cX2_beside 88 = .ok (.ifCond .le 9, 3) := by decide +kernel
theorem dX2_beside_91 : decode cX2_beside 91 = .ok (.iload_n 0, 1) := by decide +kernel
theorem dX2_beside_92 : decode cX2_beside 92 = .ok (.iconst 1, 1) := by decide +kernel
theorem dX2_beside_93 : decode cX2_beside 93 = .ok (.isub, 1) := by decide +kernel
theorem dX2_beside_94 : decode cX2_beside 94 = .ok (.goto 4, 3) := by decide +kernel
theorem dX2_beside_97 : decode cX2_beside 97 = .ok (.iconst (-1), 1) := by decide +kernel
theorem dX2_beside_98 : decode cX2_beside 98 = .ok (.ireturn, 1) := by decide +kernel
theorem dX2_allBeside_0 : decode cX2_allBeside 0 = .ok (.iload_n 2, 1) := by decide +kernel
theorem dX2_allBeside_1 : decode cX2_allBeside 1 = .ok (.tableswitch 41 0 2 #[27, 32, 36], 27) := by decide +kernel
theorem dX2_allBeside_28 : decode cX2_allBeside 28 = .ok (.lload_n 0, 1) := by decide +kernel
theorem dX2_allBeside_29 : decode cX2_allBeside 29 = .ok (.bipush 6, 2) := by decide +kernel
theorem dX2_allBeside_31 : decode cX2_allBeside 31 = .ok (.lushr, 1) := by decide +kernel
theorem dX2_allBeside_32 : decode cX2_allBeside 32 = .ok (.lreturn, 1) := by decide +kernel
theorem dX2_allBeside_33 : decode cX2_allBeside 33 = .ok (.lload_n 0, 1) := by decide +kernel
theorem dX2_allBeside_34 : decode cX2_allBeside 34 = .ok (.iconst 1, 1) := by decide +kernel
theorem dX2_allBeside_35 : decode cX2_allBeside 35 = .ok (.lshl, 1) := by decide +kernel
theorem dX2_allBeside_36 : decode cX2_allBeside 36 = .ok (.lreturn, 1) := by decide +kernel
theorem dX2_allBeside_37 : decode cX2_allBeside 37 = .ok (.lload_n 0, 1) := by decide +kernel
theorem dX2_allBeside_38 : decode cX2_allBeside 38 = .ok (.bipush 6, 2) := by decide +kernel
theorem dX2_allBeside_40 : decode cX2_allBeside 40 = .ok (.lshl, 1) := by decide +kernel
theorem dX2_allBeside_41 : decode cX2_allBeside 41 = .ok (.lreturn, 1) := by decide +kernel
theorem dX2_allBeside_42 : decode cX2_allBeside 42 = .ok (.lload_n 0, 1) := by decide +kernel
theorem dX2_allBeside_43 : decode cX2_allBeside 43 = .ok (.iconst 1, 1) := by decide +kernel
theorem dX2_allBeside_44 : decode cX2_allBeside 44 = .ok (.lushr, 1) := by decide +kernel
theorem dX2_allBeside_45 : decode cX2_allBeside 45 = .ok (.lreturn, 1) := by decide +kernel
theorem dX4_init_0 : decode cX4_init 0 = .ok (.aload_n 0, 1) := by decide +kernel
theorem dX4_init_1 : decode cX4_init 1 = .ok (.invokespecial 3, 3) := by decide +kernel
theorem dX4_init_4 : decode cX4_init 4 = .ok (.aload_n 0, 1) := by decide +kernel
theorem dX4_init_5 : decode cX4_init 5 = .ok (.bipush 10, 2) := by decide +kernel
theorem dX4_init_7 : decode cX4_init 7 = .ok (.newarray .int, 2) := by decide +kernel
theorem dX4_init_9 : decode cX4_init 9 = .ok (.putfield 9, 3) := by decide +kernel
theorem dX4_init_12 : decode cX4_init 12 = .ok (.return_, 1) := by decide +kernel
set_option maxRecDepth 20000 in
theorem ggX4_makeNew_X4_forgetProgram : GoodIn wsX4_makeNew wsX4_forgetProgram := goodIn_r _ [12, 13, 14, 15, 16, 17, 18, 19, 20, 21, 22, 23, 24] (by decide +kernel) (by decide +kernel)
set_option maxRecDepth 20000 in
theorem gX4_makeNew_X4_forgetProgram : GoodIn wsX4_makeNew (wsV RX4 39 RX4 yX4_forgetProgram wsX4_forgetProgram) := goodIn_app (goodIn_of _ (by decide +kernel)) ggX4_makeNew_X4_forgetProgram
theorem dX4_makeNew_0 : decode cX4_makeNew 0 = .ok (.aload_n 0, 1) := by decide +kernel
theorem dX4_makeNew_1 : decode cX4_makeNew 1 = .ok (.iload_n 1, 1) := by decide +kernel
theorem dX4_makeNew_2 : decode cX4_makeNew 2 = .ok (.putfield 15, 3) := by decide +kernel
theorem dX4_makeNew_5 : decode cX4_makeNew 5 = .ok (.aload_n 0, 1) := by decide +kernel
theorem dX4_makeNew_6 : decode cX4_makeNew 6 = .ok (.iconst 0, 1) := by decide +kernel
theorem dX4_makeNew_7 : decode cX4_makeNew 7 = .ok (.putfield 21, 3) := by decide +kernel
theorem dX4_makeNew_10 : decode cX4_makeNew 10 = .ok (.aload_n 0, 1) := by decide +kernel
theorem dX4_makeNew_11 : decode cX4_makeNew 11 = .ok (.iconst 1, 1) := by decide +kernel
theorem dX4_makeNew_12 : decode cX4_makeNew 12 = .ok (.putfield 24, 3) := by decide +kernel
theorem dX4_makeNew_15 : decode cX4_makeNew 15 = .ok (.aload_n 0, 1) := by decide +kernel
theorem dX4_makeNew_16 : decode cX4_makeNew 16 = .ok (.iconst 0, 1) := by decide +kernel
theorem dX4_makeNew_17 : decode cX4_makeNew 17 = .ok (.putfield 27, 3) := by decide +kernel
theorem dX4_makeNew_20 : decode cX4_makeNew 20 = .ok (.aload_n 0, 1) := by decide +kernel
theorem dX4_makeNew_21 : decode cX4_makeNew 21 = .ok (.iconst 0, 1) := by decide +kernel
theorem dX4_makeNew_22 : decode cX4_makeNew 22 = .ok (.putfield 30, 3) := by decide +kernel
theorem dX4_makeNew_25 : decode cX4_makeNew 25 = .ok (.aload_n 0, 1) := by decide +kernel
theorem dX4_makeNew_26 : decode cX4_makeNew 26 = .ok (.iconst 0, 1) := by decide +kernel
theorem dX4_makeNew_27 : decode cX4_makeNew 27 = .ok (.putfield 33, 3) := by decide +kernel
theorem dX4_makeNew_30 : decode cX4_makeNew 30 = .ok (.aload_n 0, 1) := by decide +kernel
theorem dX4_makeNew_31 : decode cX4_makeNew 31 = .ok (.iconst 0, 1) := by decide +kernel
theorem dX4_makeNew_32 : decode cX4_makeNew 32 = .ok (.putfield 36, 3) := by decide +kernel
theorem dX4_makeNew_35 : decode cX4_makeNew 35 = .ok (.aload_n 0, 1) := by decide +kernel
theorem dX4_makeNew_36 : decode cX4_makeNew 36 = .ok (.invokevirtual 39, 3) := by decide +kernel
theorem dX4_makeNew_39 : decode cX4_makeNew 39 = .ok (.return_, 1) := by decide +kernel
theorem dX4_copyFrom_0 : decode cX4_copyFrom 0 = .ok (.aload_n 0, 1) := by decide +kernel
theorem dX4_copyFrom_1 : decode cX4_copyFrom 1 = .ok (.aload_n 1, 1) := by decide +kernel
theorem dX4_copyFrom_2 : decode cX4_copyFrom 2 = .ok (.getfield 15, 3) := by decide +kernel
theorem dX4_copyFrom_5 : decode cX4_copyFrom 5 = .ok (.putfield 15, 3) := by decide +kernel
theorem dX4_copyFrom_8 : decode cX4_copyFrom 8 = .ok (.aload_n 0, 1) := by decide +kernel
theorem dX4_copyFrom_9 : decode cX4_copyFrom 9 = .ok (.aload_n 1, 1) := by decide +kernel
theorem dX4_copyFrom_10 : decode cX4_copyFrom 10 = .ok (.getfield 21, 3) := by decide +kernel
theorem dX4_copyFrom_13 : decode cX4_copyFrom 13 = .ok (.putfield 21, 3) := by decide +kernel
theorem dX4_copyFrom_16 : decode cX4_copyFrom 16 = .ok (.aload_n 0, 1) := by decide +kernel
theorem dX4_copyFrom_17 : decode cX4_copyFrom 17 = .ok (.aload_n 1, 1) := by decide +kernel
theorem dX4_copyFrom_18 : decode cX4_copyFrom 18 = .ok (.getfield 24, 3) := by decide +kernel
theorem dX4_copyFrom_21 : decode cX4_copyFrom 21 = .ok (.putfield 24, 3) := by decide +kernel
theorem dX4_copyFrom_24 : decode cX4_copyFrom 24 = .ok (.aload_n 0, 1) := by decide +kernel
theorem dX4_copyFrom_25 : decode cX4_copyFrom 25 = .ok (.aload_n 1, 1) := by decide +kernel
theorem dX4_copyFrom_26 : decode cX4_copyFrom 26 = .ok (.getfield 27, 3) := by decide +kernel
theorem dX4_copyFrom_29 : decode cX4_copyFrom 29 = .ok (.putfield 27, 3) := by decide +kernel
theorem dX4_copyFrom_32 : decode cX4_copyFrom 32 = .ok (.aload_n 0, 1) := by decide +kernel
theorem dX4_copyFrom_33 : decode cX4_copyFrom 33 = .ok (.aload_n 1, 1) := by decide +kernel
theorem dX4_copyFrom_34 : decode cX4_copyFrom 34 = .ok (.getfield 30, 3) := by decide +kernel
theorem dX4_copyFrom_37 : decode cX4_copyFrom 37 = .ok (.putfield 30, 3) := by decide +kernel
theorem dX4_copyFrom_40 : decode cX4_copyFrom 40 = .ok (.aload_n 0, 1) := by decide +kernel
theorem dX4_copyFrom_41 : decode cX4_copyFrom 41 = .ok (.aload_n 1, 1) := by decide +kernel
theorem dX4_copyFrom_42 : decode cX4_copyFrom 42 = .ok (.getfield 33, 3) := by decide +kernel
theorem dX4_copyFrom_45 : decode cX4_copyFrom 45 = .ok (.putfield 33, 3) := by decide +kernel
theorem dX4_copyFrom_48 : decode cX4_copyFrom 48 = .ok (.aload_n 0, 1) := by decide +kernel
theorem dX4_copyFrom_49 : decode cX4_copyFrom 49 = .ok (.aload_n 1, 1) := by decide +kernel
theorem dX4_copyFrom_50 : decode cX4_copyFrom 50 = .ok (.getfield 36, 3) := by decide +kernel
theorem dX4_copyFrom_53 : decode cX4_copyFrom 53 = .ok (.putfield 36, 3) := by decide +kernel
theorem dX4_copyFrom_56 : decode cX4_copyFrom 56 = .ok (.aload_n 0, 1) := by decide +kernel
theorem dX4_copyFrom_57 : decode cX4_copyFrom 57 = .ok (.aload_n 1, 1) := by decide +kernel
theorem dX4_copyFrom_58 : decode cX4_copyFrom 58 = .ok (.getfield 42, 3) := by decide +kernel
theorem dX4_copyFrom_61 : decode cX4_copyFrom 61 = .ok (.putfield 42, 3) := by decide +kernel
theorem dX4_copyFrom_64 : decode cX4_copyFrom 64 = .ok (.aload_n 0, 1) := by decide +kernel
theorem dX4_copyFrom_65 : decode cX4_copyFrom 65 = .ok (.aload_n 1, 1) := by decide +kernel
theorem dX4_copyFrom_66 : decode cX4_copyFrom 66 = .ok (.getfield 45, 3) := by decide +kernel
theorem dX4_copyFrom_69 : decode cX4_copyFrom 69 = .ok (.putfield 45, 3) := by decide +kernel
theorem dX4_copyFrom_72 : decode cX4_copyFrom 72 = .ok (.iconst 0, 1) := by decide +kernel
theorem dX4_copyFrom_73 : decode cX4_copyFrom 73 = .ok (.istore_n 2, 1) := by decide +kernel
theorem dX4_copyFrom_74 : decode cX4_copyFrom 74 = .ok (.iload_n 2, 1) := by decide +kernel
theorem dX4_copyFrom_75 : decode cX4_copyFrom 75 = .ok (.aload_n 0, 1) := by decide +kernel
theorem dX4_copyFrom_76 : decode cX4_copyFrom 76 = .ok (.getfield 9, 3) := by decide +kernel
theorem dX4_copyFrom_79 : decode cX4_copyFrom 79 = .ok (.arraylength, 1) := by decide +kernel
theorem dX4_copyFrom_80 : decode cX4_copyFrom 80 = .ok (.if_icmp .ge 30, 3) := by decide +kernel
theorem dX4_copyFrom_83 : decode cX4_copyFrom 83 = .ok (.iload_n 2, 1) := by decide +kernel
theorem dX4_copyFrom_84 : decode cX4_copyFrom 84 = .ok (.aload_n 1, 1) := by decide +kernel
theorem dX4_copyFrom_85 : decode cX4_copyFrom 85 = .ok (.getfield 9, 3) := by decide +kernel
theorem dX4_copyFrom_88 : decode cX4_copyFrom 88 = .ok (.arraylength, 1) := by decide +kernel
theorem dX4_copyFrom_89 : decode cX4_copyFrom 89 = .ok (.if_icmp .ge 21, 3) := by decide +kernel
theorem dX4_copyFrom_92 : decode cX4_copyFrom 92 = .ok (.aload_n 0, 1) := by decide +kernel
theorem dX4_copyFrom_93 : decode cX4_copyFrom 93 = .ok (.getfield 9, 3) := by decide +kernel
theorem dX4_copyFrom_96 : decode cX4_copyFrom 96 = .ok (.iload_n 2, 1) := by decide +kernel
theorem dX4_copyFrom_97 : decode cX4_copyFrom 97 = .ok (.aload_n 1, 1) := by decide +kernel
theorem dX4_copyFrom_98 : decode cX4_copyFrom 98 = .ok (.getfield 9, 3) := by decide +kernel
theorem dX4_copyFrom_101 : decode cX4_copyFrom 101 = .ok (.iload_n 2, 1) := by decide +kernel
theorem dX4_copyFrom_102 : decode cX4_copyFrom 102 = .ok (.iaload, 1) := by decide +kernel
theorem dX4_copyFrom_103 : decode cX4_copyFrom 103 = .ok (.iastore, 1) := by decide +kernel
theorem dX4_copyFrom_104 : decode cX4_copyFrom 104 = .ok (.iinc 2 1, 3) := by decide +kernel
theorem dX4_copyFrom_107 : decode cX4_copyFrom 107 = .ok (.goto (-33), 3) := by decide +kernel
theorem dX4_copyFrom_110 : decode cX4_copyFrom 110 = .ok (.return_, 1) := by decide +kernel
theorem dX4_forgetProgram_0 : decode cX4_forgetProgram 0 = .ok (.aload_n 0, 1) := by decide +kernel
theorem dX4_forgetProgram_1 : decode cX4_forgetProgram 1 = .ok (.iconst 0, 1) := by decide +kernel
theorem dX4_forgetProgram_2 : decode cX4_forgetProgram 2 = .ok (.putfield 42, 3) := by decide +kernel
theorem dX4_forgetProgram_5 : decode cX4_forgetProgram 5 = .ok (.aload_n 0, 1) := by decide +kernel
theorem dX4_forgetProgram_6 : decode cX4_forgetProgram 6 = .ok (.iconst 0, 1) := by decide +kernel
theorem dX4_forgetProgram_7 : decode cX4_forgetProgram 7 = .ok (.putfield 45, 3) := by decide +kernel
theorem dX4_forgetProgram_10 : decode cX4_forgetProgram 10 = .ok (.return_, 1) := by decide +kernel
theorem dX4_learn_0 : decode cX4_learn 0 = .ok (.aload_n 0, 1) := by decide +kernel
theorem dX4_learn_1 : decode cX4_learn 1 = .ok (.getfield 45, 3) := by decide +kernel
theorem dX4_learn_4 : decode cX4_learn 4 = .ok (.ifCond .lt 15, 3) := by decide +kernel
theorem dX4_learn_7 : decode cX4_learn 7 = .ok (.aload_n 0, 1) := by decide +kernel
theorem dX4_learn_8 : decode cX4_learn 8 = .ok (.getfield 45, 3) := by decide +kernel
theorem dX4_learn_11 : decode cX4_learn 11 = .ok (.aload_n 0, 1) := by decide +kernel
theorem dX4_learn_12 : decode cX4_learn 12 = .ok (.getfield 9, 3) := by decide +kernel
theorem dX4_learn_15 : decode cX4_learn 15 = .ok (.arraylength, 1) := by decide +kernel
theorem dX4_learn_16 : decode cX4_learn 16 = .ok (.if_icmp .lt 5, 3) := by decide +kernel
theorem dX4_learn_19 : decode cX4_learn 19 = .ok (.iconst 0, 1) := by decide +kernel
theorem dX4_learn_20 : decode cX4_learn 20 = .ok (.ireturn, 1) := by decide +kernel
theorem dX4_learn_21 : decode cX4_learn 21 = .ok (.aload_n 0, 1) := by decide +kernel
theorem dX4_learn_22 : decode cX4_learn 22 = .ok (.getfield 9, 3) := by decide +kernel
theorem dX4_learn_25 : decode cX4_learn 25 = .ok (.aload_n 0, 1) := by decide +kernel
theorem dX4_learn_26 : decode cX4_learn 26 = .ok (.getfield 45, 3) := by decide +kernel
theorem dX4_learn_29 : decode cX4_learn 29 = .ok (.iload_n 1, 1) := by decide +kernel
theorem dX4_learn_30 : decode cX4_learn 30 = .ok (.iastore, 1) := by decide +kernel
theorem dX4_learn_31 : decode cX4_learn 31 = .ok (.aload_n 0, 1) := by decide +kernel
theorem dX4_learn_32 : decode cX4_learn 32 = .ok (.dup, 1) := by decide +kernel
theorem dX4_learn_33 : decode cX4_learn 33 = .ok (.getfield 45, 3) := by decide +kernel
theorem dX4_learn_36 : decode cX4_learn 36 = .ok (.iconst 1, 1) := by decide +kernel
theorem dX4_learn_37 : decode cX4_learn 37 = .ok (.iadd, 1) := by decide +kernel
theorem dX4_learn_38 : decode cX4_learn 38 = .ok (.putfield 45, 3) := by decide +kernel
theorem dX4_learn_41 : decode cX4_learn 41 = .ok (.iconst 1, 1) := by decide +kernel
theorem dX4_learn_42 : decode cX4_learn 42 = .ok (.ireturn, 1) := by decide +kernel
theorem dX4_instruction_0 : decode cX4_instruction 0 = .ok (.iload_n 1, 1) := by decide +kernel
theorem dX4_instruction_1 : decode cX4_instruction 1 = .ok (.ifCond .lt 29, 3) := by decide +kernel
theorem dX4_instruction_4 : decode cX4_instruction 4 = .ok (.iload_n 1, 1) := by decide +kernel
theorem dX4_instruction_5 : decode cX4_instruction 5 = .ok (.aload_n 0, 1) := by decide +kernel
theorem dX4_instruction_6 : decode cX4_instruction 6 = .ok (.getfield 45, 3) := by decide +kernel
theorem dX4_instruction_9 : decode cX4_instruction 9 = .ok (.if_icmp .ge 21, 3) := by decide +kernel
theorem dX4_instruction_12 : decode cX4_instruction 12 = .ok (.iload_n 1, 1) := by decide +kernel
theorem dX4_instruction_13 : decode cX4_instruction 13 = .ok (.aload_n 0, 1) := by decide +kernel
theorem dX4_instruction_14 : decode cX4_instruction 14 = .ok (.getfield 9, 3) := by decide +kernel
theorem dX4_instruction_17 : decode cX4_instruction 17 = .ok (.arraylength, 1) := by decide +kernel
theorem dX4_instruction_18 : decode cX4_instruction 18 = .ok (.if_icmp .ge 12, 3) := by decide +kernel
theorem dX4_instruction_21 : decode cX4_instruction 21 = .ok (.aload_n 0, 1) := by decide +kernel
theorem dX4_instruction_22 : decode cX4_instruction 22 = .ok (.getfield 9, 3) := by decide +kernel
theorem dX4_instruction_25 : decode cX4_instruction 25 = .ok (.iload_n 1, 1) := by decide +kernel
theorem dX4_instruction_26 : decode cX4_instruction 26 = .ok (.iaload, 1) := by decide +kernel
theorem dX4_instruction_27 : decode cX4_instruction 27 = .ok (.goto 4, 3) := by decide +kernel
theorem dX4_instruction_30 : decode cX4_instruction 30 = .ok (.iconst (-1), 1) := by decide +kernel
theorem dX4_instruction_31 : decode cX4_instruction 31 = .ok (.ireturn, 1) := by decide +kernel
set_option maxRecDepth 20000 in
theorem ggX4_instructionNow_X4_instruction : GoodIn wsX4_instructionNow wsX4_instruction := goodIn_r _ [7, 1, 8, 9, 10, 11, 12, 13, 14, 15, 16, 17, 18] (by decide +kernel) (by decide +kernel)
set_option maxRecDepth 20000 in
theorem gX4_instructionNow_X4_instruction : GoodIn wsX4_instructionNow (wsV RX4 48 RX4 yX4_instruction wsX4_instruction) := goodIn_app (goodIn_of _ (by decide +kernel)) ggX4_instructionNow_X4_instruction
theorem dX4_instructionNow_0 : decode cX4_instructionNow 0 = .ok (.aload_n 0, 1) := by decide +kernel
theorem dX4_instructionNow_1 : decode cX4_instructionNow 1 = .ok (.getfield 45, 3) := by decide +kernel
theorem dX4_instructionNow_4 : decode cX4_instructionNow 4 = .ok (.ifCond .ne 7, 3) := by decide +kernel
theorem dX4_instructionNow_7 : decode cX4_instructionNow 7 = .ok (.iconst 5, 1) := by decide +kernel
theorem dX4_instructionNow_8 : decode cX4_instructionNow 8 = .ok (.goto 11, 3) := by decide +kernel
theorem dX4_instructionNow_11 : decode cX4_instructionNow 11 = .ok (.aload_n 0, 1) := by decide +kernel
theorem dX4_instructionNow_12 : decode cX4_instructionNow 12 = .ok (.aload_n 0, 1) := by decide +kernel
theorem dX4_instructionNow_13 : decode cX4_instructionNow 13 = .ok (.getfield 42, 3) := by decide +kernel
theorem dX4_instructionNow_16 : decode cX4_instructionNow 16 = .ok (.invokevirtual 48, 3) := by decide +kernel
theorem dX4_instructionNow_19 : decode cX4_instructionNow 19 = .ok (.ireturn, 1) := by decide +kernel
set_option maxRecDepth 20000 in
theorem ggX4_wantedDirection_X4_instructionNow : GoodIn wsX4_wantedDirection wsX4_instructionNow := goodIn_r _ [6, 7, 8, 9, 10, 11, 5, 12, 13, 18, 19, 20, 21, 22, 23, 24, 25, 26, 27] (by decide +kernel) (by decide +kernel)
set_option maxRecDepth 20000 in
theorem gX4_wantedDirection_X4_instructionNow : GoodIn wsX4_wantedDirection (wsV RX4 52 RX4 yX4_instructionNow wsX4_instructionNow) := goodIn_app (goodIn_of _ (by decide +kernel)) ggX4_wantedDirection_X4_instructionNow
set_option maxRecDepth 20000 in
theorem ggX4_wantedDirection_X2_turned : GoodIn wsX4_wantedDirection wsX2_turned := goodIn_r _ [17] (by decide +kernel) (by decide +kernel)
set_option maxRecDepth 20000 in
theorem gX4_wantedDirection_X2_turned : GoodIn wsX4_wantedDirection (va_wsS RX4 56 yX2_turned wsX2_turned) := goodIn_app (goodIn_of _ (by decide +kernel)) ggX4_wantedDirection_X2_turned
theorem dX4_wantedDirection_0 : decode cX4_wantedDirection 0 = .ok (.aload_n 0, 1) := by decide +kernel
theorem dX4_wantedDirection_1 : decode cX4_wantedDirection 1 = .ok (.invokevirtual 52, 3) := by decide +kernel
theorem dX4_wantedDirection_4 : decode cX4_wantedDirection 4 = .ok (.lookupswitch 42 #[(0, 28), (1, 33)], 28) := by decide +kernel
theorem dX4_wantedDirection_32 : decode cX4_wantedDirection 32 = .ok (.aload_n 0, 1) := by decide +kernel
theorem dX4_wantedDirection_33 : decode cX4_wantedDirection 33 = .ok (.getfield 21, 3) := by decide +kernel
theorem dX4_wantedDirection_36 : decode cX4_wantedDirection 36 = .ok (.ireturn, 1) := by decide +kernel
theorem dX4_wantedDirection_37 : decode cX4_wantedDirection 37 = .ok (.aload_n 0, 1) := by decide +kernel
theorem dX4_wantedDirection_38 : decode cX4_wantedDirection 38 = .ok (.getfield 21, 3) := by decide +kernel
theorem dX4_wantedDirection_41 : decode cX4_wantedDirection 41 = .ok (.iconst 2, 1) := by decide +kernel
theorem dX4_wantedDirection_42 : decode cX4_wantedDirection 42 = .ok (.invokestatic 56, 3) := by decide +kernel
theorem dX4_wantedDirection_45 : decode cX4_wantedDirection 45 = .ok (.ireturn, 1) := by decide +kernel
theorem dX4_wantedDirection_46 : decode cX4_wantedDirection 46 = .ok (.iconst (-1), 1) := by decide +kernel
theorem dX4_wantedDirection_47 : decode cX4_wantedDirection 47 = .ok (.ireturn, 1) := by decide +kernel
set_option maxRecDepth 20000 in
theorem ggX4_turn_X4_instructionNow : GoodIn wsX4_turn wsX4_instructionNow := goodIn_r _ [6, 7, 8, 9, 10, 11, 5, 12, 13, 18, 19, 20, 21, 22, 23, 24, 25, 26, 27] (by decide +kernel) (by decide +kernel)
set_option maxRecDepth 20000 in
theorem gX4_turn_X4_instructionNow : GoodIn wsX4_turn (wsV RX4 52 RX4 yX4_instructionNow wsX4_instructionNow) := goodIn_app (goodIn_of _ (by decide +kernel)) ggX4_turn_X4_instructionNow
set_option maxRecDepth 20000 in
theorem ggX4_turn_X2_turned : GoodIn wsX4_turn wsX2_turned := goodIn_r _ [17] (by decide +kernel) (by decide +kernel)
set_option maxRecDepth 20000 in
theorem gX4_turn_X2_turned : GoodIn wsX4_turn (va_wsS RX4 56 yX2_turned wsX2_turned) := goodIn_app (goodIn_of _ (by decide +kernel)) ggX4_turn_X2_turned
theorem dX4_turn_0 : decode cX4_turn 0 = .ok (.aload_n 0, 1) := by decide +kernel
theorem dX4_turn_1 : decode cX4_turn 1 = .ok (.invokevirtual 52, 3) := by decide +kernel
theorem dX4_turn_4 : decode cX4_turn 4 = .ok (.tableswitch 73 2 4 #[28, 43, 58], 28) := by decide +kernel
theorem dX4_turn_32 : decode cX4_turn 32 = .ok (.aload_n 0, 1) := by decide +kernel
theorem dX4_turn_33 : decode cX4_turn 33 = .ok (.aload_n 0, 1) := by decide +kernel
theorem dX4_turn_34 : decode cX4_turn 34 = .ok (.getfield 21, 3) := by decide +kernel
theorem dX4_turn_37 : decode cX4_turn 37 = .ok (.iconst 3, 1) := by decide +kernel
theorem dX4_turn_38 : decode cX4_turn 38 = .ok (.invokestatic 56, 3) := by decide +kernel
theorem dX4_turn_41 : decode cX4_turn 41 = .ok (.putfield 21, 3) := by decide +kernel
theorem dX4_turn_44 : decode cX4_turn 44 = .ok (.goto 33, 3) := by decide +kernel
theorem dX4_turn_47 : decode cX4_turn 47 = .ok (.aload_n 0, 1) := by decide +kernel
theorem dX4_turn_48 : decode cX4_turn 48 = .ok (.aload_n 0, 1) := by decide +kernel
theorem dX4_turn_49 : decode cX4_turn 49 = .ok (.getfield 21, 3) := by decide +kernel
theorem dX4_turn_52 : decode cX4_turn 52 = .ok (.iconst 1, 1) := by decide +kernel
theorem dX4_turn_53 : decode cX4_turn 53 = .ok (.invokestatic 56, 3) := by decide +kernel
theorem dX4_turn_56 : decode cX4_turn 56 = .ok (.putfield 21, 3) := by decide +kernel
theorem dX4_turn_59 : decode cX4_turn 59 = .ok (.goto 18, 3) := by decide +kernel
theorem dX4_turn_62 : decode cX4_turn 62 = .ok (.aload_n 0, 1) := by decide +kernel
theorem dX4_turn_63 : decode cX4_turn 63 = .ok (.aload_n 0, 1) := by decide +kernel
theorem dX4_turn_64 : decode cX4_turn 64 = .ok (.getfield 21, 3) := by decide +kernel
theorem dX4_turn_67 : decode cX4_turn 67 = .ok (.iconst 2, 1) := by decide +kernel
theorem dX4_turn_68 : decode cX4_turn 68 = .ok (.invokestatic 56, 3) := by decide +kernel
theorem dX4_turn_71 : decode cX4_turn 71 = .ok (.putfield 21, 3) := by decide +kernel
theorem dX4_turn_74 : decode cX4_turn 74 = .ok (.goto 3, 3) := by decide +kernel
theorem dX4_turn_77 : decode cX4_turn 77 = .ok (.return_, 1) := by decide +kernel
theorem dX4_comeToNextPlace_0 : decode cX4_comeToNextPlace 0 = .ok (.aload_n 0, 1) := by decide +kernel
theorem dX4_comeToNextPlace_1 : decode cX4_comeToNextPlace 1 = .ok (.aload_n 0, 1) := by decide +kernel
theorem dX4_comeToNextPlace_2 : decode cX4_comeToNextPlace 2 = .ok (.getfield 42, 3) := by decide +kernel
theorem dX4_comeToNextPlace_5 : decode cX4_comeToNextPlace 5 = .ok (.iconst 1, 1) := by decide +kernel
theorem dX4_comeToNextPlace_6 : decode cX4_comeToNextPlace 6 = .ok (.iadd, 1) := by decide +kernel
theorem dX4_comeToNextPlace_7 : decode cX4_comeToNextPlace 7 = .ok (.aload_n 0, 1) := by decide +kernel
theorem dX4_comeToNextPlace_8 : decode cX4_comeToNextPlace 8 = .ok (.getfield 45, 3) := by decide +kernel
theorem dX4_comeToNextPlace_11 : decode cX4_comeToNextPlace 11 = .ok (.if_icmp .ge 12, 3) := by decide +kernel
theorem dX4_comeToNextPlace_14 : decode cX4_comeToNextPlace 14 = .ok (.aload_n 0, 1) := by decide +kernel
theorem dX4_comeToNextPlace_15 : decode cX4_comeToNextPlace 15 = .ok (.getfield 42, 3) := by decide +kernel
theorem dX4_comeToNextPlace_18 : decode cX4_comeToNextPlace 18 = .ok (.iconst 1, 1) := by decide +kernel
theorem dX4_comeToNextPlace_19 : decode cX4_comeToNextPlace 19 = .ok (.iadd, 1) := by decide +kernel
theorem dX4_comeToNextPlace_20 : decode cX4_comeToNextPlace 20 = .ok (.goto 4, 3) := by decide +kernel
theorem dX4_comeToNextPlace_23 : decode cX4_comeToNextPlace 23 = .ok (.iconst 0, 1) := by decide +kernel
theorem dX4_comeToNextPlace_24 : decode cX4_comeToNextPlace 24 = .ok (.putfield 42, 3) := by decide +kernel
theorem dX4_comeToNextPlace_27 : decode cX4_comeToNextPlace 27 = .ok (.return_, 1) := by decide +kernel
set_option maxRecDepth 20000 in
theorem ggX1_init_X4_init : GoodIn wsX1_init wsX4_init := goodIn_r _ [13, 14, 2, 3, 4, 15, 58, 59, 60, 61, 62, 63, 64, 65, 66, 67] (by decide +kernel) (by decide +kernel)
set_option maxRecDepth 20000 in
theorem gX1_init_X4_init_n20 : GoodIn wsX1_init (wsX4_init) := ggX1_init_X4_init
set_option maxRecDepth 20000 in
theorem ggX1_init_X1_makeNew : GoodIn wsX1_init wsX1_makeNew := goodIn_r _ [20, 5, 10, 11, 21, 22, 23, 24, 25, 26, 27, 28, 29, 30, 31, 9, 32, 33, 34, 35, 36, 37, 38, 39, 40, 41, 42, 43, 44, 45, 46, 47, 48, 49, 50, 51, 52, 53, 54, 55, 56, 57, 58, 59, 60, 61, 62, 63, 64, 65, 66, 67] (by decide +kernel) (by decide +kernel)
set_option maxRecDepth 20000 in
theorem gX1_init_X1_makeNew : GoodIn wsX1_init (wsV RX1 28 RX1 yX1_makeNew wsX1_makeNew) := goodIn_app (goodIn_of _ (by decide +kernel)) ggX1_init_X1_makeNew
theorem dX1_init_0 : decode cX1_init 0 = .ok (.aload_n 0, 1) := by decide +kernel
theorem dX1_init_1 : decode cX1_init 1 = .ok (.invokespecial 3, 3) := by decide +kernel
theorem dX1_init_4 : decode cX1_init 4 = .ok (.aload_n 0, 1) := by decide +kernel
theorem dX1_init_5 : decode cX1_init 5 = .ok (.bipush 36, 2) := by decide +kernel
theorem dX1_init_7 : decode cX1_init 7 = .ok (.newarray .int, 2) := by decide +kernel
theorem dX1_init_9 : decode cX1_init 9 = .ok (.putfield 9, 3) := by decide +kernel
theorem dX1_init_12 : decode cX1_init 12 = .ok (.aload_n 0, 1) := by decide +kernel
theorem dX1_init_13 : decode cX1_init 13 = .ok (.iconst 4, 1) := by decide +kernel
theorem dX1_init_14 : decode cX1_init 14 = .ok (.newarray .int, 2) := by decide +kernel
theorem dX1_init_16 : decode cX1_init 16 = .ok (.putfield 15, 3) := by decide +kernel
theorem dX1_init_19 : decode cX1_init 19 = .ok (.aload_n 0, 1) := by decide +kernel
theorem dX1_init_20 : decode cX1_init 20 = .ok (.new 18, 3) := by decide +kernel
theorem dX1_init_23 : decode cX1_init 23 = .ok (.dup, 1) := by decide +kernel
theorem dX1_init_24 : decode cX1_init 24 = .ok (.invokespecial 20, 3) := by decide +kernel
theorem dX1_init_27 : decode cX1_init 27 = .ok (.putfield 21, 3) := by decide +kernel
theorem dX1_init_30 : decode cX1_init 30 = .ok (.aload_n 0, 1) := by decide +kernel
theorem dX1_init_31 : decode cX1_init 31 = .ok (.new 18, 3) := by decide +kernel
theorem dX1_init_34 : decode cX1_init 34 = .ok (.dup, 1) := by decide +kernel
theorem dX1_init_35 : decode cX1_init 35 = .ok (.invokespecial 20, 3) := by decide +kernel
theorem dX1_init_38 : decode cX1_init 38 = .ok (.putfield 25, 3) := by decide +kernel
theorem dX1_init_41 : decode cX1_init 41 = .ok (.aload_n 0, 1) := by decide +kernel
theorem dX1_init_42 : decode cX1_init 42 = .ok (.invokevirtual 28, 3) := by decide +kernel
theorem dX1_init_45 : decode cX1_init 45 = .ok (.return_, 1) := by decide +kernel
set_option maxRecDepth 20000 in
theorem ggX1_makeNew_X4_makeNew : GoodIn wsX1_makeNew wsX4_makeNew := goodIn_r _ [16, 17, 18, 19, 20, 21, 22, 23, 24, 25, 26, 15, 27, 28, 29, 42, 43, 44, 45, 46, 47, 48, 49, 50, 51] (by decide +kernel) (by decide +kernel)
set_option maxRecDepth 20000 in
theorem gX1_makeNew_X4_makeNew : GoodIn wsX1_makeNew (wsV RX1 31 RX4 yX4_makeNew wsX4_makeNew) := goodIn_app (goodIn_of _ (by decide +kernel)) ggX1_makeNew_X4_makeNew
theorem dX1_makeNew_0 : decode cX1_makeNew 0 = .ok (.iconst 0, 1) := by decide +kernel
theorem dX1_makeNew_1 : decode cX1_makeNew 1 = .ok (.istore_n 1, 1) := by decide +kernel
theorem dX1_makeNew_2 : decode cX1_makeNew 2 = .ok (.iload_n 1, 1) := by decide +kernel
theorem dX1_makeNew_3 : decode cX1_makeNew 3 = .ok (.aload_n 0, 1) := by decide +kernel
theorem dX1_makeNew_4 : decode cX1_makeNew 4 = .ok (.getfield 9, 3) := by decide +kernel
theorem dX1_makeNew_7 : decode cX1_makeNew 7 = .ok (.arraylength, 1) := by decide +kernel
theorem dX1_makeNew_8 : decode cX1_makeNew 8 = .ok (.if_icmp .ge 16, 3) := by decide +kernel
theorem dX1_makeNew_11 : decode cX1_makeNew 11 = .ok (.aload_n 0, 1) := by decide +kernel
theorem dX1_makeNew_12 : decode cX1_makeNew 12 = .ok (.getfield 9, 3) := by decide +kernel
theorem dX1_makeNew_15 : decode cX1_makeNew 15 = .ok (.iload_n 1, 1) := by decide +kernel
theorem dX1_makeNew_16 : decode cX1_makeNew 16 = .ok (.iconst 0, 1) := by decide +kernel
theorem dX1_makeNew_17 : decode cX1_makeNew 17 = .ok (.iastore, 1) := by decide +kernel
theorem dX1_makeNew_18 : decode cX1_makeNew 18 = .ok (.iinc 1 1, 3) := by decide +kernel
theorem dX1_makeNew_21 : decode cX1_makeNew 21 = .ok (.goto (-19), 3) := by decide +kernel
theorem dX1_makeNew_24 : decode cX1_makeNew 24 = .ok (.aload_n 0, 1) := by decide +kernel
theorem dX1_makeNew_25 : decode cX1_makeNew 25 = .ok (.getfield 21, 3) := by decide +kernel
theorem dX1_makeNew_28 : decode cX1_makeNew 28 = .ok (.bipush 30, 2) := by decide +kernel
theorem dX1_makeNew_30 : decode cX1_makeNew 30 = .ok (.invokevirtual 31, 3) := by decide +kernel
theorem dX1_makeNew_33 : decode cX1_makeNew 33 = .ok (.aload_n 0, 1) := by decide +kernel
theorem dX1_makeNew_34 : decode cX1_makeNew 34 = .ok (.getfield 25, 3) := by decide +kernel
theorem dX1_makeNew_37 : decode cX1_makeNew 37 = .ok (.bipush 35, 2) := by decide +kernel
theorem dX1_makeNew_39 : decode cX1_makeNew 39 = .ok (.invokevirtual 31, 3) := by decide +kernel
theorem dX1_makeNew_42 : decode cX1_makeNew 42 = .ok (.aload_n 0, 1) := by decide +kernel
theorem dX1_makeNew_43 : decode cX1_makeNew 43 = .ok (.lconst 0, 1) := by decide +kernel
theorem dX1_makeNew_44 : decode cX1_makeNew 44 = .ok (.putfield 34, 3) := by decide +kernel
theorem dX1_makeNew_47 : decode cX1_makeNew 47 = .ok (.aload_n 0, 1) := by decide +kernel
theorem dX1_makeNew_48 : decode cX1_makeNew 48 = .ok (.lconst 0, 1) := by decide +kernel
theorem dX1_makeNew_49 : decode cX1_makeNew 49 = .ok (.putfield 38, 3) := by decide +kernel
theorem dX1_makeNew_52 : decode cX1_makeNew 52 = .ok (.aload_n 0, 1) := by decide +kernel
theorem dX1_makeNew_53 : decode cX1_makeNew 53 = .ok (.lconst 0, 1) := by decide +kernel
theorem dX1_makeNew_54 : decode cX1_makeNew 54 = .ok (.putfield 41, 3) := by decide +kernel
theorem dX1_makeNew_57 : decode cX1_makeNew 57 = .ok (.aload_n 0, 1) := by decide +kernel
theorem dX1_makeNew_58 : decode cX1_makeNew 58 = .ok (.iconst 0, 1) := by decide +kernel
theorem dX1_makeNew_59 : decode cX1_makeNew 59 = .ok (.putfield 44, 3) := by decide +kernel
theorem dX1_makeNew_62 : decode cX1_makeNew 62 = .ok (.aload_n 0, 1) := by decide +kernel
theorem dX1_makeNew_63 : decode cX1_makeNew 63 = .ok (.iconst 0, 1) := by decide +kernel
theorem dX1_makeNew_64 : decode cX1_makeNew 64 = .ok (.putfield 48, 3) := by decide +kernel
theorem dX1_makeNew_67 : decode cX1_makeNew 67 = .ok (.aload_n 0, 1) := by decide +kernel
theorem dX1_makeNew_68 : decode cX1_makeNew 68 = .ok (.iconst 0, 1) := by decide +kernel
theorem dX1_makeNew_69 : decode cX1_makeNew 69 = .ok (.putfield 51, 3) := by decide +kernel
theorem dX1_makeNew_72 : decode cX1_makeNew 72 = .ok (.aload_n 0, 1) := by decide +kernel
theorem dX1_makeNew_73 : decode cX1_makeNew 73 = .ok (.iconst 0, 1) := by decide +kernel
theorem dX1_makeNew_74 : decode cX1_makeNew 74 = .ok (.putfield 54, 3) := by decide +kernel
theorem dX1_makeNew_77 : decode cX1_makeNew 77 = .ok (.aload_n 0, 1) := by decide +kernel
theorem dX1_makeNew_78 : decode cX1_makeNew 78 = .ok (.iconst 0, 1) := by decide +kernel
theorem dX1_makeNew_79 : decode cX1_makeNew 79 = .ok (.putfield 57, 3) := by decide +kernel
theorem dX1_makeNew_82 : decode cX1_makeNew 82 = .ok (.return_, 1) := by decide +kernel
set_option maxRecDepth 20000 in
theorem ggX1_copyFrom_X4_copyFrom : GoodIn wsX1_copyFrom wsX4_copyFrom := goodIn_r _ [17, 18, 19, 20, 21, 22, 23, 24, 25, 26, 27, 40, 41, 42, 43, 44, 45, 46, 47, 48, 49] (by decide +kernel) (by decide +kernel)
set_option maxRecDepth 20000 in
theorem gX1_copyFrom_X4_copyFrom : GoodIn wsX1_copyFrom (wsV RX1 60 RX4 yX4_copyFrom wsX4_copyFrom) := goodIn_app (goodIn_of _ (by decide +kernel)) ggX1_copyFrom_X4_copyFrom
theorem dX1_copyFrom_0 : decode cX1_copyFrom 0 = .ok (.iconst 0, 1) := by decide +kernel
theorem dX1_copyFrom_1 : decode cX1_copyFrom 1 = .ok (.istore_n 2, 1) := by decide +kernel
theorem dX1_copyFrom_2 : decode cX1_copyFrom 2 = .ok (.iload_n 2, 1) := by decide +kernel
theorem dX1_copyFrom_3 : decode cX1_copyFrom 3 = .ok (.aload_n 0, 1) := by decide +kernel
theorem dX1_copyFrom_4 : decode cX1_copyFrom 4 = .ok (.getfield 9, 3) := by decide +kernel
theorem dX1_copyFrom_7 : decode cX1_copyFrom 7 = .ok (.arraylength, 1) := by decide +kernel
theorem dX1_copyFrom_8 : decode cX1_copyFrom 8 = .ok (.if_icmp .ge 30, 3) := by decide +kernel
theorem dX1_copyFrom_11 : decode cX1_copyFrom 11 = .ok (.iload_n 2, 1) := by decide +kernel
theorem dX1_copyFrom_12 : decode cX1_copyFrom 12 = .ok (.aload_n 1, 1) := by decide +kernel
theorem dX1_copyFrom_13 : decode cX1_copyFrom 13 = .ok (.getfield 9, 3) := by decide +kernel
theorem dX1_copyFrom_16 : decode cX1_copyFrom 16 = .ok (.arraylength, 1) := by decide +kernel
theorem dX1_copyFrom_17 : decode cX1_copyFrom 17 = .ok (.if_icmp .ge 21, 3) := by decide +kernel
theorem dX1_copyFrom_20 : decode cX1_copyFrom 20 = .ok (.aload_n 0, 1) := by decide +kernel
theorem dX1_copyFrom_21 : decode cX1_copyFrom 21 = .ok (.getfield 9, 3) := by decide +kernel
theorem dX1_copyFrom_24 : decode cX1_copyFrom 24 = .ok (.iload_n 2, 1) := by decide +kernel
theorem dX1_copyFrom_25 : decode cX1_copyFrom 25 = .ok (.aload_n 1, 1) := by decide +kernel
theorem dX1_copyFrom_26 : decode cX1_copyFrom 26 = .ok (.getfield 9, 3) := by decide +kernel
theorem dX1_copyFrom_29 : decode cX1_copyFrom 29 = .ok (.iload_n 2, 1) := by decide +kernel
theorem dX1_copyFrom_30 : decode cX1_copyFrom 30 = .ok (.iaload, 1) := by decide +kernel
theorem dX1_copyFrom_31 : decode cX1_copyFrom 31 = .ok (.iastore, 1) := by decide +kernel
theorem dX1_copyFrom_32 : decode cX1_copyFrom 32 = .ok (.iinc 2 1, 3) := by decide +kernel
theorem dX1_copyFrom_35 : decode cX1_copyFrom 35 = .ok (.goto (-33), 3) := by decide +kernel
theorem dX1_copyFrom_38 : decode cX1_copyFrom 38 = .ok (.iconst 0, 1) := by decide +kernel
theorem dX1_copyFrom_39 : decode cX1_copyFrom 39 = .ok (.istore_n 2, 1) := by decide +kernel
theorem dX1_copyFrom_40 : decode cX1_copyFrom 40 = .ok (.iload_n 2, 1) := by decide +kernel
theorem dX1_copyFrom_41 : decode cX1_copyFrom 41 = .ok (.aload_n 0, 1) := by decide +kernel
theorem dX1_copyFrom_42 : decode cX1_copyFrom 42 = .ok (.getfield 15, 3) := by decide +kernel
theorem dX1_copyFrom_45 : decode cX1_copyFrom 45 = .ok (.arraylength, 1) := by decide +kernel
theorem dX1_copyFrom_46 : decode cX1_copyFrom 46 = .ok (.if_icmp .ge 30, 3) := by decide +kernel
theorem dX1_copyFrom_49 : decode cX1_copyFrom 49 = .ok (.iload_n 2, 1) := by decide +kernel
theorem dX1_copyFrom_50 : decode cX1_copyFrom 50 = .ok (.aload_n 1, 1) := by decide +kernel
theorem dX1_copyFrom_51 : decode cX1_copyFrom 51 = .ok (.getfield 15, 3) := by decide +kernel
theorem dX1_copyFrom_54 : decode cX1_copyFrom 54 = .ok (.arraylength, 1) := by decide +kernel
theorem dX1_copyFrom_55 : decode cX1_copyFrom 55 = .ok (.if_icmp .ge 21, 3) := by decide +kernel
theorem dX1_copyFrom_58 : decode cX1_copyFrom 58 = .ok (.aload_n 0, 1) := by decide +kernel
theorem dX1_copyFrom_59 : decode cX1_copyFrom 59 = .ok (.getfield 15, 3) := by decide +kernel
theorem dX1_copyFrom_62 : decode cX1_copyFrom 62 = .ok (.iload_n 2, 1) := by decide +kernel
theorem dX1_copyFrom_63 : decode cX1_copyFrom 63 = .ok (.aload_n 1, 1) := by decide +kernel
theorem dX1_copyFrom_64 : decode cX1_copyFrom 64 = .ok (.getfield 15, 3) := by decide +kernel
theorem dX1_copyFrom_67 : decode cX1_copyFrom 67 = .ok (.iload_n 2, 1) := by decide +kernel
theorem dX1_copyFrom_68 : decode cX1_copyFrom 68 = .ok (.iaload, 1) := by decide +kernel
theorem dX1_copyFrom_69 : decode cX1_copyFrom 69 = .ok (.iastore, 1) := by decide +kernel
theorem dX1_copyFrom_70 : decode cX1_copyFrom 70 = .ok (.iinc 2 1, 3) := by decide +kernel
theorem dX1_copyFrom_73 : decode cX1_copyFrom 73 = .ok (.goto (-33), 3) := by decide +kernel
theorem dX1_copyFrom_76 : decode cX1_copyFrom 76 = .ok (.aload_n 0, 1) := by decide +kernel
theorem dX1_copyFrom_77 : decode cX1_copyFrom 77 = .ok (.getfield 21, 3) := by decide +kernel
theorem dX1_copyFrom_80 : decode cX1_copyFrom 80 = .ok (.aload_n 1, 1) := by decide +kernel
theorem dX1_copyFrom_81 : decode cX1_copyFrom 81 = .ok (.getfield 21, 3) := by decide +kernel
theorem dX1_copyFrom_84 : decode cX1_copyFrom 84 = .ok (.invokevirtual 60, 3) := by decide +kernel
theorem dX1_copyFrom_87 : decode cX1_copyFrom 87 = .ok (.aload_n 0, 1) := by decide +kernel
theorem dX1_copyFrom_88 : decode cX1_copyFrom 88 = .ok (.getfield 25, 3) := by decide +kernel
theorem dX1_copyFrom_91 : decode cX1_copyFrom 91 = .ok (.aload_n 1, 1) := by decide +kernel
theorem dX1_copyFrom_92 : decode cX1_copyFrom 92 = .ok (.getfield 25, 3) := by decide +kernel
theorem dX1_copyFrom_95 : decode cX1_copyFrom 95 = .ok (.invokevirtual 60, 3) := by decide +kernel
theorem dX1_copyFrom_98 : decode cX1_copyFrom 98 = .ok (.aload_n 0, 1) := by decide +kernel
theorem dX1_copyFrom_99 : decode cX1_copyFrom 99 = .ok (.aload_n 1, 1) := by decide +kernel
theorem dX1_copyFrom_100 : decode cX1_copyFrom 100 = .ok (.getfield 34, 3) := by decide +kernel
theorem dX1_copyFrom_103 : decode cX1_copyFrom 103 = .ok (.putfield 34, 3) := by decide +kernel
theorem dX1_copyFrom_106 : decode cX1_copyFrom 106 = .ok (.aload_n 0, 1) := by decide +kernel
theorem dX1_copyFrom_107 : decode cX1_copyFrom 107 = .ok (.aload_n 1, 1) := by decide +kernel
theorem dX1_copyFrom_108 : decode cX1_copyFrom 108 = .ok (.getfield 38, 3) := by decide +kernel
theorem dX1_copyFrom_111 : decode cX1_copyFrom 111 = .ok (.putfield 38, 3) := by decide +kernel
theorem dX1_copyFrom_114 : decode cX1_copyFrom 114 = .ok (.aload_n 0, 1) := by decide +kernel
theorem dX1_copyFrom_115 : decode cX1_copyFrom 115 = .ok (.aload_n 1, 1) := by decide +kernel
theorem dX1_copyFrom_116 : decode cX1_copyFrom 116 = .ok (.getfield 41, 3) := by decide +kernel
theorem dX1_copyFrom_119 : decode cX1_copyFrom 119 = .ok (.putfield 41, 3) := by decide +kernel
theorem dX1_copyFrom_122 : decode cX1_copyFrom 122 = .ok (.aload_n 0, 1) := by decide +kernel
theorem dX1_copyFrom_123 : decode cX1_copyFrom 123 = .ok (.aload_n 1, 1) := by decide +kernel
theorem dX1_copyFrom_124 : decode cX1_copyFrom 124 = .ok (.getfield 44, 3) := by decide +kernel
theorem dX1_copyFrom_127 : decode cX1_copyFrom 127 = .ok (.putfield 44, 3) := by decide +kernel
theorem dX1_copyFrom_130 : decode cX1_copyFrom 130 = .ok (.aload_n 0, 1) := by decide +kernel
theorem dX1_copyFrom_131 : decode cX1_copyFrom 131 = .ok (.aload_n 1, 1) := by decide +kernel
theorem dX1_copyFrom_132 : decode cX1_copyFrom 132 = .ok (.getfield 48, 3) := by decide +kernel
theorem dX1_copyFrom_135 : decode cX1_copyFrom 135 = .ok (.putfield 48, 3) := by decide +kernel
theorem dX1_copyFrom_138 : decode cX1_copyFrom 138 = .ok (.aload_n 0, 1) := by decide +kernel
theorem dX1_copyFrom_139 : decode cX1_copyFrom 139 = .ok (.aload_n 1, 1) := by decide +kernel
theorem dX1_copyFrom_140 : decode cX1_copyFrom 140 = .ok (.getfield 51, 3) := by decide +kernel
theorem dX1_copyFrom_143 : decode cX1_copyFrom 143 = .ok (.putfield 51, 3) := by decide +kernel
theorem dX1_copyFrom_146 : decode cX1_copyFrom 146 = .ok (.aload_n 0, 1) := by decide +kernel
theorem dX1_copyFrom_147 : decode cX1_copyFrom 147 = .ok (.aload_n 1, 1) := by decide +kernel
theorem dX1_copyFrom_148 : decode cX1_copyFrom 148 = .ok (.getfield 54, 3) := by decide +kernel
theorem dX1_copyFrom_151 : decode cX1_copyFrom 151 = .ok (.putfield 54, 3) := by decide +kernel
theorem dX1_copyFrom_154 : decode cX1_copyFrom 154 = .ok (.aload_n 0, 1) := by decide +kernel
theorem dX1_copyFrom_155 : decode cX1_copyFrom 155 = .ok (.aload_n 1, 1) := by decide +kernel
theorem dX1_copyFrom_156 : decode cX1_copyFrom 156 = .ok (.getfield 57, 3) := by decide +kernel
theorem dX1_copyFrom_159 : decode cX1_copyFrom 159 = .ok (.putfield 57, 3) := by decide +kernel
theorem dX1_copyFrom_162 : decode cX1_copyFrom 162 = .ok (.return_, 1) := by decide +kernel
theorem dX1_robot_0 : decode cX1_robot 0 = .ok (.iload_n 1, 1) := by decide +kernel
theorem dX1_robot_1 : decode cX1_robot 1 = .ok (.ifCond .ne 10, 3) := by decide +kernel
theorem dX1_robot_4 : decode cX1_robot 4 = .ok (.aload_n 0, 1) := by decide +kernel
theorem dX1_robot_5 : decode cX1_robot 5 = .ok (.getfield 21, 3) := by decide +kernel
theorem dX1_robot_8 : decode cX1_robot 8 = .ok (.goto 7, 3) := by decide +kernel
theorem dX1_robot_11 : decode cX1_robot 11 = .ok (.aload_n 0, 1) := by decide +kernel
theorem dX1_robot_12 : decode cX1_robot 12 = .ok (.getfield 25, 3) := by decide +kernel
theorem dX1_robot_15 : decode cX1_robot 15 = .ok (.areturn, 1) := by decide +kernel
theorem dX1_kindAt_0 : decode cX1_kindAt 0 = .ok (.iload_n 1, 1) := by decide +kernel
theorem dX1_kindAt_1 : decode cX1_kindAt 1 = .ok (.ifCond .lt 21, 3) := by decide +kernel
theorem dX1_kindAt_4 : decode cX1_kindAt 4 = .ok (.iload_n 1, 1) := by decide +kernel
theorem dX1_kindAt_5 : decode cX1_kindAt 5 = .ok (.aload_n 0, 1) := by decide +kernel
theorem dX1_kindAt_6 : decode cX1_kindAt 6 = .ok (.getfield 9, 3) := by decide +kernel
theorem dX1_kindAt_9 : decode cX1_kindAt 9 = .ok (.arraylength, 1) := by decide +kernel
theorem dX1_kindAt_10 : decode cX1_kindAt 10 = .ok (.if_icmp .ge 12, 3) := by decide +kernel
theorem dX1_kindAt_13 : decode cX1_kindAt 13 = .ok (.aload_n 0, 1) := by decide +kernel
theorem dX1_kindAt_14 : decode cX1_kindAt 14 = .ok (.getfield 9, 3) := by decide +kernel
theorem dX1_kindAt_17 : decode cX1_kindAt 17 = .ok (.iload_n 1, 1) := by decide +kernel
theorem dX1_kindAt_18 : decode cX1_kindAt 18 = .ok (.iaload, 1) := by decide +kernel
theorem dX1_kindAt_19 : decode cX1_kindAt 19 = .ok (.goto 4, 3) := by decide +kernel
theorem dX1_kindAt_22 : decode cX1_kindAt 22 = .ok (.iconst 1, 1) := by decide +kernel
theorem dX1_kindAt_23 : decode cX1_kindAt 23 = .ok (.ireturn, 1) := by decide +kernel
set_option maxRecDepth 20000 in
theorem ggX1_crateCount_J13_bitCount_95d88 : GoodIn wsX1_crateCount wsJ13_bitCount_95d88 := goodIn_r _ [5, 6, 7, 8] (by decide +kernel) (by decide +kernel)
set_option maxRecDepth 20000 in
theorem gX1_crateCount_J13_bitCount_95d88 : GoodIn wsX1_crateCount (va_wsS RX1 64 yJ13_bitCount_95d88 wsJ13_bitCount_95d88) := goodIn_app (goodIn_of _ (by decide +kernel)) ggX1_crateCount_J13_bitCount_95d88
theorem dX1_crateCount_0 : decode cX1_crateCount 0 = .ok (.aload_n 0, 1) := by decide +kernel
theorem dX1_crateCount_1 : decode cX1_crateCount 1 = .ok (.getfield 34, 3) := by decide +kernel
theorem dX1_crateCount_4 : decode cX1_crateCount 4 = .ok (.invokestatic 64, 3) := by decide +kernel
theorem dX1_crateCount_7 : decode cX1_crateCount 7 = .ok (.ireturn, 1) := by decide +kernel
set_option maxRecDepth 20000 in
theorem ggX1_things_X2_setOf : GoodIn wsX1_things wsX2_setOf := goodIn_r _ [8] (by decide +kernel) (by decide +kernel)
set_option maxRecDepth 20000 in
theorem gX1_things_X2_setOf : GoodIn wsX1_things (va_wsS RX1 73 yX2_setOf wsX2_setOf) := goodIn_app (goodIn_of _ (by decide +kernel)) ggX1_things_X2_setOf
theorem dX1_things_0 : decode cX1_things 0 = .ok (.aload_n 0, 1) := by decide +kernel
theorem dX1_things_1 : decode cX1_things 1 = .ok (.getfield 34, 3) := by decide +kernel
theorem dX1_things_4 : decode cX1_things 4 = .ok (.aload_n 0, 1) := by decide +kernel
theorem dX1_things_5 : decode cX1_things 5 = .ok (.getfield 21, 3) := by decide +kernel
theorem dX1_things_8 : decode cX1_things 8 = .ok (.getfield 70, 3) := by decide +kernel
theorem dX1_things_11 : decode cX1_things 11 = .ok (.invokestatic 73, 3) := by decide +kernel
theorem dX1_things_14 : decode cX1_things 14 = .ok (.lor, 1) := by decide +kernel
theorem dX1_things_15 : decode cX1_things 15 = .ok (.aload_n 0, 1) := by decide +kernel
theorem dX1_things_16 : decode cX1_things 16 = .ok (.getfield 25, 3) := by decide +kernel
theorem dX1_things_19 : decode cX1_things 19 = .ok (.getfield 70, 3) := by decide +kernel
theorem dX1_things_22 : decode cX1_things 22 = .ok (.invokestatic 73, 3) := by decide +kernel
theorem dX1_things_25 : decode cX1_things 25 = .ok (.lor, 1) := by decide +kernel
theorem dX1_things_26 : decode cX1_things 26 = .ok (.lreturn, 1) := by decide +kernel
theorem dX1_checkpointCell_0 : decode cX1_checkpointCell 0 = .ok (.iload_n 1, 1) := by decide +kernel
theorem dX1_checkpointCell_1 : decode cX1_checkpointCell 1 = .ok (.iconst 1, 1) := by decide +kernel
theorem dX1_checkpointCell_2 : decode cX1_checkpointCell 2 = .ok (.isub, 1) := by decide +kernel
theorem dX1_checkpointCell_3 : decode cX1_checkpointCell 3 = .ok (.istore_n 2, 1) := by decide +kernel
theorem dX1_checkpointCell_4 : decode cX1_checkpointCell 4 = .ok (.iload_n 1, 1) := by decide +kernel
theorem dX1_checkpointCell_5 : decode cX1_checkpointCell 5 = .ok (.iconst 1, 1) := by decide +kernel
theorem dX1_checkpointCell_6 : decode cX1_checkpointCell 6 = .ok (.if_icmp .lt 29, 3) := by decide +kernel
theorem dX1_checkpointCell_9 : decode cX1_checkpointCell 9 = .ok (.iload_n 2, 1) := by decide +kernel
theorem dX1_checkpointCell_10 : decode cX1_checkpointCell 10 = .ok (.aload_n 0, 1) := by decide +kernel
theorem dX1_checkpointCell_11 : decode cX1_checkpointCell 11 = .ok (.getfield 44, 3) := by decide +kernel
theorem dX1_checkpointCell_14 : decode cX1_checkpointCell 14 = .ok (.if_icmp .ge 21, 3) := by decide +kernel
theorem dX1_checkpointCell_17 : decode cX1_checkpointCell 17 = .ok (.iload_n 2, 1) := by decide +kernel
theorem dX1_checkpointCell_18 : decode cX1_checkpointCell 18 = .ok (.aload_n 0, 1) := by decide +kernel
theorem dX1_checkpointCell_19 : decode cX1_checkpointCell 19 = .ok (.getfield 15, 3) := by decide +kernel
theorem dX1_checkpointCell_22 : decode cX1_checkpointCell 22 = .ok (.arraylength, 1) := by decide +kernel
theorem dX1_checkpointCell_23 : decode cX1_checkpointCell 23 = .ok (.if_icmp .ge 12, 3) := by decide +kernel
theorem dX1_checkpointCell_26 : decode cX1_checkpointCell 26 = .ok (.aload_n 0, 1) := by decide +kernel
theorem dX1_checkpointCell_27 : decode cX1_checkpointCell 27 = .ok (.getfield 15, 3) := by decide +kernel
theorem dX1_checkpointCell_30 : decode cX1_checkpointCell 30 = .ok (.iload_n 2, 1) := by decide +kernel
theorem dX1_checkpointCell_31 : decode cX1_checkpointCell 31 = .ok (.iaload, 1) := by decide +kernel
theorem dX1_checkpointCell_32 : decode cX1_checkpointCell 32 = .ok (.goto 4, 3) := by decide +kernel
theorem dX1_checkpointCell_35 : decode cX1_checkpointCell 35 = .ok (.iconst (-1), 1) := by decide +kernel
theorem dX1_checkpointCell_36 : decode cX1_checkpointCell 36 = .ok (.ireturn, 1) := by decide +kernel
set_option maxRecDepth 20000 in
theorem ggX1_isCheckpoint_X1_checkpointCell : GoodIn wsX1_isCheckpoint wsX1_checkpointCell := goodIn_r _ [6, 1, 7, 8, 9, 10, 11, 12, 13, 14, 15, 16, 17, 18, 19] (by decide +kernel) (by decide +kernel)
set_option maxRecDepth 20000 in
theorem gX1_isCheckpoint_X1_checkpointCell : GoodIn wsX1_isCheckpoint (wsV RX1 79 RX1 yX1_checkpointCell wsX1_checkpointCell) := goodIn_app (goodIn_of _ (by decide +kernel)) ggX1_isCheckpoint_X1_checkpointCell
theorem dX1_isCheckpoint_0 : decode cX1_isCheckpoint 0 = .ok (.iconst 1, 1) := by decide +kernel
theorem dX1_isCheckpoint_1 : decode cX1_isCheckpoint 1 = .ok (.istore_n 2, 1) := by decide +kernel
theorem dX1_isCheckpoint_2 : decode cX1_isCheckpoint 2 = .ok (.iload_n 2, 1) := by decide +kernel
theorem dX1_isCheckpoint_3 : decode cX1_isCheckpoint 3 = .ok (.aload_n 0, 1) := by decide +kernel
theorem dX1_isCheckpoint_4 : decode cX1_isCheckpoint 4 = .ok (.getfield 44, 3) := by decide +kernel
theorem dX1_isCheckpoint_7 : decode cX1_isCheckpoint 7 = .ok (.if_icmp .gt 20, 3) := by decide +kernel
theorem dX1_isCheckpoint_10 : decode cX1_isCheckpoint 10 = .ok (.aload_n 0, 1) := by decide +kernel
theorem dX1_isCheckpoint_11 : decode cX1_isCheckpoint 11 = .ok (.iload_n 2, 1) := by decide +kernel
theorem dX1_isCheckpoint_12 : decode cX1_isCheckpoint 12 = .ok (.invokevirtual 79, 3) := by decide +kernel
theorem dX1_isCheckpoint_15 : decode cX1_isCheckpoint 15 = .ok (.iload_n 1, 1) := by decide +kernel
theorem dX1_isCheckpoint_16 : decode cX1_isCheckpoint 16 = .ok (.if_icmp .ne 5, 3) := by decide +kernel
theorem dX1_isCheckpoint_19 : decode cX1_isCheckpoint 19 = .ok (.iconst 1, 1) := by decide +kernel
theorem dX1_isCheckpoint_20 : decode cX1_isCheckpoint 20 = .ok (.ireturn, 1) := by decide +kernel
theorem dX1_isCheckpoint_21 : decode cX1_isCheckpoint 21 = .ok (.iinc 2 1, 3) := by decide +kernel
theorem dX1_isCheckpoint_24 : decode cX1_isCheckpoint 24 = .ok (.goto (-22), 3) := by decide +kernel
theorem dX1_isCheckpoint_27 : decode cX1_isCheckpoint 27 = .ok (.iconst 0, 1) := by decide +kernel
theorem dX1_isCheckpoint_28 : decode cX1_isCheckpoint 28 = .ok (.ireturn, 1) := by decide +kernel
set_option maxRecDepth 20000 in
theorem ggX1_isBlockOrPit_X1_kindAt : GoodIn wsX1_isBlockOrPit wsX1_kindAt := goodIn_r _ [5, 6, 7, 8, 9, 10, 11, 12, 13, 14, 15, 16, 17, 18] (by decide +kernel) (by decide +kernel)
set_option maxRecDepth 20000 in
theorem gX1_isBlockOrPit_X1_kindAt : GoodIn wsX1_isBlockOrPit (wsV RX1 83 RX1 yX1_kindAt wsX1_kindAt) := goodIn_app (goodIn_of _ (by decide +kernel)) ggX1_isBlockOrPit_X1_kindAt
theorem dX1_isBlockOrPit_0 : decode cX1_isBlockOrPit 0 = .ok (.aload_n 0, 1) := by decide +kernel
theorem dX1_isBlockOrPit_1 : decode cX1_isBlockOrPit 1 = .ok (.iload_n 1, 1) := by decide +kernel
theorem dX1_isBlockOrPit_2 : decode cX1_isBlockOrPit 2 = .ok (.invokevirtual 83, 3) := by decide +kernel
theorem dX1_isBlockOrPit_5 : decode cX1_isBlockOrPit 5 = .ok (.iconst 1, 1) := by decide +kernel
theorem dX1_isBlockOrPit_6 : decode cX1_isBlockOrPit 6 = .ok (.if_icmp .eq 12, 3) := by decide +kernel
theorem dX1_isBlockOrPit_9 : decode cX1_isBlockOrPit 9 = .ok (.aload_n 0, 1) := by decide +kernel
theorem dX1_isBlockOrPit_10 : decode cX1_isBlockOrPit 10 = .ok (.iload_n 1, 1) := by decide +kernel
theorem dX1_isBlockOrPit_11 : decode cX1_isBlockOrPit 11 = .ok (.invokevirtual 83, 3) := by decide +kernel
theorem dX1_isBlockOrPit_14 : decode cX1_isBlockOrPit 14 = .ok (.iconst 2, 1) := by decide +kernel
theorem dX1_isBlockOrPit_15 : decode cX1_isBlockOrPit 15 = .ok (.if_icmp .ne 7, 3) := by decide +kernel
theorem dX1_isBlockOrPit_18 : decode cX1_isBlockOrPit 18 = .ok (.iconst 1, 1) := by decide +kernel
theorem dX1_isBlockOrPit_19 : decode cX1_isBlockOrPit 19 = .ok (.goto 4, 3) := by decide +kernel
theorem dX1_isBlockOrPit_22 : decode cX1_isBlockOrPit 22 = .ok (.iconst 0, 1) := by decide +kernel
theorem dX1_isBlockOrPit_23 : decode cX1_isBlockOrPit 23 = .ok (.ireturn, 1) := by decide +kernel
set_option maxRecDepth 20000 in
theorem ggX1_refusesKind_X1_things : GoodIn wsX1_refusesKind wsX1_things := goodIn_r _ [5, 6, 7, 8, 9, 10, 11, 12, 13, 27, 28, 29, 30, 31, 32, 33, 34, 35, 36, 37, 38, 39, 40, 41, 42, 43, 44, 45, 46, 47, 48] (by decide +kernel) (by decide +kernel)
set_option maxRecDepth 20000 in
theorem gX1_refusesKind_X1_things : GoodIn wsX1_refusesKind (wsV RX1 86 RX1 yX1_things wsX1_things) := goodIn_app (goodIn_of _ (by decide +kernel)) ggX1_refusesKind_X1_things
set_option maxRecDepth 20000 in
theorem ggX1_refusesKind_X2_holds : GoodIn wsX1_refusesKind wsX2_holds := goodIn_r _ [16] (by decide +kernel) (by decide +kernel)
set_option maxRecDepth 20000 in
theorem gX1_refusesKind_X2_holds : GoodIn wsX1_refusesKind (va_wsS RX1 90 yX2_holds wsX2_holds) := goodIn_app (goodIn_of _ (by decide +kernel)) ggX1_refusesKind_X2_holds
set_option maxRecDepth 20000 in
theorem ggX1_refusesKind_X1_isCheckpoint : GoodIn wsX1_refusesKind wsX1_isCheckpoint := goodIn_r _ [20, 21, 22, 23, 24, 4, 25, 26, 27, 28, 29, 30, 31, 32, 33, 34, 35, 36, 37, 38] (by decide +kernel) (by decide +kernel)
set_option maxRecDepth 20000 in
theorem gX1_refusesKind_X1_isCheckpoint : GoodIn wsX1_refusesKind (wsV RX1 94 RX1 yX1_isCheckpoint wsX1_isCheckpoint) := goodIn_app (goodIn_of _ (by decide +kernel)) ggX1_refusesKind_X1_isCheckpoint
theorem dX1_refusesKind_0 : decode cX1_refusesKind 0 = .ok (.iload_n 2, 1) := by decide +kernel
theorem dX1_refusesKind_1 : decode cX1_refusesKind 1 = .ok (.iconst 1, 1) := by decide +kernel
theorem dX1_refusesKind_2 : decode cX1_refusesKind 2 = .ok (.if_icmp .eq 8, 3) := by decide +kernel
theorem dX1_refusesKind_5 : decode cX1_refusesKind 5 = .ok (.iload_n 2, 1) := by decide +kernel
theorem dX1_refusesKind_6 : decode cX1_refusesKind 6 = .ok (.iconst 2, 1) := by decide +kernel
theorem dX1_refusesKind_7 : decode cX1_refusesKind 7 = .ok (.if_icmp .ne 26, 3) := by decide +kernel
theorem dX1_refusesKind_10 : decode cX1_refusesKind 10 = .ok (.aload_n 0, 1) := by decide +kernel
theorem dX1_refusesKind_11 : decode cX1_refusesKind 11 = .ok (.invokevirtual 86, 3) := by decide +kernel
theorem dX1_refusesKind_14 : decode cX1_refusesKind 14 = .ok (.iload_n 1, 1) := by decide +kernel
theorem dX1_refusesKind_15 : decode cX1_refusesKind 15 = .ok (.invokestatic 90, 3) := by decide +kernel
theorem dX1_refusesKind_18 : decode cX1_refusesKind 18 = .ok (.ifCond .ne 11, 3) := by decide +kernel
theorem dX1_refusesKind_21 : decode cX1_refusesKind 21 = .ok (.aload_n 0, 1) := by decide +kernel
theorem dX1_refusesKind_22 : decode cX1_refusesKind 22 = .ok (.iload_n 1, 1) := by decide +kernel
theorem dX1_refusesKind_23 : decode cX1_refusesKind 23 = .ok (.invokevirtual 94, 3) := by decide +kernel
theorem dX1_refusesKind_26 : decode cX1_refusesKind 26 = .ok (.ifCond .eq 7, 3) := by decide +kernel
theorem dX1_refusesKind_29 : decode cX1_refusesKind 29 = .ok (.iconst 1, 1) := by decide +kernel
theorem dX1_refusesKind_30 : decode cX1_refusesKind 30 = .ok (.goto 4, 3) := by decide +kernel
theorem dX1_refusesKind_33 : decode cX1_refusesKind 33 = .ok (.iconst 0, 1) := by decide +kernel
theorem dX1_refusesKind_34 : decode cX1_refusesKind 34 = .ok (.ireturn, 1) := by decide +kernel
set_option maxRecDepth 20000 in
theorem ggX1_refusesCrate_X1_isBlockOrPit : GoodIn wsX1_refusesCrate wsX1_isBlockOrPit := goodIn_r _ [5, 6, 7, 8, 4, 9, 10, 37, 38, 39, 40, 41, 42, 43, 44, 45, 46, 47, 48] (by decide +kernel) (by decide +kernel)
set_option maxRecDepth 20000 in
theorem gX1_refusesCrate_X1_isBlockOrPit : GoodIn wsX1_refusesCrate (wsV RX1 98 RX1 yX1_isBlockOrPit wsX1_isBlockOrPit) := goodIn_app (goodIn_of _ (by decide +kernel)) ggX1_refusesCrate_X1_isBlockOrPit
set_option maxRecDepth 20000 in
theorem ggX1_refusesCrate_X1_things : GoodIn wsX1_refusesCrate wsX1_things := goodIn_r _ [14, 15, 16, 17, 18, 19, 20, 21, 22, 37, 38, 39, 40, 41, 42, 43, 44, 45, 46, 47, 48, 49, 50, 51, 52, 53, 54, 55, 56, 57, 58] (by decide +kernel) (by decide +kernel)
set_option maxRecDepth 20000 in
theorem gX1_refusesCrate_X1_things : GoodIn wsX1_refusesCrate (wsV RX1 86 RX1 yX1_things wsX1_things) := goodIn_app (goodIn_of _ (by decide +kernel)) ggX1_refusesCrate_X1_things
set_option maxRecDepth 20000 in
theorem ggX1_refusesCrate_X2_holds : GoodIn wsX1_refusesCrate wsX2_holds := goodIn_r _ [25] (by decide +kernel) (by decide +kernel)
set_option maxRecDepth 20000 in
theorem gX1_refusesCrate_X2_holds : GoodIn wsX1_refusesCrate (va_wsS RX1 90 yX2_holds wsX2_holds) := goodIn_app (goodIn_of _ (by decide +kernel)) ggX1_refusesCrate_X2_holds
set_option maxRecDepth 20000 in
theorem ggX1_refusesCrate_X1_crateCount : GoodIn wsX1_refusesCrate wsX1_crateCount := goodIn_r _ [29, 15, 30, 31, 32, 33, 34, 35, 36, 37, 38, 39, 40, 41, 42, 43, 44, 45, 46, 47, 48] (by decide +kernel) (by decide +kernel)
set_option maxRecDepth 20000 in
theorem gX1_refusesCrate_X1_crateCount : GoodIn wsX1_refusesCrate (wsV RX1 101 RX1 yX1_crateCount wsX1_crateCount) := goodIn_app (goodIn_of _ (by decide +kernel)) ggX1_refusesCrate_X1_crateCount
theorem dX1_refusesCrate_0 : decode cX1_refusesCrate 0 = .ok (.aload_n 0, 1) := by decide +kernel
theorem dX1_refusesCrate_1 : decode cX1_refusesCrate 1 = .ok (.iload_n 1, 1) := by decide +kernel
theorem dX1_refusesCrate_2 : decode cX1_refusesCrate 2 = .ok (.invokevirtual 98, 3) := by decide +kernel
theorem dX1_refusesCrate_5 : decode cX1_refusesCrate 5 = .ok (.ifCond .ne 23, 3) := by decide +kernel
theorem dX1_refusesCrate_8 : decode cX1_refusesCrate 8 = .ok (.aload_n 0, 1) := by decide +kernel
theorem dX1_refusesCrate_9 : decode cX1_refusesCrate 9 = .ok (.invokevirtual 86, 3) := by decide +kernel
theorem dX1_refusesCrate_12 : decode cX1_refusesCrate 12 = .ok (.iload_n 1, 1) := by decide +kernel
theorem dX1_refusesCrate_13 : decode cX1_refusesCrate 13 = .ok (.invokestatic 90, 3) := by decide +kernel
theorem dX1_refusesCrate_16 : decode cX1_refusesCrate 16 = .ok (.ifCond .ne 12, 3) := by decide +kernel
theorem dX1_refusesCrate_19 : decode cX1_refusesCrate 19 = .ok (.aload_n 0, 1) := by decide +kernel
theorem dX1_refusesCrate_20 : decode cX1_refusesCrate 20 = .ok (.invokevirtual 101, 3) := by decide +kernel
theorem dX1_refusesCrate_23 : decode cX1_refusesCrate 23 = .ok (.bipush 8, 2) := by decide +kernel
theorem dX1_refusesCrate_25 : decode cX1_refusesCrate 25 = .ok (.if_icmp .lt 7, 3) := by decide +kernel
theorem dX1_refusesCrate_28 : decode cX1_refusesCrate 28 = .ok (.iconst 1, 1) := by decide +kernel
theorem dX1_refusesCrate_29 : decode cX1_refusesCrate 29 = .ok (.goto 4, 3) := by decide +kernel
theorem dX1_refusesCrate_32 : decode cX1_refusesCrate 32 = .ok (.iconst 0, 1) := by decide +kernel
theorem dX1_refusesCrate_33 : decode cX1_refusesCrate 33 = .ok (.ireturn, 1) := by decide +kernel
set_option maxRecDepth 20000 in
theorem ggX1_refusesCheckpoint_X1_isBlockOrPit : GoodIn wsX1_refusesCheckpoint wsX1_isBlockOrPit := goodIn_r _ [7, 8, 9, 10, 6, 11, 12, 21, 22, 23, 24, 25, 26, 27, 28, 29, 30, 31, 32] (by decide +kernel) (by decide +kernel)
set_option maxRecDepth 20000 in
theorem gX1_refusesCheckpoint_X1_isBlockOrPit : GoodIn wsX1_refusesCheckpoint (wsV RX1 98 RX1 yX1_isBlockOrPit wsX1_isBlockOrPit) := goodIn_app (goodIn_of _ (by decide +kernel)) ggX1_refusesCheckpoint_X1_isBlockOrPit
set_option maxRecDepth 20000 in
theorem ggX1_refusesCheckpoint_X1_isCheckpoint : GoodIn wsX1_refusesCheckpoint wsX1_isCheckpoint := goodIn_r _ [16, 1, 17, 18, 19, 6, 20, 2, 21, 22, 23, 24, 25, 26, 27, 28, 29, 30, 31, 32] (by decide +kernel) (by decide +kernel)
set_option maxRecDepth 20000 in
theorem gX1_refusesCheckpoint_X1_isCheckpoint : GoodIn wsX1_refusesCheckpoint (wsV RX1 94 RX1 yX1_isCheckpoint wsX1_isCheckpoint) := goodIn_app (goodIn_of _ (by decide +kernel)) ggX1_refusesCheckpoint_X1_isCheckpoint
theorem dX1_refusesCheckpoint_0 : decode cX1_refusesCheckpoint 0 = .ok (.aload_n 0, 1) := by decide +kernel
theorem dX1_refusesCheckpoint_1 : decode cX1_refusesCheckpoint 1 = .ok (.iload_n 1, 1) := by decide +kernel
theorem dX1_refusesCheckpoint_2 : decode cX1_refusesCheckpoint 2 = .ok (.invokevirtual 98, 3) := by decide +kernel
theorem dX1_refusesCheckpoint_5 : decode cX1_refusesCheckpoint 5 = .ok (.ifCond .ne 23, 3) := by decide +kernel
theorem dX1_refusesCheckpoint_8 : decode cX1_refusesCheckpoint 8 = .ok (.aload_n 0, 1) := by decide +kernel
theorem dX1_refusesCheckpoint_9 : decode cX1_refusesCheckpoint 9 = .ok (.iload_n 1, 1) := by decide +kernel
theorem dX1_refusesCheckpoint_10 : decode cX1_refusesCheckpoint 10 = .ok (.invokevirtual 94, 3) := by decide +kernel
theorem dX1_refusesCheckpoint_13 : decode cX1_refusesCheckpoint 13 = .ok (.ifCond .ne 15, 3) := by decide +kernel
theorem dX1_refusesCheckpoint_16 : decode cX1_refusesCheckpoint 16 = .ok (.aload_n 0, 1) := by decide +kernel
theorem dX1_refusesCheckpoint_17 : decode cX1_refusesCheckpoint 17 = .ok (.getfield 44, 3) := by decide +kernel
theorem dX1_refusesCheckpoint_20 : decode cX1_refusesCheckpoint 20 = .ok (.aload_n 0, 1) := by decide +kernel
theorem dX1_refusesCheckpoint_21 : decode cX1_refusesCheckpoint 21 = .ok (.getfield 15, 3) := by decide +kernel
theorem dX1_refusesCheckpoint_24 : decode cX1_refusesCheckpoint 24 = .ok (.arraylength, 1) := by decide +kernel
theorem dX1_refusesCheckpoint_25 : decode cX1_refusesCheckpoint 25 = .ok (.if_icmp .lt 7, 3) := by decide +kernel
theorem dX1_refusesCheckpoint_28 : decode cX1_refusesCheckpoint 28 = .ok (.iconst 1, 1) := by decide +kernel
theorem dX1_refusesCheckpoint_29 : decode cX1_refusesCheckpoint 29 = .ok (.goto 4, 3) := by decide +kernel
theorem dX1_refusesCheckpoint_32 : decode cX1_refusesCheckpoint 32 = .ok (.iconst 0, 1) := by decide +kernel
theorem dX1_refusesCheckpoint_33 : decode cX1_refusesCheckpoint 33 = .ok (.ireturn, 1) := by decide +kernel
set_option maxRecDepth 20000 in
theorem ggX1_refusesRobot_X1_isBlockOrPit : GoodIn wsX1_refusesRobot wsX1_isBlockOrPit := goodIn_r _ [7, 8, 9, 10, 6, 11, 12, 23, 24, 25, 26, 27, 28, 29, 30, 31, 32, 33, 34] (by decide +kernel) (by decide +kernel)
set_option maxRecDepth 20000 in
theorem gX1_refusesRobot_X1_isBlockOrPit : GoodIn wsX1_refusesRobot (wsV RX1 98 RX1 yX1_isBlockOrPit wsX1_isBlockOrPit) := goodIn_app (goodIn_of _ (by decide +kernel)) ggX1_refusesRobot_X1_isBlockOrPit
set_option maxRecDepth 20000 in
theorem ggX1_refusesRobot_X2_holds : GoodIn wsX1_refusesRobot wsX2_holds := goodIn_r _ [16] (by decide +kernel) (by decide +kernel)
set_option maxRecDepth 20000 in
theorem gX1_refusesRobot_X2_holds : GoodIn wsX1_refusesRobot (va_wsS RX1 90 yX2_holds wsX2_holds) := goodIn_app (goodIn_of _ (by decide +kernel)) ggX1_refusesRobot_X2_holds
set_option maxRecDepth 20000 in
theorem ggX1_refusesRobot_X1_robot : GoodIn wsX1_refusesRobot wsX1_robot := goodIn_r _ [20, 21, 22, 23, 24, 25, 26, 27, 28, 29, 30, 31, 32, 33, 34] (by decide +kernel) (by decide +kernel)
set_option maxRecDepth 20000 in
theorem gX1_refusesRobot_X1_robot : GoodIn wsX1_refusesRobot (wsV RX1 105 RX1 yX1_robot wsX1_robot) := goodIn_app (goodIn_of _ (by decide +kernel)) ggX1_refusesRobot_X1_robot
theorem dX1_refusesRobot_0 : decode cX1_refusesRobot 0 = .ok (.aload_n 0, 1) := by decide +kernel
theorem dX1_refusesRobot_1 : decode cX1_refusesRobot 1 = .ok (.iload_n 2, 1) := by decide +kernel
theorem dX1_refusesRobot_2 : decode cX1_refusesRobot 2 = .ok (.invokevirtual 98, 3) := by decide +kernel
theorem dX1_refusesRobot_5 : decode cX1_refusesRobot 5 = .ok (.ifCond .ne 28, 3) := by decide +kernel
theorem dX1_refusesRobot_8 : decode cX1_refusesRobot 8 = .ok (.aload_n 0, 1) := by decide +kernel
theorem dX1_refusesRobot_9 : decode cX1_refusesRobot 9 = .ok (.getfield 34, 3) := by decide +kernel
theorem dX1_refusesRobot_12 : decode cX1_refusesRobot 12 = .ok (.iload_n 2, 1) := by decide +kernel
theorem dX1_refusesRobot_13 : decode cX1_refusesRobot 13 = .ok (.invokestatic 90, 3) := by decide +kernel
theorem dX1_refusesRobot_16 : decode cX1_refusesRobot 16 = .ok (.ifCond .ne 17, 3) := by decide +kernel
theorem dX1_refusesRobot_19 : decode cX1_refusesRobot 19 = .ok (.aload_n 0, 1) := by decide +kernel
theorem dX1_refusesRobot_20 : decode cX1_refusesRobot 20 = .ok (.iconst 1, 1) := by decide +kernel
theorem dX1_refusesRobot_21 : decode cX1_refusesRobot 21 = .ok (.iload_n 1, 1) := by decide +kernel
theorem dX1_refusesRobot_22 : decode cX1_refusesRobot 22 = .ok (.isub, 1) := by decide +kernel
theorem dX1_refusesRobot_23 : decode cX1_refusesRobot 23 = .ok (.invokevirtual 105, 3) := by decide +kernel
theorem dX1_refusesRobot_26 : decode cX1_refusesRobot 26 = .ok (.getfield 70, 3) := by decide +kernel
theorem dX1_refusesRobot_29 : decode cX1_refusesRobot 29 = .ok (.iload_n 2, 1) := by decide +kernel
theorem dX1_refusesRobot_30 : decode cX1_refusesRobot 30 = .ok (.if_icmp .ne 7, 3) := by decide +kernel
theorem dX1_refusesRobot_33 : decode cX1_refusesRobot 33 = .ok (.iconst 1, 1) := by decide +kernel
theorem dX1_refusesRobot_34 : decode cX1_refusesRobot 34 = .ok (.goto 4, 3) := by decide +kernel
theorem dX1_refusesRobot_37 : decode cX1_refusesRobot 37 = .ok (.iconst 0, 1) := by decide +kernel
theorem dX1_refusesRobot_38 : decode cX1_refusesRobot 38 = .ok (.ireturn, 1) := by decide +kernel
set_option maxRecDepth 20000 in
theorem ggX1_giveKind_X1_refusesKind : GoodIn wsX1_giveKind wsX1_refusesKind := goodIn_r _ [8, 9, 10, 11, 7, 12, 13, 14, 15, 16, 17, 18, 19, 20, 21, 22, 23, 24, 25, 26, 27, 28, 29, 30, 31, 32, 33, 38, 39, 40, 41, 42, 43, 44, 45, 46, 47, 48, 49, 50, 51, 52, 53, 54, 55, 56, 57, 58, 59] (by decide +kernel) (by decide +kernel)
set_option maxRecDepth 20000 in
theorem gX1_giveKind_X1_refusesKind : GoodIn wsX1_giveKind (wsV RX1 109 RX1 yX1_refusesKind wsX1_refusesKind) := goodIn_app (goodIn_of _ (by decide +kernel)) ggX1_giveKind_X1_refusesKind
set_option maxRecDepth 20000 in
theorem ggX1_giveKind_X1_with : GoodIn wsX1_giveKind wsX1_with := goodIn_r _ [36, 37, 17, 18, 19, 20] (by decide +kernel) (by decide +kernel)
set_option maxRecDepth 20000 in
theorem gX1_giveKind_X1_with : GoodIn wsX1_giveKind (va_wsS RX1 113 yX1_with wsX1_with) := goodIn_app (goodIn_of _ (by decide +kernel)) ggX1_giveKind_X1_with
theorem dX1_giveKind_0 : decode cX1_giveKind 0 = .ok (.aload_n 0, 1) := by decide +kernel
theorem dX1_giveKind_1 : decode cX1_giveKind 1 = .ok (.iload_n 1, 1) := by decide +kernel
theorem dX1_giveKind_2 : decode cX1_giveKind 2 = .ok (.iload_n 2, 1) := by decide +kernel
theorem dX1_giveKind_3 : decode cX1_giveKind 3 = .ok (.invokevirtual 109, 3) := by decide +kernel
theorem dX1_giveKind_6 : decode cX1_giveKind 6 = .ok (.ifCond .ne 16, 3) := by decide +kernel
theorem dX1_giveKind_9 : decode cX1_giveKind 9 = .ok (.iload_n 1, 1) := by decide +kernel
theorem dX1_giveKind_10 : decode cX1_giveKind 10 = .ok (.ifCond .lt 12, 3) := by decide +kernel
theorem dX1_giveKind_13 : decode cX1_giveKind 13 = .ok (.iload_n 1, 1) := by decide +kernel
theorem dX1_giveKind_14 : decode cX1_giveKind 14 = .ok (.aload_n 0, 1) := by decide +kernel
theorem dX1_giveKind_15 : decode cX1_giveKind 15 = .ok (.getfield 9, 3) := by decide +kernel
theorem dX1_giveKind_18 : decode cX1_giveKind 18 = .ok (.arraylength, 1) := by decide +kernel
theorem dX1_giveKind_19 : decode cX1_giveKind 19 = .ok (.if_icmp .lt 5, 3) := by decide +kernel
theorem dX1_giveKind_22 : decode cX1_giveKind 22 = .ok (.iconst 0, 1) := by decide +kernel
theorem dX1_giveKind_23 : decode cX1_giveKind 23 = .ok (.ireturn, 1) := by decide +kernel
theorem dX1_giveKind_24 : decode cX1_giveKind 24 = .ok (.aload_n 0, 1) := by decide +kernel
theorem dX1_giveKind_25 : decode cX1_giveKind 25 = .ok (.getfield 9, 3) := by decide +kernel
theorem dX1_giveKind_28 : decode cX1_giveKind 28 = .ok (.iload_n 1, 1) := by decide +kernel
theorem dX1_giveKind_29 : decode cX1_giveKind 29 = .ok (.iload_n 2, 1) := by decide +kernel
theorem dX1_giveKind_30 : decode cX1_giveKind 30 = .ok (.iastore, 1) := by decide +kernel
theorem dX1_giveKind_31 : decode cX1_giveKind 31 = .ok (.aload_n 0, 1) := by decide +kernel
theorem dX1_giveKind_32 : decode cX1_giveKind 32 = .ok (.aload_n 0, 1) := by decide +kernel
theorem dX1_giveKind_33 : decode cX1_giveKind 33 = .ok (.getfield 38, 3) := by decide +kernel
theorem dX1_giveKind_36 : decode cX1_giveKind 36 = .ok (.iload_n 1, 1) := by decide +kernel
theorem dX1_giveKind_37 : decode cX1_giveKind 37 = .ok (.iload_n 2, 1) := by decide +kernel
theorem dX1_giveKind_38 : decode cX1_giveKind 38 = .ok (.iconst 3, 1) := by decide +kernel
theorem dX1_giveKind_39 : decode cX1_giveKind 39 = .ok (.if_icmp .lt 7, 3) := by decide +kernel
theorem dX1_giveKind_42 : decode cX1_giveKind 42 = .ok (.iconst 1, 1) := by decide +kernel
theorem dX1_giveKind_43 : decode cX1_giveKind 43 = .ok (.goto 4, 3) := by decide +kernel
theorem dX1_giveKind_46 : decode cX1_giveKind 46 = .ok (.iconst 0, 1) := by decide +kernel
theorem dX1_giveKind_47 : decode cX1_giveKind 47 = .ok (.invokestatic 113, 3) := by decide +kernel
theorem dX1_giveKind_50 : decode cX1_giveKind 50 = .ok (.putfield 38, 3) := by decide +kernel
theorem dX1_giveKind_53 : decode cX1_giveKind 53 = .ok (.aload_n 0, 1) := by decide +kernel
theorem dX1_giveKind_54 : decode cX1_giveKind 54 = .ok (.aload_n 0, 1) := by decide +kernel
theorem dX1_giveKind_55 : decode cX1_giveKind 55 = .ok (.getfield 41, 3) := by decide +kernel
theorem dX1_giveKind_58 : decode cX1_giveKind 58 = .ok (.iload_n 1, 1) := by decide +kernel
theorem dX1_giveKind_59 : decode cX1_giveKind 59 = .ok (.iload_n 2, 1) := by decide +kernel
theorem dX1_giveKind_60 : decode cX1_giveKind 60 = .ok (.iconst 2, 1) := by decide +kernel
theorem dX1_giveKind_61 : decode cX1_giveKind 61 = .ok (.if_icmp .ne 7, 3) := by decide +kernel
theorem dX1_giveKind_64 : decode cX1_giveKind 64 = .ok (.iconst 1, 1) := by decide +kernel
theorem dX1_giveKind_65 : decode cX1_giveKind 65 = .ok (.goto 4, 3) := by decide +kernel
theorem dX1_giveKind_68 : decode cX1_giveKind 68 = .ok (.iconst 0, 1) := by decide +kernel
theorem dX1_giveKind_69 : decode cX1_giveKind 69 = .ok (.invokestatic 113, 3) := by decide +kernel
theorem dX1_giveKind_72 : decode cX1_giveKind 72 = .ok (.putfield 41, 3) := by decide +kernel
theorem dX1_giveKind_75 : decode cX1_giveKind 75 = .ok (.iconst 1, 1) := by decide +kernel
theorem dX1_giveKind_76 : decode cX1_giveKind 76 = .ok (.ireturn, 1) := by decide +kernel
set_option maxRecDepth 20000 in
theorem ggX1_with_X2_setOf : GoodIn wsX1_with wsX2_setOf := goodIn_r _ [5] (by decide +kernel) (by decide +kernel)
set_option maxRecDepth 20000 in
theorem gX1_with_X2_setOf : GoodIn wsX1_with (va_wsS RX1 73 yX2_setOf wsX2_setOf) := goodIn_app (goodIn_of _ (by decide +kernel)) ggX1_with_X2_setOf
theorem dX1_with_0 : decode cX1_with 0 = .ok (.iload_n 3, 1) := by decide +kernel
theorem dX1_with_1 : decode cX1_with 1 = .ok (.ifCond .eq 12, 3) := by decide +kernel
theorem dX1_with_4 : decode cX1_with 4 = .ok (.lload_n 0, 1) := by decide +kernel
theorem dX1_with_5 : decode cX1_with 5 = .ok (.iload_n 2, 1) := by decide +kernel
theorem dX1_with_6 : decode cX1_with 6 = .ok (.invokestatic 73, 3) := by decide +kernel
theorem dX1_with_9 : decode cX1_with 9 = .ok (.lor, 1) := by decide +kernel
theorem dX1_with_10 : decode cX1_with 10 = .ok (.goto 13, 3) := by decide +kernel
theorem dX1_with_13 : decode cX1_with 13 = .ok (.lload_n 0, 1) := by decide +kernel
theorem dX1_with_14 : decode cX1_with 14 = .ok (.iload_n 2, 1) := by decide +kernel
theorem dX1_with_15 : decode cX1_with 15 = .ok (.invokestatic 73, 3) := by decide +kernel
theorem dX1_with_18 : decode cX1_with 18 = .ok (.ldc2_w 117, 3) := by decide +kernel
theorem dX1_with_21 : decode cX1_with 21 = .ok (.lxor, 1) := by decide +kernel
theorem dX1_with_22 : decode cX1_with 22 = .ok (.land, 1) := by decide +kernel
theorem dX1_with_23 : decode cX1_with 23 = .ok (.lreturn, 1) := by decide +kernel
set_option maxRecDepth 20000 in
theorem ggX1_layCrate_X1_refusesCrate : GoodIn wsX1_layCrate wsX1_refusesCrate := goodIn_r _ [7, 8, 9, 10, 6, 11, 12, 13, 14, 15, 16, 17, 18, 19, 20, 1, 21, 22, 23, 24, 25, 26, 27, 28, 29, 30, 31, 32, 33, 34, 35, 36, 37, 38, 39, 40, 41, 42, 43, 44, 45, 46, 47, 48, 49, 50, 51, 52, 53, 54, 55, 56, 57, 58, 59, 60, 61, 62, 63] (by decide +kernel) (by decide +kernel)
set_option maxRecDepth 20000 in
theorem gX1_layCrate_X1_refusesCrate : GoodIn wsX1_layCrate (wsV RX1 119 RX1 yX1_refusesCrate wsX1_refusesCrate) := goodIn_app (goodIn_of _ (by decide +kernel)) ggX1_layCrate_X1_refusesCrate
set_option maxRecDepth 20000 in
theorem ggX1_layCrate_X2_setOf : GoodIn wsX1_layCrate wsX2_setOf := goodIn_r _ [27] (by decide +kernel) (by decide +kernel)
set_option maxRecDepth 20000 in
theorem gX1_layCrate_X2_setOf : GoodIn wsX1_layCrate (va_wsS RX1 73 yX2_setOf wsX2_setOf) := goodIn_app (goodIn_of _ (by decide +kernel)) ggX1_layCrate_X2_setOf
theorem dX1_layCrate_0 : decode cX1_layCrate 0 = .ok (.aload_n 0, 1) := by decide +kernel
theorem dX1_layCrate_1 : decode cX1_layCrate 1 = .ok (.iload_n 1, 1) := by decide +kernel
theorem dX1_layCrate_2 : decode cX1_layCrate 2 = .ok (.invokevirtual 119, 3) := by decide +kernel
theorem dX1_layCrate_5 : decode cX1_layCrate 5 = .ok (.ifCond .eq 5, 3) := by decide +kernel
theorem dX1_layCrate_8 : decode cX1_layCrate 8 = .ok (.iconst 0, 1) := by decide +kernel
theorem dX1_layCrate_9 : decode cX1_layCrate 9 = .ok (.ireturn, 1) := by decide +kernel
theorem dX1_layCrate_10 : decode cX1_layCrate 10 = .ok (.aload_n 0, 1) := by decide +kernel
theorem dX1_layCrate_11 : decode cX1_layCrate 11 = .ok (.dup, 1) := by decide +kernel
theorem dX1_layCrate_12 : decode cX1_layCrate 12 = .ok (.getfield 34, 3) := by decide +kernel
theorem dX1_layCrate_15 : decode cX1_layCrate 15 = .ok (.iload_n 1, 1) := by decide +kernel
theorem dX1_layCrate_16 : decode cX1_layCrate 16 = .ok (.invokestatic 73, 3) := by decide +kernel
theorem dX1_layCrate_19 : decode cX1_layCrate 19 = .ok (.lor, 1) := by decide +kernel
theorem dX1_layCrate_20 : decode cX1_layCrate 20 = .ok (.putfield 34, 3) := by decide +kernel
theorem dX1_layCrate_23 : decode cX1_layCrate 23 = .ok (.aload_n 0, 1) := by decide +kernel
theorem dX1_layCrate_24 : decode cX1_layCrate 24 = .ok (.dup, 1) := by decide +kernel
theorem dX1_layCrate_25 : decode cX1_layCrate 25 = .ok (.getfield 48, 3) := by decide +kernel
theorem dX1_layCrate_28 : decode cX1_layCrate 28 = .ok (.iconst 1, 1) := by decide +kernel
theorem dX1_layCrate_29 : decode cX1_layCrate 29 = .ok (.iadd, 1) := by decide +kernel
theorem dX1_layCrate_30 : decode cX1_layCrate 30 = .ok (.putfield 48, 3) := by decide +kernel
theorem dX1_layCrate_33 : decode cX1_layCrate 33 = .ok (.iconst 1, 1) := by decide +kernel
theorem dX1_layCrate_34 : decode cX1_layCrate 34 = .ok (.ireturn, 1) := by decide +kernel
set_option maxRecDepth 20000 in
theorem ggX1_markCheckpoint_X1_refusesCheckpoint : GoodIn wsX1_markCheckpoint wsX1_refusesCheckpoint := goodIn_r _ [7, 1, 2, 8, 9, 10, 6, 11, 12, 13, 14, 15, 16, 17, 18, 19, 20, 21, 22, 23, 24, 25, 26, 27, 28, 29, 30, 31, 32, 33, 34, 35, 36] (by decide +kernel) (by decide +kernel)
set_option maxRecDepth 20000 in
theorem gX1_markCheckpoint_X1_refusesCheckpoint : GoodIn wsX1_markCheckpoint (wsV RX1 122 RX1 yX1_refusesCheckpoint wsX1_refusesCheckpoint) := goodIn_app (goodIn_of _ (by decide +kernel)) ggX1_markCheckpoint_X1_refusesCheckpoint
theorem dX1_markCheckpoint_0 : decode cX1_markCheckpoint 0 = .ok (.aload_n 0, 1) := by decide +kernel
theorem dX1_markCheckpoint_1 : decode cX1_markCheckpoint 1 = .ok (.iload_n 1, 1) := by decide +kernel
theorem dX1_markCheckpoint_2 : decode cX1_markCheckpoint 2 = .ok (.invokevirtual 122, 3) := by decide +kernel
theorem dX1_markCheckpoint_5 : decode cX1_markCheckpoint 5 = .ok (.ifCond .ne 22, 3) := by decide +kernel
theorem dX1_markCheckpoint_8 : decode cX1_markCheckpoint 8 = .ok (.aload_n 0, 1) := by decide +kernel
theorem dX1_markCheckpoint_9 : decode cX1_markCheckpoint 9 = .ok (.getfield 44, 3) := by decide +kernel
theorem dX1_markCheckpoint_12 : decode cX1_markCheckpoint 12 = .ok (.ifCond .lt 15, 3) := by decide +kernel
theorem dX1_markCheckpoint_15 : decode cX1_markCheckpoint 15 = .ok (.aload_n 0, 1) := by decide +kernel
theorem dX1_markCheckpoint_16 : decode cX1_markCheckpoint 16 = .ok (.getfield 44, 3) := by decide +kernel
theorem dX1_markCheckpoint_19 : decode cX1_markCheckpoint 19 = .ok (.aload_n 0, 1) := by decide +kernel
theorem dX1_markCheckpoint_20 : decode cX1_markCheckpoint 20 = .ok (.getfield 15, 3) := by decide +kernel
theorem dX1_markCheckpoint_23 : decode cX1_markCheckpoint 23 = .ok (.arraylength, 1) := by decide +kernel
theorem dX1_markCheckpoint_24 : decode cX1_markCheckpoint 24 = .ok (.if_icmp .lt 5, 3) := by decide +kernel
theorem dX1_markCheckpoint_27 : decode cX1_markCheckpoint 27 = .ok (.iconst 0, 1) := by decide +kernel
theorem dX1_markCheckpoint_28 : decode cX1_markCheckpoint 28 = .ok (.ireturn, 1) := by decide +kernel
theorem dX1_markCheckpoint_29 : decode cX1_markCheckpoint 29 = .ok (.aload_n 0, 1) := by decide +kernel
theorem dX1_markCheckpoint_30 : decode cX1_markCheckpoint 30 = .ok (.getfield 15, 3) := by decide +kernel
theorem dX1_markCheckpoint_33 : decode cX1_markCheckpoint 33 = .ok (.aload_n 0, 1) := by decide +kernel
theorem dX1_markCheckpoint_34 : decode cX1_markCheckpoint 34 = .ok (.getfield 44, 3) := by decide +kernel
theorem dX1_markCheckpoint_37 : decode cX1_markCheckpoint 37 = .ok (.iload_n 1, 1) := by decide +kernel
theorem dX1_markCheckpoint_38 : decode cX1_markCheckpoint 38 = .ok (.iastore, 1) := by decide +kernel
theorem dX1_markCheckpoint_39 : decode cX1_markCheckpoint 39 = .ok (.aload_n 0, 1) := by decide +kernel
theorem dX1_markCheckpoint_40 : decode cX1_markCheckpoint 40 = .ok (.dup, 1) := by decide +kernel
theorem dX1_markCheckpoint_41 : decode cX1_markCheckpoint 41 = .ok (.getfield 44, 3) := by decide +kernel
theorem dX1_markCheckpoint_44 : decode cX1_markCheckpoint 44 = .ok (.iconst 1, 1) := by decide +kernel
theorem dX1_markCheckpoint_45 : decode cX1_markCheckpoint 45 = .ok (.iadd, 1) := by decide +kernel
theorem dX1_markCheckpoint_46 : decode cX1_markCheckpoint 46 = .ok (.putfield 44, 3) := by decide +kernel
theorem dX1_markCheckpoint_49 : decode cX1_markCheckpoint 49 = .ok (.iconst 1, 1) := by decide +kernel
theorem dX1_markCheckpoint_50 : decode cX1_markCheckpoint 50 = .ok (.ireturn, 1) := by decide +kernel
set_option maxRecDepth 20000 in
theorem ggX1_placeRobot_X1_refusesRobot : GoodIn wsX1_placeRobot wsX1_refusesRobot := goodIn_r _ [7, 8, 1, 9, 10, 11, 6, 12, 13, 14, 15, 16, 17, 18, 19, 20, 21, 22, 23, 24, 25, 26, 27, 38, 39, 40, 41, 42, 43, 44, 45, 46, 47, 48, 49, 28, 29, 30, 31, 32, 33, 34, 35, 36, 37] (by decide +kernel) (by decide +kernel)
set_option maxRecDepth 20000 in
theorem gX1_placeRobot_X1_refusesRobot : GoodIn wsX1_placeRobot (wsV RX1 125 RX1 yX1_refusesRobot wsX1_refusesRobot) := goodIn_app (goodIn_of _ (by decide +kernel)) ggX1_placeRobot_X1_refusesRobot
set_option maxRecDepth 20000 in
theorem ggX1_placeRobot_X1_robot : GoodIn wsX1_placeRobot wsX1_robot := goodIn_r _ [25, 26, 27, 38, 39, 40, 41, 42, 43, 44, 45, 46, 47, 48, 49] (by decide +kernel) (by decide +kernel)
set_option maxRecDepth 20000 in
theorem gX1_placeRobot_X1_robot : GoodIn wsX1_placeRobot (wsV RX1 105 RX1 yX1_robot wsX1_robot) := goodIn_app (goodIn_of _ (by decide +kernel)) ggX1_placeRobot_X1_robot
theorem dX1_placeRobot_0 : decode cX1_placeRobot 0 = .ok (.aload_n 0, 1) := by decide +kernel
theorem dX1_placeRobot_1 : decode cX1_placeRobot 1 = .ok (.iload_n 1, 1) := by decide +kernel
theorem dX1_placeRobot_2 : decode cX1_placeRobot 2 = .ok (.iload_n 2, 1) := by decide +kernel
theorem dX1_placeRobot_3 : decode cX1_placeRobot 3 = .ok (.invokevirtual 125, 3) := by decide +kernel
theorem dX1_placeRobot_6 : decode cX1_placeRobot 6 = .ok (.ifCond .eq 5, 3) := by decide +kernel
theorem dX1_placeRobot_9 : decode cX1_placeRobot 9 = .ok (.iconst 0, 1) := by decide +kernel
theorem dX1_placeRobot_10 : decode cX1_placeRobot 10 = .ok (.ireturn, 1) := by decide +kernel
theorem dX1_placeRobot_11 : decode cX1_placeRobot 11 = .ok (.aload_n 0, 1) := by decide +kernel
theorem dX1_placeRobot_12 : decode cX1_placeRobot 12 = .ok (.iload_n 1, 1) := by decide +kernel
theorem dX1_placeRobot_13 : decode cX1_placeRobot 13 = .ok (.invokevirtual 105, 3) := by decide +kernel
theorem dX1_placeRobot_16 : decode cX1_placeRobot 16 = .ok (.iload_n 2, 1) := by decide +kernel
theorem dX1_placeRobot_17 : decode cX1_placeRobot 17 = .ok (.putfield 70, 3) := by decide +kernel
theorem dX1_placeRobot_20 : decode cX1_placeRobot 20 = .ok (.aload_n 0, 1) := by decide +kernel
theorem dX1_placeRobot_21 : decode cX1_placeRobot 21 = .ok (.iload_n 1, 1) := by decide +kernel
theorem dX1_placeRobot_22 : decode cX1_placeRobot 22 = .ok (.invokevirtual 105, 3) := by decide +kernel
theorem dX1_placeRobot_25 : decode cX1_placeRobot 25 = .ok (.iload_n 3, 1) := by decide +kernel
theorem dX1_placeRobot_26 : decode cX1_placeRobot 26 = .ok (.putfield 128, 3) := by decide +kernel
theorem dX1_placeRobot_29 : decode cX1_placeRobot 29 = .ok (.iconst 1, 1) := by decide +kernel
theorem dX1_placeRobot_30 : decode cX1_placeRobot 30 = .ok (.ireturn, 1) := by decide +kernel
set_option maxRecDepth 20000 in
theorem ggX1_liftCrate_X2_setOf : GoodIn wsX1_liftCrate wsX2_setOf := goodIn_r _ [7] (by decide +kernel) (by decide +kernel)
set_option maxRecDepth 20000 in
theorem gX1_liftCrate_X2_setOf : GoodIn wsX1_liftCrate (va_wsS RX1 73 yX2_setOf wsX2_setOf) := goodIn_app (goodIn_of _ (by decide +kernel)) ggX1_liftCrate_X2_setOf
theorem dX1_liftCrate_0 : decode cX1_liftCrate 0 = .ok (.aload_n 0, 1) := by decide +kernel
theorem dX1_liftCrate_1 : decode cX1_liftCrate 1 = .ok (.dup, 1) := by decide +kernel
theorem dX1_liftCrate_2 : decode cX1_liftCrate 2 = .ok (.getfield 34, 3) := by decide +kernel
theorem dX1_liftCrate_5 : decode cX1_liftCrate 5 = .ok (.iload_n 1, 1) := by decide +kernel
theorem dX1_liftCrate_6 : decode cX1_liftCrate 6 = .ok (.invokestatic 73, 3) := by decide +kernel
theorem dX1_liftCrate_9 : decode cX1_liftCrate 9 = .ok (.ldc2_w 117, 3) := by decide +kernel
theorem dX1_liftCrate_12 : decode cX1_liftCrate 12 = .ok (.lxor, 1) := by decide +kernel
theorem dX1_liftCrate_13 : decode cX1_liftCrate 13 = .ok (.land, 1) := by decide +kernel
theorem dX1_liftCrate_14 : decode cX1_liftCrate 14 = .ok (.putfield 34, 3) := by decide +kernel
theorem dX1_liftCrate_17 : decode cX1_liftCrate 17 = .ok (.aload_n 0, 1) := by decide +kernel
theorem dX1_liftCrate_18 : decode cX1_liftCrate 18 = .ok (.dup, 1) := by decide +kernel
theorem dX1_liftCrate_19 : decode cX1_liftCrate 19 = .ok (.getfield 51, 3) := by decide +kernel
theorem dX1_liftCrate_22 : decode cX1_liftCrate 22 = .ok (.iconst 1, 1) := by decide +kernel
theorem dX1_liftCrate_23 : decode cX1_liftCrate 23 = .ok (.iadd, 1) := by decide +kernel
theorem dX1_liftCrate_24 : decode cX1_liftCrate 24 = .ok (.putfield 51, 3) := by decide +kernel
theorem dX1_liftCrate_27 : decode cX1_liftCrate 27 = .ok (.return_, 1) := by decide +kernel
set_option maxRecDepth 20000 in
theorem ggX1_lowestFreeCell_X1_kindAt : GoodIn wsX1_lowestFreeCell wsX1_kindAt := goodIn_r _ [5, 6, 22, 23, 24, 25, 26, 27, 28, 29, 30, 31, 32, 33] (by decide +kernel) (by decide +kernel)
set_option maxRecDepth 20000 in
theorem gX1_lowestFreeCell_X1_kindAt : GoodIn wsX1_lowestFreeCell (wsV RX1 83 RX1 yX1_kindAt wsX1_kindAt) := goodIn_app (goodIn_of _ (by decide +kernel)) ggX1_lowestFreeCell_X1_kindAt
set_option maxRecDepth 20000 in
theorem ggX1_lowestFreeCell_X1_things : GoodIn wsX1_lowestFreeCell wsX1_things := goodIn_r _ [10, 11, 12, 13, 14, 15, 16, 17, 18, 22, 23, 24, 25, 26, 27, 28, 29, 30, 31, 32, 33, 34, 35, 36, 37, 38, 39, 40, 41, 42, 43] (by decide +kernel) (by decide +kernel)
set_option maxRecDepth 20000 in
theorem gX1_lowestFreeCell_X1_things : GoodIn wsX1_lowestFreeCell (wsV RX1 86 RX1 yX1_things wsX1_things) := goodIn_app (goodIn_of _ (by decide +kernel)) ggX1_lowestFreeCell_X1_things
set_option maxRecDepth 20000 in
theorem ggX1_lowestFreeCell_X2_holds : GoodIn wsX1_lowestFreeCell wsX2_holds := goodIn_r _ [21] (by decide +kernel) (by decide +kernel)
set_option maxRecDepth 20000 in
theorem gX1_lowestFreeCell_X2_holds : GoodIn wsX1_lowestFreeCell (va_wsS RX1 90 yX2_holds wsX2_holds) := goodIn_app (goodIn_of _ (by decide +kernel)) ggX1_lowestFreeCell_X2_holds
theorem dX1_lowestFreeCell_0 : decode cX1_lowestFreeCell 0 = .ok (.iconst 0, 1) := by decide +kernel
theorem dX1_lowestFreeCell_1 : decode cX1_lowestFreeCell 1 = .ok (.istore_n 1, 1) := by decide +kernel
theorem dX1_lowestFreeCell_2 : decode cX1_lowestFreeCell 2 = .ok (.iload_n 1, 1) := by decide +kernel
theorem dX1_lowestFreeCell_3 : decode cX1_lowestFreeCell 3 = .ok (.bipush 36, 2) := by decide +kernel
theorem dX1_lowestFreeCell_5 : decode cX1_lowestFreeCell 5 = .ok (.if_icmp .ge 30, 3) := by decide +kernel
theorem dX1_lowestFreeCell_8 : decode cX1_lowestFreeCell 8 = .ok (.aload_n 0, 1) := by decide +kernel
theorem dX1_lowestFreeCell_9 : decode cX1_lowestFreeCell 9 = .ok (.iload_n 1, 1) := by decide +kernel
theorem dX1_lowestFreeCell_10 : decode cX1_lowestFreeCell 10 = .ok (.invokevirtual 83, 3) := by decide +kernel
theorem dX1_lowestFreeCell_13 : decode cX1_lowestFreeCell 13 = .ok (.ifCond .ne 16, 3) := by decide +kernel
theorem dX1_lowestFreeCell_16 : decode cX1_lowestFreeCell 16 = .ok (.aload_n 0, 1) := by decide +kernel
theorem dX1_lowestFreeCell_17 : decode cX1_lowestFreeCell 17 = .ok (.invokevirtual 86, 3) := by decide +kernel
theorem dX1_lowestFreeCell_20 : decode cX1_lowestFreeCell 20 = .ok (.iload_n 1, 1) := by decide +kernel
theorem dX1_lowestFreeCell_21 : decode cX1_lowestFreeCell 21 = .ok (.invokestatic 90, 3) := by decide +kernel
theorem dX1_lowestFreeCell_24 : decode cX1_lowestFreeCell 24 = .ok (.ifCond .ne 5, 3) := by decide +kernel
theorem dX1_lowestFreeCell_27 : decode cX1_lowestFreeCell 27 = .ok (.iload_n 1, 1) := by decide +kernel
theorem dX1_lowestFreeCell_28 : decode cX1_lowestFreeCell 28 = .ok (.ireturn, 1) := by decide +kernel
theorem dX1_lowestFreeCell_29 : decode cX1_lowestFreeCell 29 = .ok (.iinc 1 1, 3) := by decide +kernel
theorem dX1_lowestFreeCell_32 : decode cX1_lowestFreeCell 32 = .ok (.goto (-30), 3) := by decide +kernel
theorem dX1_lowestFreeCell_35 : decode cX1_lowestFreeCell 35 = .ok (.iconst (-1), 1) := by decide +kernel
theorem dX1_lowestFreeCell_36 : decode cX1_lowestFreeCell 36 = .ok (.ireturn, 1) := by decide +kernel
set_option maxRecDepth 20000 in
theorem ggX1_robotsAsNumber_X1_asNumber : GoodIn wsX1_robotsAsNumber wsX1_asNumber := goodIn_r _ [6, 7, 8, 9, 10, 23, 24, 25, 26, 27, 28, 29, 30, 31, 32] (by decide +kernel) (by decide +kernel)
set_option maxRecDepth 20000 in
theorem gX1_robotsAsNumber_X1_asNumber : GoodIn wsX1_robotsAsNumber (va_wsS RX1 131 yX1_asNumber wsX1_asNumber) := goodIn_app (goodIn_of _ (by decide +kernel)) ggX1_robotsAsNumber_X1_asNumber
theorem dX1_robotsAsNumber_0 : decode cX1_robotsAsNumber 0 = .ok (.aload_n 0, 1) := by decide +kernel
theorem dX1_robotsAsNumber_1 : decode cX1_robotsAsNumber 1 = .ok (.getfield 21, 3) := by decide +kernel
theorem dX1_robotsAsNumber_4 : decode cX1_robotsAsNumber 4 = .ok (.invokestatic 131, 3) := by decide +kernel
theorem dX1_robotsAsNumber_7 : decode cX1_robotsAsNumber 7 = .ok (.bipush 32, 2) := by decide +kernel
theorem dX1_robotsAsNumber_9 : decode cX1_robotsAsNumber 9 = .ok (.lshl, 1) := by decide +kernel
theorem dX1_robotsAsNumber_10 : decode cX1_robotsAsNumber 10 = .ok (.aload_n 0, 1) := by decide +kernel
theorem dX1_robotsAsNumber_11 : decode cX1_robotsAsNumber 11 = .ok (.getfield 25, 3) := by decide +kernel
theorem dX1_robotsAsNumber_14 : decode cX1_robotsAsNumber 14 = .ok (.invokestatic 131, 3) := by decide +kernel
theorem dX1_robotsAsNumber_17 : decode cX1_robotsAsNumber 17 = .ok (.lor, 1) := by decide +kernel
theorem dX1_robotsAsNumber_18 : decode cX1_robotsAsNumber 18 = .ok (.lreturn, 1) := by decide +kernel
theorem dX1_asNumber_0 : decode cX1_asNumber 0 = .ok (.aload_n 0, 1) := by decide +kernel
theorem dX1_asNumber_1 : decode cX1_asNumber 1 = .ok (.getfield 70, 3) := by decide +kernel
theorem dX1_asNumber_4 : decode cX1_asNumber 4 = .ok (.aload_n 0, 1) := by decide +kernel
theorem dX1_asNumber_5 : decode cX1_asNumber 5 = .ok (.getfield 128, 3) := by decide +kernel
theorem dX1_asNumber_8 : decode cX1_asNumber 8 = .ok (.bipush 6, 2) := by decide +kernel
theorem dX1_asNumber_10 : decode cX1_asNumber 10 = .ok (.ishl, 1) := by decide +kernel
theorem dX1_asNumber_11 : decode cX1_asNumber 11 = .ok (.ior, 1) := by decide +kernel
theorem dX1_asNumber_12 : decode cX1_asNumber 12 = .ok (.aload_n 0, 1) := by decide +kernel
theorem dX1_asNumber_13 : decode cX1_asNumber 13 = .ok (.getfield 135, 3) := by decide +kernel
theorem dX1_asNumber_16 : decode cX1_asNumber 16 = .ok (.bipush 8, 2) := by decide +kernel
theorem dX1_asNumber_18 : decode cX1_asNumber 18 = .ok (.ishl, 1) := by decide +kernel
theorem dX1_asNumber_19 : decode cX1_asNumber 19 = .ok (.ior, 1) := by decide +kernel
theorem dX1_asNumber_20 : decode cX1_asNumber 20 = .ok (.aload_n 0, 1) := by decide +kernel
theorem dX1_asNumber_21 : decode cX1_asNumber 21 = .ok (.getfield 138, 3) := by decide +kernel
theorem dX1_asNumber_24 : decode cX1_asNumber 24 = .ok (.bipush 11, 2) := by decide +kernel
theorem dX1_asNumber_26 : decode cX1_asNumber 26 = .ok (.ishl, 1) := by decide +kernel
theorem dX1_asNumber_27 : decode cX1_asNumber 27 = .ok (.ior, 1) := by decide +kernel
theorem dX1_asNumber_28 : decode cX1_asNumber 28 = .ok (.i2l, 1) := by decide +kernel
theorem dX1_asNumber_29 : decode cX1_asNumber 29 = .ok (.lreturn, 1) := by decide +kernel
set_option maxRecDepth 20000 in
theorem ggX6_makeSome_X6_makeOne : GoodIn wsX6_makeSome wsX6_makeOne := goodIn_r _ [4, 5, 6, 7, 8, 9, 3, 10, 11, 12, 13, 14, 15, 16, 17, 18, 19, 20, 21, 22, 23, 24, 25, 26, 27, 28, 29, 30, 31, 32, 33, 34, 35, 36, 37, 38, 39, 40, 41, 42, 43, 44, 45, 46, 47, 48, 49, 50, 51, 52, 53, 54, 55, 56, 57, 58, 59, 60, 61, 62, 63, 64, 65, 66, 67, 68, 69, 70, 71, 72, 73, 74, 75, 76, 77, 78, 79, 80, 81, 82, 83, 84, 85, 86, 87, 88, 89, 90, 91, 92, 93, 94, 95, 96, 97, 98, 99, 100, 101, 102, 103, 104, 105, 106, 107, 108, 109, 110, 111, 112, 113, 114, 115, 116, 117, 118, 119, 120, 121, 122, 123, 124, 125, 126, 127, 128, 129, 130, 131, 132, 133, 134, 135, 136, 137, 138, 139, 140, 141, 142, 143, 144, 145, 146, 147, 148, 149, 150, 151, 152, 153, 154, 155, 156, 157, 158, 159, 160, 161, 162, 163, 164, 165] (by decide +kernel) (by decide +kernel)
set_option maxRecDepth 20000 in
theorem gX6_makeSome_X6_makeOne : GoodIn wsX6_makeSome (va_wsS RX6 9 yX6_makeOne wsX6_makeOne) := goodIn_app (goodIn_of _ (by decide +kernel)) ggX6_makeSome_X6_makeOne
theorem dX6_makeSome_0 : decode cX6_makeSome 0 = .ok (.iconst 0, 1) := by decide +kernel
theorem dX6_makeSome_1 : decode cX6_makeSome 1 = .ok (.istore_n 2, 1) := by decide +kernel
theorem dX6_makeSome_2 : decode cX6_makeSome 2 = .ok (.iconst 0, 1) := by decide +kernel
theorem dX6_makeSome_3 : decode cX6_makeSome 3 = .ok (.istore_n 3, 1) := by decide +kernel
theorem dX6_makeSome_4 : decode cX6_makeSome 4 = .ok (.iload_n 3, 1) := by decide +kernel
theorem dX6_makeSome_5 : decode cX6_makeSome 5 = .ok (.iload_n 1, 1) := by decide +kernel
theorem dX6_makeSome_6 : decode cX6_makeSome 6 = .ok (.if_icmp .ge 16, 3) := by decide +kernel
theorem dX6_makeSome_9 : decode cX6_makeSome 9 = .ok (.iload_n 2, 1) := by decide +kernel
theorem dX6_makeSome_10 : decode cX6_makeSome 10 = .ok (.aload_n 0, 1) := by decide +kernel
theorem dX6_makeSome_11 : decode cX6_makeSome 11 = .ok (.invokestatic 9, 3) := by decide +kernel
theorem dX6_makeSome_14 : decode cX6_makeSome 14 = .ok (.iadd, 1) := by decide +kernel
theorem dX6_makeSome_15 : decode cX6_makeSome 15 = .ok (.istore_n 2, 1) := by decide +kernel
theorem dX6_makeSome_16 : decode cX6_makeSome 16 = .ok (.iinc 3 1, 3) := by decide +kernel
theorem dX6_makeSome_19 : decode cX6_makeSome 19 = .ok (.goto (-15), 3) := by decide +kernel
theorem dX6_makeSome_22 : decode cX6_makeSome 22 = .ok (.iload_n 2, 1) := by decide +kernel
theorem dX6_makeSome_23 : decode cX6_makeSome 23 = .ok (.ireturn, 1) := by decide +kernel
set_option maxRecDepth 20000 in
theorem ggX6_makeOne_X6_wayOf : GoodIn wsX6_makeOne wsX6_wayOf := goodIn_r _ [7, 8, 9, 10, 11, 12, 13, 14, 15, 16, 17, 18, 19, 20, 21, 22, 23, 24, 25, 26, 27, 28, 29, 30, 31, 6, 32, 33, 34, 35, 36, 37, 38, 39, 40, 41, 42, 43, 44, 45, 46, 47, 48, 49, 50, 51, 52, 53, 54, 55, 56, 153, 154, 155, 156, 157, 158, 159, 160, 161, 162, 141, 142, 143, 144, 145, 146, 147, 148, 149, 150, 151, 152] (by decide +kernel) (by decide +kernel)
set_option maxRecDepth 20000 in
theorem gX6_makeOne_X6_wayOf : GoodIn wsX6_makeOne (va_wsS RX6 21 yX6_wayOf wsX6_wayOf) := goodIn_app (goodIn_of _ (by decide +kernel)) ggX6_makeOne_X6_wayOf
set_option maxRecDepth 20000 in
theorem ggX6_makeOne_X6_clash : GoodIn wsX6_makeOne wsX6_clash := goodIn_r _ [59] (by decide +kernel) (by decide +kernel)
set_option maxRecDepth 20000 in
theorem gX6_makeOne_X6_clash : GoodIn wsX6_makeOne (va_wsS RX6 28 yX6_clash wsX6_clash) := goodIn_app (goodIn_of _ (by decide +kernel)) ggX6_makeOne_X6_clash
set_option maxRecDepth 20000 in
theorem ggX6_makeOne_X6_follow : GoodIn wsX6_makeOne wsX6_follow := goodIn_r _ [62, 63, 8, 64, 65, 9, 10, 11, 12, 13, 14, 15, 16, 17, 18, 19, 20, 21, 22, 23, 24, 25, 26, 27, 28, 29, 66, 67, 68, 69, 70, 71, 6, 72, 73, 33, 34, 35, 36, 37, 38, 39, 40, 41, 42, 43, 44, 45, 74, 75, 76, 77, 78, 79, 80, 54, 55, 56, 46, 47, 48, 81, 82, 83, 84, 85, 86, 87, 88, 89, 90, 91, 153, 154, 155, 156, 157, 158, 159, 160, 161, 162, 141, 142, 143, 144, 145, 146, 147, 148, 149, 150, 151, 152] (by decide +kernel) (by decide +kernel)
set_option maxRecDepth 20000 in
theorem gX6_makeOne_X6_follow : GoodIn wsX6_makeOne (va_wsS RX6 32 yX6_follow wsX6_follow) := goodIn_app (goodIn_of _ (by decide +kernel)) ggX6_makeOne_X6_follow
set_option maxRecDepth 20000 in
theorem ggX6_makeOne_X6_carriedThings : GoodIn wsX6_makeOne wsX6_carriedThings := goodIn_r _ [94, 95, 73, 33, 34, 35, 36, 37, 38, 39, 40, 41, 42, 43, 28, 44, 96, 97, 6, 98, 54, 55, 56, 99, 100, 101, 49, 50, 51, 52, 53, 46, 47, 48, 45, 102, 103, 104, 105, 106, 107, 141, 142, 143, 144, 145, 146, 147, 148, 149, 150, 151, 152, 153, 154, 155, 156, 157, 158, 159, 160, 161, 162] (by decide +kernel) (by decide +kernel)
set_option maxRecDepth 20000 in
theorem gX6_makeOne_X6_carriedThings : GoodIn wsX6_makeOne (va_wsS RX6 36 yX6_carriedThings wsX6_carriedThings) := goodIn_app (goodIn_of _ (by decide +kernel)) ggX6_makeOne_X6_carriedThings
set_option maxRecDepth 20000 in
theorem ggX6_makeOne_X6_carryAll : GoodIn wsX6_makeOne wsX6_carryAll := goodIn_r _ [110, 77, 73, 1, 2, 54, 55, 28, 56, 99, 100, 6, 101, 49, 50, 51, 36, 52, 53, 46, 47, 48, 45, 43, 44, 111, 112, 113, 8, 141, 142, 143, 144, 145, 146, 147, 148, 149, 150, 151, 152, 153, 154, 155, 156, 157, 158, 159, 160, 161, 162] (by decide +kernel) (by decide +kernel)
set_option maxRecDepth 20000 in
theorem gX6_makeOne_X6_carryAll : GoodIn wsX6_makeOne (va_wsS RX6 40 yX6_carryAll wsX6_carryAll) := goodIn_app (goodIn_of _ (by decide +kernel)) ggX6_makeOne_X6_carryAll
set_option maxRecDepth 20000 in
theorem ggX6_makeOne_X6_loseCrates : GoodIn wsX6_makeOne wsX6_loseCrates := goodIn_r _ [116, 77, 117, 73, 118, 81, 82, 83, 84, 85, 86, 87, 141, 142, 143, 144, 145, 146, 147, 148, 149, 150, 151, 152] (by decide +kernel) (by decide +kernel)
set_option maxRecDepth 20000 in
theorem gX6_makeOne_X6_loseCrates : GoodIn wsX6_makeOne (va_wsS RX6 44 yX6_loseCrates wsX6_loseCrates) := goodIn_app (goodIn_of _ (by decide +kernel)) ggX6_makeOne_X6_loseCrates
set_option maxRecDepth 20000 in
theorem ggX6_makeOne_X6_letFall : GoodIn wsX6_makeOne wsX6_letFall := goodIn_r _ [121, 8, 122, 123, 49, 50, 51, 36, 52, 53, 124, 125, 126, 127, 128, 129, 34, 35, 37, 38, 39, 40, 41, 42, 43, 28, 44, 130, 55, 56, 153, 154, 155, 156, 157, 158, 159, 160, 161, 162, 141, 142, 143, 144, 145, 146, 147, 148, 149, 150, 151, 152] (by decide +kernel) (by decide +kernel)
set_option maxRecDepth 20000 in
theorem gX6_makeOne_X6_letFall : GoodIn wsX6_makeOne (va_wsS RX6 48 yX6_letFall wsX6_letFall) := goodIn_app (goodIn_of _ (by decide +kernel)) ggX6_makeOne_X6_letFall
set_option maxRecDepth 20000 in
theorem ggX6_makeOne_X6_passCheckpoint : GoodIn wsX6_makeOne wsX6_passCheckpoint := goodIn_r _ [133, 134, 8, 135, 136, 137, 36, 138, 139, 140, 153, 154, 155, 156, 157, 158, 159, 160, 161, 162, 141, 142, 143, 144, 145, 146, 147, 148, 149, 150, 151, 152] (by decide +kernel) (by decide +kernel)
set_option maxRecDepth 20000 in
theorem gX6_makeOne_X6_passCheckpoint : GoodIn wsX6_makeOne (va_wsS RX6 56 yX6_passCheckpoint wsX6_passCheckpoint) := goodIn_app (goodIn_of _ (by decide +kernel)) ggX6_makeOne_X6_passCheckpoint
theorem dX6_makeOne_0 : decode cX6_makeOne 0 = .ok (.aload_n 0, 1) := by decide +kernel
theorem dX6_makeOne_1 : decode cX6_makeOne 1 = .ok (.aload_n 0, 1) := by decide +kernel
theorem dX6_makeOne_2 : decode cX6_makeOne 2 = .ok (.getfield 15, 3) := by decide +kernel
theorem dX6_makeOne_5 : decode cX6_makeOne 5 = .ok (.invokestatic 21, 3) := by decide +kernel
theorem dX6_makeOne_8 : decode cX6_makeOne 8 = .ok (.lstore_n 1, 1) := by decide +kernel
theorem dX6_makeOne_9 : decode cX6_makeOne 9 = .ok (.aload_n 0, 1) := by decide +kernel
theorem dX6_makeOne_10 : decode cX6_makeOne 10 = .ok (.aload_n 0, 1) := by decide +kernel
theorem dX6_makeOne_11 : decode cX6_makeOne 11 = .ok (.getfield 25, 3) := by decide +kernel
theorem dX6_makeOne_14 : decode cX6_makeOne 14 = .ok (.invokestatic 21, 3) := by decide +kernel
theorem dX6_makeOne_17 : decode cX6_makeOne 17 = .ok (.lstore_n 3, 1) := by decide +kernel
theorem dX6_makeOne_18 : decode cX6_makeOne 18 = .ok (.lload_n 1, 1) := by decide +kernel
theorem dX6_makeOne_19 : decode cX6_makeOne 19 = .ok (.lload_n 3, 1) := by decide +kernel
theorem dX6_makeOne_20 : decode cX6_makeOne 20 = .ok (.invokestatic 28, 3) := by decide +kernel
theorem dX6_makeOne_23 : decode cX6_makeOne 23 = .ok (.istore 5, 2) := by decide +kernel
theorem dX6_makeOne_25 : decode cX6_makeOne 25 = .ok (.aload_n 0, 1) := by decide +kernel
theorem dX6_makeOne_26 : decode cX6_makeOne 26 = .ok (.aload_n 0, 1) := by decide +kernel
theorem dX6_makeOne_27 : decode cX6_makeOne 27 = .ok (.getfield 15, 3) := by decide +kernel
theorem dX6_makeOne_30 : decode cX6_makeOne 30 = .ok (.aload_n 0, 1) := by decide +kernel
theorem dX6_makeOne_31 : decode cX6_makeOne 31 = .ok (.getfield 25, 3) := by decide +kernel
theorem dX6_makeOne_34 : decode cX6_makeOne 34 = .ok (.iload 5, 2) := by decide +kernel
theorem dX6_makeOne_36 : decode cX6_makeOne 36 = .ok (.ifCond .eq 7, 3) := by decide +kernel
theorem dX6_makeOne_39 : decode cX6_makeOne 39 = .ok (.lconst 0, 1) := by decide +kernel
theorem dX6_makeOne_40 : decode cX6_makeOne 40 = .ok (.goto 4, 3) := by decide +kernel
theorem dX6_makeOne_43 : decode cX6_makeOne 43 = .ok (.lload_n 1, 1) := by decide +kernel
theorem dX6_makeOne_44 : decode cX6_makeOne 44 = .ok (.invokestatic 32, 3) := by decide +kernel
theorem dX6_makeOne_47 : decode cX6_makeOne 47 = .ok (.aload_n 0, 1) := by decide +kernel
theorem dX6_makeOne_48 : decode cX6_makeOne 48 = .ok (.aload_n 0, 1) := by decide +kernel
theorem dX6_makeOne_49 : decode cX6_makeOne 49 = .ok (.getfield 25, 3) := by decide +kernel
theorem dX6_makeOne_52 : decode cX6_makeOne 52 = .ok (.aload_n 0, 1) := by decide +kernel
theorem dX6_makeOne_53 : decode cX6_makeOne 53 = .ok (.getfield 15, 3) := by decide +kernel
theorem dX6_makeOne_56 : decode cX6_makeOne 56 = .ok (.iload 5, 2) := by decide +kernel
theorem dX6_makeOne_58 : decode cX6_makeOne 58 = .ok (.ifCond .eq 7, 3) := by decide +kernel
theorem dX6_makeOne_61 : decode cX6_makeOne 61 = .ok (.lconst 0, 1) := by decide +kernel
theorem dX6_makeOne_62 : decode cX6_makeOne 62 = .ok (.goto 4, 3) := by decide +kernel
theorem dX6_makeOne_65 : decode cX6_makeOne 65 = .ok (.lload_n 3, 1) := by decide +kernel
theorem dX6_makeOne_66 : decode cX6_makeOne 66 = .ok (.invokestatic 32, 3) := by decide +kernel
theorem dX6_makeOne_69 : decode cX6_makeOne 69 = .ok (.aload_n 0, 1) := by decide +kernel
theorem dX6_makeOne_70 : decode cX6_makeOne 70 = .ok (.aload_n 0, 1) := by decide +kernel
theorem dX6_makeOne_71 : decode cX6_makeOne 71 = .ok (.invokestatic 36, 3) := by decide +kernel
theorem dX6_makeOne_74 : decode cX6_makeOne 74 = .ok (.invokestatic 40, 3) := by decide +kernel
theorem dX6_makeOne_77 : decode cX6_makeOne 77 = .ok (.aload_n 0, 1) := by decide +kernel
theorem dX6_makeOne_78 : decode cX6_makeOne 78 = .ok (.invokestatic 44, 3) := by decide +kernel
theorem dX6_makeOne_81 : decode cX6_makeOne 81 = .ok (.aload_n 0, 1) := by decide +kernel
theorem dX6_makeOne_82 : decode cX6_makeOne 82 = .ok (.aload_n 0, 1) := by decide +kernel
theorem dX6_makeOne_83 : decode cX6_makeOne 83 = .ok (.getfield 15, 3) := by decide +kernel
theorem dX6_makeOne_86 : decode cX6_makeOne 86 = .ok (.invokestatic 48, 3) := by decide +kernel
theorem dX6_makeOne_89 : decode cX6_makeOne 89 = .ok (.aload_n 0, 1) := by decide +kernel
theorem dX6_makeOne_90 : decode cX6_makeOne 90 = .ok (.aload_n 0, 1) := by decide +kernel
theorem dX6_makeOne_91 : decode cX6_makeOne 91 = .ok (.getfield 25, 3) := by decide +kernel
theorem dX6_makeOne_94 : decode cX6_makeOne 94 = .ok (.invokestatic 48, 3) := by decide +kernel
theorem dX6_makeOne_97 : decode cX6_makeOne 97 = .ok (.aload_n 0, 1) := by decide +kernel
theorem dX6_makeOne_98 : decode cX6_makeOne 98 = .ok (.dup, 1) := by decide +kernel
theorem dX6_makeOne_99 : decode cX6_makeOne 99 = .ok (.getfield 52, 3) := by decide +kernel
theorem dX6_makeOne_102 : decode cX6_makeOne 102 = .ok (.iconst 1, 1) := by decide +kernel
theorem dX6_makeOne_103 : decode cX6_makeOne 103 = .ok (.iadd, 1) := by decide +kernel
theorem dX6_makeOne_104 : decode cX6_makeOne 104 = .ok (.putfield 52, 3) := by decide +kernel
theorem dX6_makeOne_107 : decode cX6_makeOne 107 = .ok (.aload_n 0, 1) := by decide +kernel
theorem dX6_makeOne_108 : decode cX6_makeOne 108 = .ok (.aload_n 0, 1) := by decide +kernel
theorem dX6_makeOne_109 : decode cX6_makeOne 109 = .ok (.getfield 15, 3) := by decide +kernel
theorem dX6_makeOne_112 : decode cX6_makeOne 112 = .ok (.invokestatic 56, 3) := by decide +kernel
theorem dX6_makeOne_115 : decode cX6_makeOne 115 = .ok (.aload_n 0, 1) := by decide +kernel
theorem dX6_makeOne_116 : decode cX6_makeOne 116 = .ok (.aload_n 0, 1) := by decide +kernel
theorem dX6_makeOne_117 : decode cX6_makeOne 117 = .ok (.getfield 25, 3) := by decide +kernel
theorem dX6_makeOne_120 : decode cX6_makeOne 120 = .ok (.invokestatic 56, 3) := by decide +kernel
theorem dX6_makeOne_123 : decode cX6_makeOne 123 = .ok (.iadd, 1) := by decide +kernel
theorem dX6_makeOne_124 : decode cX6_makeOne 124 = .ok (.ireturn, 1) := by decide +kernel
set_option maxRecDepth 20000 in
theorem ggX6_wayOf_X4_wantedDirection : GoodIn wsX6_wayOf wsX4_wantedDirection := goodIn_r _ [6, 7, 8, 9, 10, 5, 11, 12, 13, 14, 15, 16, 17, 18, 19, 20, 21, 22, 51, 52, 53, 54, 55, 56, 57, 58, 59, 60] (by decide +kernel) (by decide +kernel)
set_option maxRecDepth 20000 in
theorem gX6_wayOf_X4_wantedDirection : GoodIn wsX6_wayOf (wsV RX6 60 RX4 yX4_wantedDirection wsX4_wantedDirection) := goodIn_app (goodIn_of _ (by decide +kernel)) ggX6_wayOf_X4_wantedDirection
set_option maxRecDepth 20000 in
theorem ggX6_wayOf_X6_wayFrom : GoodIn wsX6_wayOf wsX6_wayFrom := goodIn_r _ [26, 27, 28, 29, 30, 31, 32, 33, 34, 35, 36, 37, 21, 38, 39, 40, 41, 42, 43, 44, 45, 46, 47, 48, 49, 50, 61, 62, 63, 64, 65, 66, 67, 68, 69, 70, 71, 72, 51, 52, 53, 54, 55, 56, 57, 58, 59, 60] (by decide +kernel) (by decide +kernel)
set_option maxRecDepth 20000 in
theorem gX6_wayOf_X6_wayFrom : GoodIn wsX6_wayOf (va_wsS RX6 69 yX6_wayFrom wsX6_wayFrom) := goodIn_app (goodIn_of _ (by decide +kernel)) ggX6_wayOf_X6_wayFrom
theorem dX6_wayOf_0 : decode cX6_wayOf 0 = .ok (.aload_n 1, 1) := by decide +kernel
theorem dX6_wayOf_1 : decode cX6_wayOf 1 = .ok (.invokevirtual 60, 3) := by decide +kernel
theorem dX6_wayOf_4 : decode cX6_wayOf 4 = .ok (.istore_n 2, 1) := by decide +kernel
theorem dX6_wayOf_5 : decode cX6_wayOf 5 = .ok (.iload_n 2, 1) := by decide +kernel
theorem dX6_wayOf_6 : decode cX6_wayOf 6 = .ok (.iconst (-1), 1) := by decide +kernel
theorem dX6_wayOf_7 : decode cX6_wayOf 7 = .ok (.if_icmp .ne 7, 3) := by decide +kernel
theorem dX6_wayOf_10 : decode cX6_wayOf 10 = .ok (.lconst 0, 1) := by decide +kernel
theorem dX6_wayOf_11 : decode cX6_wayOf 11 = .ok (.goto 12, 3) := by decide +kernel
theorem dX6_wayOf_14 : decode cX6_wayOf 14 = .ok (.aload_n 0, 1) := by decide +kernel
theorem dX6_wayOf_15 : decode cX6_wayOf 15 = .ok (.aload_n 1, 1) := by decide +kernel
theorem dX6_wayOf_16 : decode cX6_wayOf 16 = .ok (.getfield 66, 3) := by decide +kernel
theorem dX6_wayOf_19 : decode cX6_wayOf 19 = .ok (.iload_n 2, 1) := by decide +kernel
theorem dX6_wayOf_20 : decode cX6_wayOf 20 = .ok (.invokestatic 69, 3) := by decide +kernel
theorem dX6_wayOf_23 : decode cX6_wayOf 23 = .ok (.lreturn, 1) := by decide +kernel
set_option maxRecDepth 20000 in
theorem ggX6_wayFrom_X1_things : GoodIn wsX6_wayFrom wsX1_things := goodIn_r _ [5, 6, 7, 8, 9, 10, 11, 12, 13, 26, 27, 28, 29, 30, 31, 32, 33, 34, 35, 36, 37, 38, 39, 40, 41, 42, 43, 44, 45, 46, 47] (by decide +kernel) (by decide +kernel)
set_option maxRecDepth 20000 in
theorem gX6_wayFrom_X1_things : GoodIn wsX6_wayFrom (wsV RX6 73 RX1 yX1_things wsX1_things) := goodIn_app (goodIn_of _ (by decide +kernel)) ggX6_wayFrom_X1_things
set_option maxRecDepth 20000 in
theorem ggX6_wayFrom_X2_setOf : GoodIn wsX6_wayFrom wsX2_setOf := goodIn_r _ [13] (by decide +kernel) (by decide +kernel)
set_option maxRecDepth 20000 in
theorem gX6_wayFrom_X2_setOf : GoodIn wsX6_wayFrom (va_wsS RX6 77 yX2_setOf wsX2_setOf) := goodIn_app (goodIn_of _ (by decide +kernel)) ggX6_wayFrom_X2_setOf
set_option maxRecDepth 20000 in
theorem ggX6_wayFrom_X2_beside : GoodIn wsX6_wayFrom wsX2_beside := goodIn_r _ [17] (by decide +kernel) (by decide +kernel)
set_option maxRecDepth 20000 in
theorem gX6_wayFrom_X2_beside : GoodIn wsX6_wayFrom (va_wsS RX6 83 yX2_beside wsX2_beside) := goodIn_app (goodIn_of _ (by decide +kernel)) ggX6_wayFrom_X2_beside
set_option maxRecDepth 20000 in
theorem ggX6_wayFrom_X1_kindAt : GoodIn wsX6_wayFrom wsX1_kindAt := goodIn_r _ [21, 22, 26, 27, 28, 29, 30, 31, 32, 33, 34, 35, 36, 37] (by decide +kernel) (by decide +kernel)
set_option maxRecDepth 20000 in
theorem gX6_wayFrom_X1_kindAt : GoodIn wsX6_wayFrom (wsV RX6 87 RX1 yX1_kindAt wsX1_kindAt) := goodIn_app (goodIn_of _ (by decide +kernel)) ggX6_wayFrom_X1_kindAt
set_option maxRecDepth 20000 in
theorem ggX6_wayFrom_X2_holds : GoodIn wsX6_wayFrom wsX2_holds := goodIn_r _ [25] (by decide +kernel) (by decide +kernel)
set_option maxRecDepth 20000 in
theorem gX6_wayFrom_X2_holds : GoodIn wsX6_wayFrom (va_wsS RX6 91 yX2_holds wsX2_holds) := goodIn_app (goodIn_of _ (by decide +kernel)) ggX6_wayFrom_X2_holds
theorem dX6_wayFrom_0 : decode cX6_wayFrom 0 = .ok (.aload_n 0, 1) := by decide +kernel
theorem dX6_wayFrom_1 : decode cX6_wayFrom 1 = .ok (.invokevirtual 73, 3) := by decide +kernel
theorem dX6_wayFrom_4 : decode cX6_wayFrom 4 = .ok (.lstore_n 3, 1) := by decide +kernel
theorem dX6_wayFrom_5 : decode cX6_wayFrom 5 = .ok (.iload_n 1, 1) := by decide +kernel
theorem dX6_wayFrom_6 : decode cX6_wayFrom 6 = .ok (.invokestatic 77, 3) := by decide +kernel
theorem dX6_wayFrom_9 : decode cX6_wayFrom 9 = .ok (.lstore 5, 2) := by decide +kernel
theorem dX6_wayFrom_11 : decode cX6_wayFrom 11 = .ok (.iload_n 1, 1) := by decide +kernel
theorem dX6_wayFrom_12 : decode cX6_wayFrom 12 = .ok (.istore 7, 2) := by decide +kernel
theorem dX6_wayFrom_14 : decode cX6_wayFrom 14 = .ok (.iconst 1, 1) := by decide +kernel
theorem dX6_wayFrom_15 : decode cX6_wayFrom 15 = .ok (.istore 8, 2) := by decide +kernel
theorem dX6_wayFrom_17 : decode cX6_wayFrom 17 = .ok (.iload 8, 2) := by decide +kernel
theorem dX6_wayFrom_19 : decode cX6_wayFrom 19 = .ok (.bipush 6, 2) := by decide +kernel
theorem dX6_wayFrom_21 : decode cX6_wayFrom 21 = .ok (.if_icmp .ge 51, 3) := by decide +kernel
theorem dX6_wayFrom_24 : decode cX6_wayFrom 24 = .ok (.iload 7, 2) := by decide +kernel
theorem dX6_wayFrom_26 : decode cX6_wayFrom 26 = .ok (.iload_n 2, 1) := by decide +kernel
theorem dX6_wayFrom_27 : decode cX6_wayFrom 27 = .ok (.invokestatic 83, 3) := by decide +kernel
theorem dX6_wayFrom_30 : decode cX6_wayFrom 30 = .ok (.istore 7, 2) := by decide +kernel
theorem dX6_wayFrom_32 : decode cX6_wayFrom 32 = .ok (.aload_n 0, 1) := by decide +kernel
theorem dX6_wayFrom_33 : decode cX6_wayFrom 33 = .ok (.iload 7, 2) := by decide +kernel
theorem dX6_wayFrom_35 : decode cX6_wayFrom 35 = .ok (.invokevirtual 87, 3) := by decide +kernel
theorem dX6_wayFrom_38 : decode cX6_wayFrom 38 = .ok (.iconst 1, 1) := by decide +kernel
theorem dX6_wayFrom_39 : decode cX6_wayFrom 39 = .ok (.if_icmp .ne 5, 3) := by decide +kernel
theorem dX6_wayFrom_42 : decode cX6_wayFrom 42 = .ok (.lconst 0, 1) := by decide +kernel
theorem dX6_wayFrom_43 : decode cX6_wayFrom 43 = .ok (.lreturn, 1) := by decide +kernel
theorem dX6_wayFrom_44 : decode cX6_wayFrom 44 = .ok (.lload 5, 2) := by decide +kernel
theorem dX6_wayFrom_46 : decode cX6_wayFrom 46 = .ok (.iload 7, 2) := by decide +kernel
theorem dX6_wayFrom_48 : decode cX6_wayFrom 48 = .ok (.invokestatic 77, 3) := by decide +kernel
theorem dX6_wayFrom_51 : decode cX6_wayFrom 51 = .ok (.lor, 1) := by decide +kernel
theorem dX6_wayFrom_52 : decode cX6_wayFrom 52 = .ok (.lstore 5, 2) := by decide +kernel
theorem dX6_wayFrom_54 : decode cX6_wayFrom 54 = .ok (.lload_n 3, 1) := by decide +kernel
theorem dX6_wayFrom_55 : decode cX6_wayFrom 55 = .ok (.iload 7, 2) := by decide +kernel
theorem dX6_wayFrom_57 : decode cX6_wayFrom 57 = .ok (.invokestatic 91, 3) := by decide +kernel
theorem dX6_wayFrom_60 : decode cX6_wayFrom 60 = .ok (.ifCond .ne 6, 3) := by decide +kernel
theorem dX6_wayFrom_63 : decode cX6_wayFrom 63 = .ok (.lload 5, 2) := by decide +kernel
theorem dX6_wayFrom_65 : decode cX6_wayFrom 65 = .ok (.lreturn, 1) := by decide +kernel
theorem dX6_wayFrom_66 : decode cX6_wayFrom 66 = .ok (.iinc 8 1, 3) := by decide +kernel
theorem dX6_wayFrom_69 : decode cX6_wayFrom 69 = .ok (.goto (-52), 3) := by decide +kernel
theorem dX6_wayFrom_72 : decode cX6_wayFrom 72 = .ok (.lconst 0, 1) := by decide +kernel
theorem dX6_wayFrom_73 : decode cX6_wayFrom 73 = .ok (.lreturn, 1) := by decide +kernel
set_option maxRecDepth 20000 in
theorem ggX6_rowOf_X1_things : GoodIn wsX6_rowOf wsX1_things := goodIn_r _ [7, 8, 9, 10, 11, 12, 13, 14, 15, 27, 28, 29, 30, 31, 32, 33, 34, 35, 36, 37, 38, 17, 18, 19, 20, 21, 22, 23, 24, 25, 26] (by decide +kernel) (by decide +kernel)
set_option maxRecDepth 20000 in
theorem gX6_rowOf_X1_things : GoodIn wsX6_rowOf (wsV RX6 73 RX1 yX1_things wsX1_things) := goodIn_app (goodIn_of _ (by decide +kernel)) ggX6_rowOf_X1_things
set_option maxRecDepth 20000 in
theorem ggX6_rowOf_X2_setOf : GoodIn wsX6_rowOf wsX2_setOf := goodIn_r _ [15] (by decide +kernel) (by decide +kernel)
set_option maxRecDepth 20000 in
theorem gX6_rowOf_X2_setOf : GoodIn wsX6_rowOf (va_wsS RX6 77 yX2_setOf wsX2_setOf) := goodIn_app (goodIn_of _ (by decide +kernel)) ggX6_rowOf_X2_setOf
theorem dX6_rowOf_0 : decode cX6_rowOf 0 = .ok (.lload_n 2, 1) := by decide +kernel
theorem dX6_rowOf_1 : decode cX6_rowOf 1 = .ok (.aload_n 0, 1) := by decide +kernel
theorem dX6_rowOf_2 : decode cX6_rowOf 2 = .ok (.invokevirtual 73, 3) := by decide +kernel
theorem dX6_rowOf_5 : decode cX6_rowOf 5 = .ok (.land, 1) := by decide +kernel
theorem dX6_rowOf_6 : decode cX6_rowOf 6 = .ok (.aload_n 1, 1) := by decide +kernel
theorem dX6_rowOf_7 : decode cX6_rowOf 7 = .ok (.getfield 66, 3) := by decide +kernel
theorem dX6_rowOf_10 : decode cX6_rowOf 10 = .ok (.invokestatic 77, 3) := by decide +kernel
theorem dX6_rowOf_13 : decode cX6_rowOf 13 = .ok (.ldc2_w 95, 3) := by decide +kernel
theorem dX6_rowOf_16 : decode cX6_rowOf 16 = .ok (.lxor, 1) := by decide +kernel
theorem dX6_rowOf_17 : decode cX6_rowOf 17 = .ok (.land, 1) := by decide +kernel
theorem dX6_rowOf_18 : decode cX6_rowOf 18 = .ok (.lreturn, 1) := by decide +kernel
theorem dX6_clash_0 : decode cX6_clash 0 = .ok (.lload_n 0, 1) := by decide +kernel
theorem dX6_clash_1 : decode cX6_clash 1 = .ok (.lload_n 2, 1) := by decide +kernel
theorem dX6_clash_2 : decode cX6_clash 2 = .ok (.land, 1) := by decide +kernel
theorem dX6_clash_3 : decode cX6_clash 3 = .ok (.lconst 0, 1) := by decide +kernel
theorem dX6_clash_4 : decode cX6_clash 4 = .ok (.lcmp, 1) := by decide +kernel
theorem dX6_clash_5 : decode cX6_clash 5 = .ok (.ifCond .eq 7, 3) := by decide +kernel
theorem dX6_clash_8 : decode cX6_clash 8 = .ok (.iconst 1, 1) := by decide +kernel
theorem dX6_clash_9 : decode cX6_clash 9 = .ok (.goto 4, 3) := by decide +kernel
theorem dX6_clash_12 : decode cX6_clash 12 = .ok (.iconst 0, 1) := by decide +kernel
theorem dX6_clash_13 : decode cX6_clash 13 = .ok (.ireturn, 1) := by decide +kernel
set_option maxRecDepth 20000 in
theorem ggX6_follow_X4_wantedDirection : GoodIn wsX6_follow wsX4_wantedDirection := goodIn_r _ [9, 10, 11, 12, 13, 8, 14, 15, 16, 17, 18, 19, 20, 21, 22, 23, 24, 25, 72, 73, 74, 75, 76, 77, 78, 79, 80, 81] (by decide +kernel) (by decide +kernel)
set_option maxRecDepth 20000 in
theorem gX6_follow_X4_wantedDirection : GoodIn wsX6_follow (wsV RX6 60 RX4 yX4_wantedDirection wsX4_wantedDirection) := goodIn_app (goodIn_of _ (by decide +kernel)) ggX6_follow_X4_wantedDirection
set_option maxRecDepth 20000 in
theorem ggX6_follow_X4_turn : GoodIn wsX6_follow wsX4_turn := goodIn_r _ [29, 10, 11, 12, 13, 8, 14, 15, 16, 17, 18, 19, 20, 21, 22, 23, 24, 25, 72, 73, 74, 75, 76, 77, 78, 79, 80, 81] (by decide +kernel) (by decide +kernel)
set_option maxRecDepth 20000 in
theorem gX6_follow_X4_turn : GoodIn wsX6_follow (wsV RX6 97 RX4 yX4_turn wsX4_turn) := goodIn_app (goodIn_of _ (by decide +kernel)) ggX6_follow_X4_turn
set_option maxRecDepth 20000 in
theorem ggX6_follow_X6_rowOf : GoodIn wsX6_follow wsX6_rowOf := goodIn_r _ [33, 2, 34, 35, 36, 37, 38, 39, 40, 41, 42, 43, 44, 45, 24, 46, 47, 72, 73, 74, 75, 76, 77, 78, 79, 80, 81, 82, 83, 84, 85, 86, 87, 88, 89, 90, 91, 92, 93] (by decide +kernel) (by decide +kernel)
set_option maxRecDepth 20000 in
theorem gX6_follow_X6_rowOf : GoodIn wsX6_follow (va_wsS RX6 103 yX6_rowOf wsX6_rowOf) := goodIn_app (goodIn_of _ (by decide +kernel)) ggX6_follow_X6_rowOf
set_option maxRecDepth 20000 in
theorem ggX6_follow_X6_pushRow : GoodIn wsX6_follow wsX6_pushRow := goodIn_r _ [50, 51, 34, 2, 52, 53, 24, 54, 55, 56, 57, 58, 59, 60, 82, 83, 84, 85, 86, 87, 88, 89, 90, 91, 92, 93, 72, 73, 74, 75, 76, 77, 78, 79, 80, 81] (by decide +kernel) (by decide +kernel)
set_option maxRecDepth 20000 in
theorem gX6_follow_X6_pushRow : GoodIn wsX6_follow (va_wsS RX6 107 yX6_pushRow wsX6_pushRow) := goodIn_app (goodIn_of _ (by decide +kernel)) ggX6_follow_X6_pushRow
set_option maxRecDepth 20000 in
theorem ggX6_follow_X2_beside : GoodIn wsX6_follow wsX2_beside := goodIn_r _ [60] (by decide +kernel) (by decide +kernel)
set_option maxRecDepth 20000 in
theorem gX6_follow_X2_beside : GoodIn wsX6_follow (va_wsS RX6 83 yX2_beside wsX2_beside) := goodIn_app (goodIn_of _ (by decide +kernel)) ggX6_follow_X2_beside
set_option maxRecDepth 20000 in
theorem ggX6_follow_J13_bitCount_95d88 : GoodIn wsX6_follow wsJ13_bitCount_95d88 := goodIn_r _ [64, 65, 66, 67] (by decide +kernel) (by decide +kernel)
set_option maxRecDepth 20000 in
theorem gX6_follow_J13_bitCount_95d88 : GoodIn wsX6_follow (va_wsS RX6 117 yJ13_bitCount_95d88 wsJ13_bitCount_95d88) := goodIn_app (goodIn_of _ (by decide +kernel)) ggX6_follow_J13_bitCount_95d88
set_option maxRecDepth 20000 in
theorem ggX6_follow_X4_comeToNextPlace : GoodIn wsX6_follow wsX4_comeToNextPlace := goodIn_r _ [71, 16, 15, 72, 73, 74, 75, 76, 77, 78, 79, 80, 81] (by decide +kernel) (by decide +kernel)
set_option maxRecDepth 20000 in
theorem gX6_follow_X4_comeToNextPlace : GoodIn wsX6_follow (wsV RX6 123 RX4 yX4_comeToNextPlace wsX4_comeToNextPlace) := goodIn_app (goodIn_of _ (by decide +kernel)) ggX6_follow_X4_comeToNextPlace
theorem dX6_follow_0 : decode cX6_follow 0 = .ok (.aload_n 1, 1) := by decide +kernel
theorem dX6_follow_1 : decode cX6_follow 1 = .ok (.invokevirtual 60, 3) := by decide +kernel
theorem dX6_follow_4 : decode cX6_follow 4 = .ok (.istore 5, 2) := by decide +kernel
theorem dX6_follow_6 : decode cX6_follow 6 = .ok (.iload 5, 2) := by decide +kernel
theorem dX6_follow_8 : decode cX6_follow 8 = .ok (.iconst (-1), 1) := by decide +kernel
theorem dX6_follow_9 : decode cX6_follow 9 = .ok (.if_icmp .ne 10, 3) := by decide +kernel
theorem dX6_follow_12 : decode cX6_follow 12 = .ok (.aload_n 1, 1) := by decide +kernel
theorem dX6_follow_13 : decode cX6_follow 13 = .ok (.invokevirtual 97, 3) := by decide +kernel
theorem dX6_follow_16 : decode cX6_follow 16 = .ok (.goto 76, 3) := by decide +kernel
theorem dX6_follow_19 : decode cX6_follow 19 = .ok (.lload_n 3, 1) := by decide +kernel
theorem dX6_follow_20 : decode cX6_follow 20 = .ok (.lconst 0, 1) := by decide +kernel
theorem dX6_follow_21 : decode cX6_follow 21 = .ok (.lcmp, 1) := by decide +kernel
theorem dX6_follow_22 : decode cX6_follow 22 = .ok (.ifCond .ne 16, 3) := by decide +kernel
theorem dX6_follow_25 : decode cX6_follow 25 = .ok (.aload_n 1, 1) := by decide +kernel
theorem dX6_follow_26 : decode cX6_follow 26 = .ok (.dup, 1) := by decide +kernel
theorem dX6_follow_27 : decode cX6_follow 27 = .ok (.getfield 100, 3) := by decide +kernel
theorem dX6_follow_30 : decode cX6_follow 30 = .ok (.iconst 1, 1) := by decide +kernel
theorem dX6_follow_31 : decode cX6_follow 31 = .ok (.iadd, 1) := by decide +kernel
theorem dX6_follow_32 : decode cX6_follow 32 = .ok (.putfield 100, 3) := by decide +kernel
theorem dX6_follow_35 : decode cX6_follow 35 = .ok (.goto 57, 3) := by decide +kernel
theorem dX6_follow_38 : decode cX6_follow 38 = .ok (.aload_n 0, 1) := by decide +kernel
theorem dX6_follow_39 : decode cX6_follow 39 = .ok (.aload_n 1, 1) := by decide +kernel
theorem dX6_follow_40 : decode cX6_follow 40 = .ok (.lload_n 3, 1) := by decide +kernel
theorem dX6_follow_41 : decode cX6_follow 41 = .ok (.invokestatic 103, 3) := by decide +kernel
theorem dX6_follow_44 : decode cX6_follow 44 = .ok (.lstore 6, 2) := by decide +kernel
theorem dX6_follow_46 : decode cX6_follow 46 = .ok (.aload_n 0, 1) := by decide +kernel
theorem dX6_follow_47 : decode cX6_follow 47 = .ok (.aload_n 2, 1) := by decide +kernel
theorem dX6_follow_48 : decode cX6_follow 48 = .ok (.lload 6, 2) := by decide +kernel
theorem dX6_follow_50 : decode cX6_follow 50 = .ok (.iload 5, 2) := by decide +kernel
theorem dX6_follow_52 : decode cX6_follow 52 = .ok (.invokestatic 107, 3) := by decide +kernel
theorem dX6_follow_55 : decode cX6_follow 55 = .ok (.aload_n 1, 1) := by decide +kernel
theorem dX6_follow_56 : decode cX6_follow 56 = .ok (.aload_n 1, 1) := by decide +kernel
theorem dX6_follow_57 : decode cX6_follow 57 = .ok (.getfield 66, 3) := by decide +kernel
theorem dX6_follow_60 : decode cX6_follow 60 = .ok (.iload 5, 2) := by decide +kernel
theorem dX6_follow_62 : decode cX6_follow 62 = .ok (.invokestatic 83, 3) := by decide +kernel
theorem dX6_follow_65 : decode cX6_follow 65 = .ok (.putfield 66, 3) := by decide +kernel
theorem dX6_follow_68 : decode cX6_follow 68 = .ok (.aload_n 1, 1) := by decide +kernel
theorem dX6_follow_69 : decode cX6_follow 69 = .ok (.dup, 1) := by decide +kernel
theorem dX6_follow_70 : decode cX6_follow 70 = .ok (.getfield 111, 3) := by decide +kernel
theorem dX6_follow_73 : decode cX6_follow 73 = .ok (.iconst 1, 1) := by decide +kernel
theorem dX6_follow_74 : decode cX6_follow 74 = .ok (.iadd, 1) := by decide +kernel
theorem dX6_follow_75 : decode cX6_follow 75 = .ok (.putfield 111, 3) := by decide +kernel
theorem dX6_follow_78 : decode cX6_follow 78 = .ok (.aload_n 1, 1) := by decide +kernel
theorem dX6_follow_79 : decode cX6_follow 79 = .ok (.dup, 1) := by decide +kernel
theorem dX6_follow_80 : decode cX6_follow 80 = .ok (.getfield 114, 3) := by decide +kernel
theorem dX6_follow_83 : decode cX6_follow 83 = .ok (.lload 6, 2) := by decide +kernel
theorem dX6_follow_85 : decode cX6_follow 85 = .ok (.invokestatic 117, 3) := by decide +kernel
theorem dX6_follow_88 : decode cX6_follow 88 = .ok (.iadd, 1) := by decide +kernel
theorem dX6_follow_89 : decode cX6_follow 89 = .ok (.putfield 114, 3) := by decide +kernel
theorem dX6_follow_92 : decode cX6_follow 92 = .ok (.aload_n 1, 1) := by decide +kernel
theorem dX6_follow_93 : decode cX6_follow 93 = .ok (.invokevirtual 123, 3) := by decide +kernel
theorem dX6_follow_96 : decode cX6_follow 96 = .ok (.return_, 1) := by decide +kernel
set_option maxRecDepth 20000 in
theorem ggX6_pushRow_X2_allBeside : GoodIn wsX6_pushRow wsX2_allBeside := goodIn_r _ [7] (by decide +kernel) (by decide +kernel)
set_option maxRecDepth 20000 in
theorem gX6_pushRow_X2_allBeside : GoodIn wsX6_pushRow (va_wsS RX6 130 yX2_allBeside wsX2_allBeside) := goodIn_app (goodIn_of _ (by decide +kernel)) ggX6_pushRow_X2_allBeside
set_option maxRecDepth 20000 in
theorem ggX6_pushRow_X2_holds : GoodIn wsX6_pushRow wsX2_holds := goodIn_r _ [10] (by decide +kernel) (by decide +kernel)
set_option maxRecDepth 20000 in
theorem gX6_pushRow_X2_holds : GoodIn wsX6_pushRow (va_wsS RX6 91 yX2_holds wsX2_holds) := goodIn_app (goodIn_of _ (by decide +kernel)) ggX6_pushRow_X2_holds
set_option maxRecDepth 20000 in
theorem ggX6_pushRow_X2_beside : GoodIn wsX6_pushRow wsX2_beside := goodIn_r _ [13] (by decide +kernel) (by decide +kernel)
set_option maxRecDepth 20000 in
theorem gX6_pushRow_X2_beside : GoodIn wsX6_pushRow (va_wsS RX6 83 yX2_beside wsX2_beside) := goodIn_app (goodIn_of _ (by decide +kernel)) ggX6_pushRow_X2_beside
theorem dX6_pushRow_0 : decode cX6_pushRow 0 = .ok (.aload_n 0, 1) := by decide +kernel
theorem dX6_pushRow_1 : decode cX6_pushRow 1 = .ok (.aload_n 0, 1) := by decide +kernel
theorem dX6_pushRow_2 : decode cX6_pushRow 2 = .ok (.getfield 126, 3) := by decide +kernel
theorem dX6_pushRow_5 : decode cX6_pushRow 5 = .ok (.lload_n 2, 1) := by decide +kernel
theorem dX6_pushRow_6 : decode cX6_pushRow 6 = .ok (.ldc2_w 95, 3) := by decide +kernel
theorem dX6_pushRow_9 : decode cX6_pushRow 9 = .ok (.lxor, 1) := by decide +kernel
theorem dX6_pushRow_10 : decode cX6_pushRow 10 = .ok (.land, 1) := by decide +kernel
theorem dX6_pushRow_11 : decode cX6_pushRow 11 = .ok (.aload_n 0, 1) := by decide +kernel
theorem dX6_pushRow_12 : decode cX6_pushRow 12 = .ok (.getfield 126, 3) := by decide +kernel
theorem dX6_pushRow_15 : decode cX6_pushRow 15 = .ok (.lload_n 2, 1) := by decide +kernel
theorem dX6_pushRow_16 : decode cX6_pushRow 16 = .ok (.land, 1) := by decide +kernel
theorem dX6_pushRow_17 : decode cX6_pushRow 17 = .ok (.iload 4, 2) := by decide +kernel
theorem dX6_pushRow_19 : decode cX6_pushRow 19 = .ok (.invokestatic 130, 3) := by decide +kernel
theorem dX6_pushRow_22 : decode cX6_pushRow 22 = .ok (.lor, 1) := by decide +kernel
theorem dX6_pushRow_23 : decode cX6_pushRow 23 = .ok (.putfield 126, 3) := by decide +kernel
theorem dX6_pushRow_26 : decode cX6_pushRow 26 = .ok (.lload_n 2, 1) := by decide +kernel
theorem dX6_pushRow_27 : decode cX6_pushRow 27 = .ok (.aload_n 1, 1) := by decide +kernel
theorem dX6_pushRow_28 : decode cX6_pushRow 28 = .ok (.getfield 66, 3) := by decide +kernel
theorem dX6_pushRow_31 : decode cX6_pushRow 31 = .ok (.invokestatic 91, 3) := by decide +kernel
theorem dX6_pushRow_34 : decode cX6_pushRow 34 = .ok (.ifCond .eq 16, 3) := by decide +kernel
theorem dX6_pushRow_37 : decode cX6_pushRow 37 = .ok (.aload_n 1, 1) := by decide +kernel
theorem dX6_pushRow_38 : decode cX6_pushRow 38 = .ok (.aload_n 1, 1) := by decide +kernel
theorem dX6_pushRow_39 : decode cX6_pushRow 39 = .ok (.getfield 66, 3) := by decide +kernel
theorem dX6_pushRow_42 : decode cX6_pushRow 42 = .ok (.iload 4, 2) := by decide +kernel
theorem dX6_pushRow_44 : decode cX6_pushRow 44 = .ok (.invokestatic 83, 3) := by decide +kernel
theorem dX6_pushRow_47 : decode cX6_pushRow 47 = .ok (.putfield 66, 3) := by decide +kernel
theorem dX6_pushRow_50 : decode cX6_pushRow 50 = .ok (.return_, 1) := by decide +kernel
set_option maxRecDepth 20000 in
theorem ggX6_beltTarget_X1_kindAt : GoodIn wsX6_beltTarget wsX1_kindAt := goodIn_r _ [5, 6, 11, 12, 13, 14, 15, 16, 17, 18, 19, 20, 21, 22] (by decide +kernel) (by decide +kernel)
set_option maxRecDepth 20000 in
theorem gX6_beltTarget_X1_kindAt : GoodIn wsX6_beltTarget (wsV RX6 87 RX1 yX1_kindAt wsX1_kindAt) := goodIn_app (goodIn_of _ (by decide +kernel)) ggX6_beltTarget_X1_kindAt
set_option maxRecDepth 20000 in
theorem ggX6_beltTarget_X2_beside : GoodIn wsX6_beltTarget wsX2_beside := goodIn_r _ [10] (by decide +kernel) (by decide +kernel)
set_option maxRecDepth 20000 in
theorem gX6_beltTarget_X2_beside : GoodIn wsX6_beltTarget (va_wsS RX6 83 yX2_beside wsX2_beside) := goodIn_app (goodIn_of _ (by decide +kernel)) ggX6_beltTarget_X2_beside
theorem dX6_beltTarget_0 : decode cX6_beltTarget 0 = .ok (.aload_n 0, 1) := by decide +kernel
theorem dX6_beltTarget_1 : decode cX6_beltTarget 1 = .ok (.iload_n 1, 1) := by decide +kernel
theorem dX6_beltTarget_2 : decode cX6_beltTarget 2 = .ok (.invokevirtual 87, 3) := by decide +kernel
theorem dX6_beltTarget_5 : decode cX6_beltTarget 5 = .ok (.iconst 3, 1) := by decide +kernel
theorem dX6_beltTarget_6 : decode cX6_beltTarget 6 = .ok (.isub, 1) := by decide +kernel
theorem dX6_beltTarget_7 : decode cX6_beltTarget 7 = .ok (.istore_n 2, 1) := by decide +kernel
theorem dX6_beltTarget_8 : decode cX6_beltTarget 8 = .ok (.iload_n 2, 1) := by decide +kernel
theorem dX6_beltTarget_9 : decode cX6_beltTarget 9 = .ok (.ifCond .ge 5, 3) := by decide +kernel
theorem dX6_beltTarget_12 : decode cX6_beltTarget 12 = .ok (.iconst (-1), 1) := by decide +kernel
theorem dX6_beltTarget_13 : decode cX6_beltTarget 13 = .ok (.ireturn, 1) := by decide +kernel
theorem dX6_beltTarget_14 : decode cX6_beltTarget 14 = .ok (.iload_n 1, 1) := by decide +kernel
theorem dX6_beltTarget_15 : decode cX6_beltTarget 15 = .ok (.iload_n 2, 1) := by decide +kernel
theorem dX6_beltTarget_16 : decode cX6_beltTarget 16 = .ok (.invokestatic 83, 3) := by decide +kernel
theorem dX6_beltTarget_19 : decode cX6_beltTarget 19 = .ok (.istore_n 3, 1) := by decide +kernel
theorem dX6_beltTarget_20 : decode cX6_beltTarget 20 = .ok (.aload_n 0, 1) := by decide +kernel
theorem dX6_beltTarget_21 : decode cX6_beltTarget 21 = .ok (.iload_n 3, 1) := by decide +kernel
theorem dX6_beltTarget_22 : decode cX6_beltTarget 22 = .ok (.invokevirtual 87, 3) := by decide +kernel
theorem dX6_beltTarget_25 : decode cX6_beltTarget 25 = .ok (.iconst 1, 1) := by decide +kernel
theorem dX6_beltTarget_26 : decode cX6_beltTarget 26 = .ok (.if_icmp .ne 7, 3) := by decide +kernel
theorem dX6_beltTarget_29 : decode cX6_beltTarget 29 = .ok (.iconst (-1), 1) := by decide +kernel
theorem dX6_beltTarget_30 : decode cX6_beltTarget 30 = .ok (.goto 4, 3) := by decide +kernel
theorem dX6_beltTarget_33 : decode cX6_beltTarget 33 = .ok (.iload_n 3, 1) := by decide +kernel
theorem dX6_beltTarget_34 : decode cX6_beltTarget 34 = .ok (.ireturn, 1) := by decide +kernel
set_option maxRecDepth 20000 in
theorem ggX6_carriedThings_X1_things : GoodIn wsX6_carriedThings wsX1_things := goodIn_r _ [7, 8, 9, 10, 11, 12, 13, 14, 15, 41, 42, 43, 44, 45, 46, 47, 48, 49, 50, 51, 52, 53, 54, 55, 56, 57, 58, 59, 60, 61, 62] (by decide +kernel) (by decide +kernel)
set_option maxRecDepth 20000 in
theorem gX6_carriedThings_X1_things : GoodIn wsX6_carriedThings (wsV RX6 73 RX1 yX1_things wsX1_things) := goodIn_app (goodIn_of _ (by decide +kernel)) ggX6_carriedThings_X1_things
set_option maxRecDepth 20000 in
theorem ggX6_carriedThings_X6_wantedTwice : GoodIn wsX6_carriedThings wsX6_wantedTwice := goodIn_r _ [19, 20, 21, 14, 22, 23, 24, 18, 25, 26, 27, 28, 6, 29, 30, 31, 32, 33, 34, 13, 15, 41, 42, 43, 44, 45, 46, 47, 48, 49, 50, 51, 52] (by decide +kernel) (by decide +kernel)
set_option maxRecDepth 20000 in
theorem gX6_carriedThings_X6_wantedTwice : GoodIn wsX6_carriedThings (va_wsS RX6 137 yX6_wantedTwice wsX6_wantedTwice) := goodIn_app (goodIn_of _ (by decide +kernel)) ggX6_carriedThings_X6_wantedTwice
set_option maxRecDepth 20000 in
theorem ggX6_carriedThings_X6_carriedIfUnhindered : GoodIn wsX6_carriedThings wsX6_carriedIfUnhindered := goodIn_r _ [37, 20, 21, 14, 22, 23, 24, 18, 25, 26, 27, 28, 6, 29, 30, 31, 32, 33, 34, 13, 15, 41, 42, 43, 44, 45, 46, 47, 48, 49, 50, 51, 52] (by decide +kernel) (by decide +kernel)
set_option maxRecDepth 20000 in
theorem gX6_carriedThings_X6_carriedIfUnhindered : GoodIn wsX6_carriedThings (va_wsS RX6 141 yX6_carriedIfUnhindered wsX6_carriedIfUnhindered) := goodIn_app (goodIn_of _ (by decide +kernel)) ggX6_carriedThings_X6_carriedIfUnhindered
set_option maxRecDepth 20000 in
theorem ggX6_carriedThings_X6_heldUp : GoodIn wsX6_carriedThings wsX6_heldUp := goodIn_r _ [40, 20, 21, 14, 22, 23, 24, 18, 25, 26, 27, 28, 6, 29, 30, 31, 32, 33, 34, 13, 15, 41, 42, 43, 44, 45, 46, 47, 48, 49, 50, 51, 52] (by decide +kernel) (by decide +kernel)
set_option maxRecDepth 20000 in
theorem gX6_carriedThings_X6_heldUp : GoodIn wsX6_carriedThings (va_wsS RX6 145 yX6_heldUp wsX6_heldUp) := goodIn_app (goodIn_of _ (by decide +kernel)) ggX6_carriedThings_X6_heldUp
theorem dX6_carriedThings_0 : decode cX6_carriedThings 0 = .ok (.aload_n 0, 1) := by decide +kernel
theorem dX6_carriedThings_1 : decode cX6_carriedThings 1 = .ok (.invokevirtual 73, 3) := by decide +kernel
theorem dX6_carriedThings_4 : decode cX6_carriedThings 4 = .ok (.lstore_n 1, 1) := by decide +kernel
theorem dX6_carriedThings_5 : decode cX6_carriedThings 5 = .ok (.lload_n 1, 1) := by decide +kernel
theorem dX6_carriedThings_6 : decode cX6_carriedThings 6 = .ok (.aload_n 0, 1) := by decide +kernel
theorem dX6_carriedThings_7 : decode cX6_carriedThings 7 = .ok (.getfield 134, 3) := by decide +kernel
theorem dX6_carriedThings_10 : decode cX6_carriedThings 10 = .ok (.land, 1) := by decide +kernel
theorem dX6_carriedThings_11 : decode cX6_carriedThings 11 = .ok (.lstore_n 3, 1) := by decide +kernel
theorem dX6_carriedThings_12 : decode cX6_carriedThings 12 = .ok (.aload_n 0, 1) := by decide +kernel
theorem dX6_carriedThings_13 : decode cX6_carriedThings 13 = .ok (.lload_n 3, 1) := by decide +kernel
theorem dX6_carriedThings_14 : decode cX6_carriedThings 14 = .ok (.aload_n 0, 1) := by decide +kernel
theorem dX6_carriedThings_15 : decode cX6_carriedThings 15 = .ok (.lload_n 3, 1) := by decide +kernel
theorem dX6_carriedThings_16 : decode cX6_carriedThings 16 = .ok (.invokestatic 137, 3) := by decide +kernel
theorem dX6_carriedThings_19 : decode cX6_carriedThings 19 = .ok (.invokestatic 141, 3) := by decide +kernel
theorem dX6_carriedThings_22 : decode cX6_carriedThings 22 = .ok (.lstore 5, 2) := by decide +kernel
theorem dX6_carriedThings_24 : decode cX6_carriedThings 24 = .ok (.iconst 0, 1) := by decide +kernel
theorem dX6_carriedThings_25 : decode cX6_carriedThings 25 = .ok (.istore 7, 2) := by decide +kernel
theorem dX6_carriedThings_27 : decode cX6_carriedThings 27 = .ok (.iload 7, 2) := by decide +kernel
theorem dX6_carriedThings_29 : decode cX6_carriedThings 29 = .ok (.bipush 36, 2) := by decide +kernel
theorem dX6_carriedThings_31 : decode cX6_carriedThings 31 = .ok (.if_icmp .ge 46, 3) := by decide +kernel
theorem dX6_carriedThings_34 : decode cX6_carriedThings 34 = .ok (.aload_n 0, 1) := by decide +kernel
theorem dX6_carriedThings_35 : decode cX6_carriedThings 35 = .ok (.lload 5, 2) := by decide +kernel
theorem dX6_carriedThings_37 : decode cX6_carriedThings 37 = .ok (.lload_n 1, 1) := by decide +kernel
theorem dX6_carriedThings_38 : decode cX6_carriedThings 38 = .ok (.lload 5, 2) := by decide +kernel
theorem dX6_carriedThings_40 : decode cX6_carriedThings 40 = .ok (.ldc2_w 95, 3) := by decide +kernel
theorem dX6_carriedThings_43 : decode cX6_carriedThings 43 = .ok (.lxor, 1) := by decide +kernel
theorem dX6_carriedThings_44 : decode cX6_carriedThings 44 = .ok (.land, 1) := by decide +kernel
theorem dX6_carriedThings_45 : decode cX6_carriedThings 45 = .ok (.invokestatic 145, 3) := by decide +kernel
theorem dX6_carriedThings_48 : decode cX6_carriedThings 48 = .ok (.lstore 8, 2) := by decide +kernel
theorem dX6_carriedThings_50 : decode cX6_carriedThings 50 = .ok (.lload 8, 2) := by decide +kernel
theorem dX6_carriedThings_52 : decode cX6_carriedThings 52 = .ok (.lconst 0, 1) := by decide +kernel
theorem dX6_carriedThings_53 : decode cX6_carriedThings 53 = .ok (.lcmp, 1) := by decide +kernel
theorem dX6_carriedThings_54 : decode cX6_carriedThings 54 = .ok (.ifCond .ne 6, 3) := by decide +kernel
theorem dX6_carriedThings_57 : decode cX6_carriedThings 57 = .ok (.lload 5, 2) := by decide +kernel
theorem dX6_carriedThings_59 : decode cX6_carriedThings 59 = .ok (.lreturn, 1) := by decide +kernel
theorem dX6_carriedThings_60 : decode cX6_carriedThings 60 = .ok (.lload 5, 2) := by decide +kernel
theorem dX6_carriedThings_62 : decode cX6_carriedThings 62 = .ok (.lload 8, 2) := by decide +kernel
theorem dX6_carriedThings_64 : decode cX6_carriedThings 64 = .ok (.ldc2_w 95, 3) := by decide +kernel
theorem dX6_carriedThings_67 : decode cX6_carriedThings 67 = .ok (.lxor, 1) := by decide +kernel
theorem dX6_carriedThings_68 : decode cX6_carriedThings 68 = .ok (.land, 1) := by decide +kernel
theorem dX6_carriedThings_69 : decode cX6_carriedThings 69 = .ok (.lstore 5, 2) := by decide +kernel
theorem dX6_carriedThings_71 : decode cX6_carriedThings 71 = .ok (.iinc 7 1, 3) := by decide +kernel
theorem dX6_carriedThings_74 : decode cX6_carriedThings 74 = .ok (.goto (-47), 3) := by decide +kernel
theorem dX6_carriedThings_77 : decode cX6_carriedThings 77 = .ok (.lload 5, 2) := by decide +kernel
theorem dX6_carriedThings_79 : decode cX6_carriedThings 79 = .ok (.lreturn, 1) := by decide +kernel
set_option maxRecDepth 20000 in
theorem ggX6_carriedIfUnhindered_X2_holds : GoodIn wsX6_carriedIfUnhindered wsX2_holds := goodIn_r _ [4] (by decide +kernel) (by decide +kernel)
set_option maxRecDepth 20000 in
theorem gX6_carriedIfUnhindered_X2_holds : GoodIn wsX6_carriedIfUnhindered (va_wsS RX6 91 yX2_holds wsX2_holds) := goodIn_app (goodIn_of _ (by decide +kernel)) ggX6_carriedIfUnhindered_X2_holds
set_option maxRecDepth 20000 in
theorem ggX6_carriedIfUnhindered_X6_beltTarget : GoodIn wsX6_carriedIfUnhindered wsX6_beltTarget := goodIn_r _ [8, 9, 10, 11, 12, 13, 14, 15, 16, 3, 17, 21, 22, 23, 24, 25, 26, 27, 28, 29, 30, 31, 32] (by decide +kernel) (by decide +kernel)
set_option maxRecDepth 20000 in
theorem gX6_carriedIfUnhindered_X6_beltTarget : GoodIn wsX6_carriedIfUnhindered (va_wsS RX6 148 yX6_beltTarget wsX6_beltTarget) := goodIn_app (goodIn_of _ (by decide +kernel)) ggX6_carriedIfUnhindered_X6_beltTarget
set_option maxRecDepth 20000 in
theorem ggX6_carriedIfUnhindered_X2_setOf : GoodIn wsX6_carriedIfUnhindered wsX2_setOf := goodIn_r _ [20] (by decide +kernel) (by decide +kernel)
set_option maxRecDepth 20000 in
theorem gX6_carriedIfUnhindered_X2_setOf : GoodIn wsX6_carriedIfUnhindered (va_wsS RX6 77 yX2_setOf wsX2_setOf) := goodIn_app (goodIn_of _ (by decide +kernel)) ggX6_carriedIfUnhindered_X2_setOf
theorem dX6_carriedIfUnhindered_0 : decode cX6_carriedIfUnhindered 0 = .ok (.lconst 0, 1) := by decide +kernel
theorem dX6_carriedIfUnhindered_1 : decode cX6_carriedIfUnhindered 1 = .ok (.lstore 5, 2) := by decide +kernel
theorem dX6_carriedIfUnhindered_3 : decode cX6_carriedIfUnhindered 3 = .ok (.iconst 0, 1) := by decide +kernel
theorem dX6_carriedIfUnhindered_4 : decode cX6_carriedIfUnhindered 4 = .ok (.istore 7, 2) := by decide +kernel
theorem dX6_carriedIfUnhindered_6 : decode cX6_carriedIfUnhindered 6 = .ok (.lload_n 1, 1) := by decide +kernel
theorem dX6_carriedIfUnhindered_7 : decode cX6_carriedIfUnhindered 7 = .ok (.lconst 0, 1) := by decide +kernel
theorem dX6_carriedIfUnhindered_8 : decode cX6_carriedIfUnhindered 8 = .ok (.lcmp, 1) := by decide +kernel
theorem dX6_carriedIfUnhindered_9 : decode cX6_carriedIfUnhindered 9 = .ok (.ifCond .eq 90, 3) := by decide +kernel
theorem dX6_carriedIfUnhindered_12 : decode cX6_carriedIfUnhindered 12 = .ok (.iload 7, 2) := by decide +kernel
theorem dX6_carriedIfUnhindered_14 : decode cX6_carriedIfUnhindered 14 = .ok (.bipush 36, 2) := by decide +kernel
theorem dX6_carriedIfUnhindered_16 : decode cX6_carriedIfUnhindered 16 = .ok (.if_icmp .ge 83, 3) := by decide +kernel
theorem dX6_carriedIfUnhindered_19 : decode cX6_carriedIfUnhindered 19 = .ok (.lload_n 1, 1) := by decide +kernel
theorem dX6_carriedIfUnhindered_20 : decode cX6_carriedIfUnhindered 20 = .ok (.iload 7, 2) := by decide +kernel
theorem dX6_carriedIfUnhindered_22 : decode cX6_carriedIfUnhindered 22 = .ok (.invokestatic 91, 3) := by decide +kernel
theorem dX6_carriedIfUnhindered_25 : decode cX6_carriedIfUnhindered 25 = .ok (.ifCond .eq 68, 3) := by decide +kernel
theorem dX6_carriedIfUnhindered_28 : decode cX6_carriedIfUnhindered 28 = .ok (.aload_n 0, 1) := by decide +kernel
theorem dX6_carriedIfUnhindered_29 : decode cX6_carriedIfUnhindered 29 = .ok (.iload 7, 2) := by decide +kernel
theorem dX6_carriedIfUnhindered_31 : decode cX6_carriedIfUnhindered 31 = .ok (.invokestatic 148, 3) := by decide +kernel
theorem dX6_carriedIfUnhindered_34 : decode cX6_carriedIfUnhindered 34 = .ok (.istore 8, 2) := by decide +kernel
theorem dX6_carriedIfUnhindered_36 : decode cX6_carriedIfUnhindered 36 = .ok (.lload_n 1, 1) := by decide +kernel
theorem dX6_carriedIfUnhindered_37 : decode cX6_carriedIfUnhindered 37 = .ok (.iload 8, 2) := by decide +kernel
theorem dX6_carriedIfUnhindered_39 : decode cX6_carriedIfUnhindered 39 = .ok (.invokestatic 91, 3) := by decide +kernel
theorem dX6_carriedIfUnhindered_42 : decode cX6_carriedIfUnhindered 42 = .ok (.ifCond .eq 18, 3) := by decide +kernel
theorem dX6_carriedIfUnhindered_45 : decode cX6_carriedIfUnhindered 45 = .ok (.aload_n 0, 1) := by decide +kernel
theorem dX6_carriedIfUnhindered_46 : decode cX6_carriedIfUnhindered 46 = .ok (.iload 8, 2) := by decide +kernel
theorem dX6_carriedIfUnhindered_48 : decode cX6_carriedIfUnhindered 48 = .ok (.invokestatic 148, 3) := by decide +kernel
theorem dX6_carriedIfUnhindered_51 : decode cX6_carriedIfUnhindered 51 = .ok (.iload 7, 2) := by decide +kernel
theorem dX6_carriedIfUnhindered_53 : decode cX6_carriedIfUnhindered 53 = .ok (.if_icmp .ne 7, 3) := by decide +kernel
theorem dX6_carriedIfUnhindered_56 : decode cX6_carriedIfUnhindered 56 = .ok (.iconst 1, 1) := by decide +kernel
theorem dX6_carriedIfUnhindered_57 : decode cX6_carriedIfUnhindered 57 = .ok (.goto 4, 3) := by decide +kernel
theorem dX6_carriedIfUnhindered_60 : decode cX6_carriedIfUnhindered 60 = .ok (.iconst 0, 1) := by decide +kernel
theorem dX6_carriedIfUnhindered_61 : decode cX6_carriedIfUnhindered 61 = .ok (.istore 9, 2) := by decide +kernel
theorem dX6_carriedIfUnhindered_63 : decode cX6_carriedIfUnhindered 63 = .ok (.iload 8, 2) := by decide +kernel
theorem dX6_carriedIfUnhindered_65 : decode cX6_carriedIfUnhindered 65 = .ok (.iconst (-1), 1) := by decide +kernel
theorem dX6_carriedIfUnhindered_66 : decode cX6_carriedIfUnhindered 66 = .ok (.if_icmp .eq 27, 3) := by decide +kernel
theorem dX6_carriedIfUnhindered_69 : decode cX6_carriedIfUnhindered 69 = .ok (.lload_n 3, 1) := by decide +kernel
theorem dX6_carriedIfUnhindered_70 : decode cX6_carriedIfUnhindered 70 = .ok (.iload 8, 2) := by decide +kernel
theorem dX6_carriedIfUnhindered_72 : decode cX6_carriedIfUnhindered 72 = .ok (.invokestatic 91, 3) := by decide +kernel
theorem dX6_carriedIfUnhindered_75 : decode cX6_carriedIfUnhindered 75 = .ok (.ifCond .ne 18, 3) := by decide +kernel
theorem dX6_carriedIfUnhindered_78 : decode cX6_carriedIfUnhindered 78 = .ok (.iload 9, 2) := by decide +kernel
theorem dX6_carriedIfUnhindered_80 : decode cX6_carriedIfUnhindered 80 = .ok (.ifCond .ne 13, 3) := by decide +kernel
theorem dX6_carriedIfUnhindered_83 : decode cX6_carriedIfUnhindered 83 = .ok (.lload 5, 2) := by decide +kernel
theorem dX6_carriedIfUnhindered_85 : decode cX6_carriedIfUnhindered 85 = .ok (.iload 7, 2) := by decide +kernel
theorem dX6_carriedIfUnhindered_87 : decode cX6_carriedIfUnhindered 87 = .ok (.invokestatic 77, 3) := by decide +kernel
theorem dX6_carriedIfUnhindered_90 : decode cX6_carriedIfUnhindered 90 = .ok (.lor, 1) := by decide +kernel
theorem dX6_carriedIfUnhindered_91 : decode cX6_carriedIfUnhindered 91 = .ok (.lstore 5, 2) := by decide +kernel
theorem dX6_carriedIfUnhindered_93 : decode cX6_carriedIfUnhindered 93 = .ok (.iinc 7 1, 3) := by decide +kernel
theorem dX6_carriedIfUnhindered_96 : decode cX6_carriedIfUnhindered 96 = .ok (.goto (-90), 3) := by decide +kernel
theorem dX6_carriedIfUnhindered_99 : decode cX6_carriedIfUnhindered 99 = .ok (.lload 5, 2) := by decide +kernel
theorem dX6_carriedIfUnhindered_101 : decode cX6_carriedIfUnhindered 101 = .ok (.lreturn, 1) := by decide +kernel
set_option maxRecDepth 20000 in
theorem ggX6_wantedTwice_X2_holds : GoodIn wsX6_wantedTwice wsX2_holds := goodIn_r _ [4] (by decide +kernel) (by decide +kernel)
set_option maxRecDepth 20000 in
theorem gX6_wantedTwice_X2_holds : GoodIn wsX6_wantedTwice (va_wsS RX6 91 yX2_holds wsX2_holds) := goodIn_app (goodIn_of _ (by decide +kernel)) ggX6_wantedTwice_X2_holds
set_option maxRecDepth 20000 in
theorem ggX6_wantedTwice_X6_beltTarget : GoodIn wsX6_wantedTwice wsX6_beltTarget := goodIn_r _ [8, 9, 10, 11, 12, 13, 14, 15, 16, 3, 17, 21, 22, 23, 24, 25, 26, 27, 28, 29, 30, 31, 32] (by decide +kernel) (by decide +kernel)
set_option maxRecDepth 20000 in
theorem gX6_wantedTwice_X6_beltTarget : GoodIn wsX6_wantedTwice (va_wsS RX6 148 yX6_beltTarget wsX6_beltTarget) := goodIn_app (goodIn_of _ (by decide +kernel)) ggX6_wantedTwice_X6_beltTarget
set_option maxRecDepth 20000 in
theorem ggX6_wantedTwice_X2_setOf : GoodIn wsX6_wantedTwice wsX2_setOf := goodIn_r _ [20] (by decide +kernel) (by decide +kernel)
set_option maxRecDepth 20000 in
theorem gX6_wantedTwice_X2_setOf : GoodIn wsX6_wantedTwice (va_wsS RX6 77 yX2_setOf wsX2_setOf) := goodIn_app (goodIn_of _ (by decide +kernel)) ggX6_wantedTwice_X2_setOf
theorem dX6_wantedTwice_0 : decode cX6_wantedTwice 0 = .ok (.lconst 0, 1) := by decide +kernel
theorem dX6_wantedTwice_1 : decode cX6_wantedTwice 1 = .ok (.lstore_n 3, 1) := by decide +kernel
theorem dX6_wantedTwice_2 : decode cX6_wantedTwice 2 = .ok (.lconst 0, 1) := by decide +kernel
theorem dX6_wantedTwice_3 : decode cX6_wantedTwice 3 = .ok (.lstore 5, 2) := by decide +kernel
theorem dX6_wantedTwice_5 : decode cX6_wantedTwice 5 = .ok (.iconst 0, 1) := by decide +kernel
theorem dX6_wantedTwice_6 : decode cX6_wantedTwice 6 = .ok (.istore 7, 2) := by decide +kernel
theorem dX6_wantedTwice_8 : decode cX6_wantedTwice 8 = .ok (.lload_n 1, 1) := by decide +kernel
theorem dX6_wantedTwice_9 : decode cX6_wantedTwice 9 = .ok (.lconst 0, 1) := by decide +kernel
theorem dX6_wantedTwice_10 : decode cX6_wantedTwice 10 = .ok (.lcmp, 1) := by decide +kernel
theorem dX6_wantedTwice_11 : decode cX6_wantedTwice 11 = .ok (.ifCond .eq 50, 3) := by decide +kernel
theorem dX6_wantedTwice_14 : decode cX6_wantedTwice 14 = .ok (.iload 7, 2) := by decide +kernel
theorem dX6_wantedTwice_16 : decode cX6_wantedTwice 16 = .ok (.bipush 36, 2) := by decide +kernel
theorem dX6_wantedTwice_18 : decode cX6_wantedTwice 18 = .ok (.if_icmp .ge 43, 3) := by decide +kernel
theorem dX6_wantedTwice_21 : decode cX6_wantedTwice 21 = .ok (.lload_n 1, 1) := by decide +kernel
theorem dX6_wantedTwice_22 : decode cX6_wantedTwice 22 = .ok (.iload 7, 2) := by decide +kernel
theorem dX6_wantedTwice_24 : decode cX6_wantedTwice 24 = .ok (.invokestatic 91, 3) := by decide +kernel
theorem dX6_wantedTwice_27 : decode cX6_wantedTwice 27 = .ok (.ifCond .eq 28, 3) := by decide +kernel
theorem dX6_wantedTwice_30 : decode cX6_wantedTwice 30 = .ok (.aload_n 0, 1) := by decide +kernel
theorem dX6_wantedTwice_31 : decode cX6_wantedTwice 31 = .ok (.iload 7, 2) := by decide +kernel
theorem dX6_wantedTwice_33 : decode cX6_wantedTwice 33 = .ok (.invokestatic 148, 3) := by decide +kernel
theorem dX6_wantedTwice_36 : decode cX6_wantedTwice 36 = .ok (.invokestatic 77, 3) := by decide +kernel
theorem dX6_wantedTwice_39 : decode cX6_wantedTwice 39 = .ok (.lstore 8, 2) := by decide +kernel
theorem dX6_wantedTwice_41 : decode cX6_wantedTwice 41 = .ok (.lload 5, 2) := by decide +kernel
theorem dX6_wantedTwice_43 : decode cX6_wantedTwice 43 = .ok (.lload_n 3, 1) := by decide +kernel
theorem dX6_wantedTwice_44 : decode cX6_wantedTwice 44 = .ok (.lload 8, 2) := by decide +kernel
theorem dX6_wantedTwice_46 : decode cX6_wantedTwice 46 = .ok (.land, 1) := by decide +kernel
theorem dX6_wantedTwice_47 : decode cX6_wantedTwice 47 = .ok (.lor, 1) := by decide +kernel
theorem dX6_wantedTwice_48 : decode cX6_wantedTwice 48 = .ok (.lstore 5, 2) := by decide +kernel
theorem dX6_wantedTwice_50 : decode cX6_wantedTwice 50 = .ok (.lload_n 3, 1) := by decide +kernel
theorem dX6_wantedTwice_51 : decode cX6_wantedTwice 51 = .ok (.lload 8, 2) := by decide +kernel
theorem dX6_wantedTwice_53 : decode cX6_wantedTwice 53 = .ok (.lor, 1) := by decide +kernel
theorem dX6_wantedTwice_54 : decode cX6_wantedTwice 54 = .ok (.lstore_n 3, 1) := by decide +kernel
theorem dX6_wantedTwice_55 : decode cX6_wantedTwice 55 = .ok (.iinc 7 1, 3) := by decide +kernel
theorem dX6_wantedTwice_58 : decode cX6_wantedTwice 58 = .ok (.goto (-50), 3) := by decide +kernel
theorem dX6_wantedTwice_61 : decode cX6_wantedTwice 61 = .ok (.lload 5, 2) := by decide +kernel
theorem dX6_wantedTwice_63 : decode cX6_wantedTwice 63 = .ok (.lreturn, 1) := by decide +kernel
set_option maxRecDepth 20000 in
theorem ggX6_heldUp_X2_holds : GoodIn wsX6_heldUp wsX2_holds := goodIn_r _ [4] (by decide +kernel) (by decide +kernel)
set_option maxRecDepth 20000 in
theorem gX6_heldUp_X2_holds : GoodIn wsX6_heldUp (va_wsS RX6 91 yX2_holds wsX2_holds) := goodIn_app (goodIn_of _ (by decide +kernel)) ggX6_heldUp_X2_holds
set_option maxRecDepth 20000 in
theorem ggX6_heldUp_X6_beltTarget : GoodIn wsX6_heldUp wsX6_beltTarget := goodIn_r _ [8, 9, 10, 11, 12, 13, 14, 15, 16, 3, 17, 21, 22, 23, 24, 25, 26, 27, 28, 29, 30, 31, 32] (by decide +kernel) (by decide +kernel)
set_option maxRecDepth 20000 in
theorem gX6_heldUp_X6_beltTarget : GoodIn wsX6_heldUp (va_wsS RX6 148 yX6_beltTarget wsX6_beltTarget) := goodIn_app (goodIn_of _ (by decide +kernel)) ggX6_heldUp_X6_beltTarget
set_option maxRecDepth 20000 in
theorem ggX6_heldUp_X2_setOf : GoodIn wsX6_heldUp wsX2_setOf := goodIn_r _ [20] (by decide +kernel) (by decide +kernel)
set_option maxRecDepth 20000 in
theorem gX6_heldUp_X2_setOf : GoodIn wsX6_heldUp (va_wsS RX6 77 yX2_setOf wsX2_setOf) := goodIn_app (goodIn_of _ (by decide +kernel)) ggX6_heldUp_X2_setOf
theorem dX6_heldUp_0 : decode cX6_heldUp 0 = .ok (.lconst 0, 1) := by decide +kernel
theorem dX6_heldUp_1 : decode cX6_heldUp 1 = .ok (.lstore 5, 2) := by decide +kernel
theorem dX6_heldUp_3 : decode cX6_heldUp 3 = .ok (.iconst 0, 1) := by decide +kernel
theorem dX6_heldUp_4 : decode cX6_heldUp 4 = .ok (.istore 7, 2) := by decide +kernel
theorem dX6_heldUp_6 : decode cX6_heldUp 6 = .ok (.lload_n 1, 1) := by decide +kernel
theorem dX6_heldUp_7 : decode cX6_heldUp 7 = .ok (.lconst 0, 1) := by decide +kernel
theorem dX6_heldUp_8 : decode cX6_heldUp 8 = .ok (.lcmp, 1) := by decide +kernel
theorem dX6_heldUp_9 : decode cX6_heldUp 9 = .ok (.ifCond .eq 48, 3) := by decide +kernel
theorem dX6_heldUp_12 : decode cX6_heldUp 12 = .ok (.iload 7, 2) := by decide +kernel
theorem dX6_heldUp_14 : decode cX6_heldUp 14 = .ok (.bipush 36, 2) := by decide +kernel
theorem dX6_heldUp_16 : decode cX6_heldUp 16 = .ok (.if_icmp .ge 41, 3) := by decide +kernel
theorem dX6_heldUp_19 : decode cX6_heldUp 19 = .ok (.lload_n 1, 1) := by decide +kernel
theorem dX6_heldUp_20 : decode cX6_heldUp 20 = .ok (.iload 7, 2) := by decide +kernel
theorem dX6_heldUp_22 : decode cX6_heldUp 22 = .ok (.invokestatic 91, 3) := by decide +kernel
theorem dX6_heldUp_25 : decode cX6_heldUp 25 = .ok (.ifCond .eq 26, 3) := by decide +kernel
theorem dX6_heldUp_28 : decode cX6_heldUp 28 = .ok (.lload_n 3, 1) := by decide +kernel
theorem dX6_heldUp_29 : decode cX6_heldUp 29 = .ok (.aload_n 0, 1) := by decide +kernel
theorem dX6_heldUp_30 : decode cX6_heldUp 30 = .ok (.iload 7, 2) := by decide +kernel
theorem dX6_heldUp_32 : decode cX6_heldUp 32 = .ok (.invokestatic 148, 3) := by decide +kernel
theorem dX6_heldUp_35 : decode cX6_heldUp 35 = .ok (.invokestatic 91, 3) := by decide +kernel
theorem dX6_heldUp_38 : decode cX6_heldUp 38 = .ok (.ifCond .eq 13, 3) := by decide +kernel
theorem dX6_heldUp_41 : decode cX6_heldUp 41 = .ok (.lload 5, 2) := by decide +kernel
theorem dX6_heldUp_43 : decode cX6_heldUp 43 = .ok (.iload 7, 2) := by decide +kernel
theorem dX6_heldUp_45 : decode cX6_heldUp 45 = .ok (.invokestatic 77, 3) := by decide +kernel
theorem dX6_heldUp_48 : decode cX6_heldUp 48 = .ok (.lor, 1) := by decide +kernel
theorem dX6_heldUp_49 : decode cX6_heldUp 49 = .ok (.lstore 5, 2) := by decide +kernel
theorem dX6_heldUp_51 : decode cX6_heldUp 51 = .ok (.iinc 7 1, 3) := by decide +kernel
theorem dX6_heldUp_54 : decode cX6_heldUp 54 = .ok (.goto (-48), 3) := by decide +kernel
theorem dX6_heldUp_57 : decode cX6_heldUp 57 = .ok (.lload 5, 2) := by decide +kernel
theorem dX6_heldUp_59 : decode cX6_heldUp 59 = .ok (.lreturn, 1) := by decide +kernel
set_option maxRecDepth 20000 in
theorem ggX6_carryAll_X2_holds : GoodIn wsX6_carryAll wsX2_holds := goodIn_r _ [8] (by decide +kernel) (by decide +kernel)
set_option maxRecDepth 20000 in
theorem gX6_carryAll_X2_holds : GoodIn wsX6_carryAll (va_wsS RX6 91 yX2_holds wsX2_holds) := goodIn_app (goodIn_of _ (by decide +kernel)) ggX6_carryAll_X2_holds
set_option maxRecDepth 20000 in
theorem ggX6_carryAll_X6_beltTarget : GoodIn wsX6_carryAll wsX6_beltTarget := goodIn_r _ [12, 13, 14, 15, 16, 17, 18, 19, 20, 7, 21, 29, 30, 31, 32, 33, 34, 35, 36, 37, 38, 39, 40] (by decide +kernel) (by decide +kernel)
set_option maxRecDepth 20000 in
theorem gX6_carryAll_X6_beltTarget : GoodIn wsX6_carryAll (va_wsS RX6 148 yX6_beltTarget wsX6_beltTarget) := goodIn_app (goodIn_of _ (by decide +kernel)) ggX6_carryAll_X6_beltTarget
set_option maxRecDepth 20000 in
theorem ggX6_carryAll_X2_setOf : GoodIn wsX6_carryAll wsX2_setOf := goodIn_r _ [24] (by decide +kernel) (by decide +kernel)
set_option maxRecDepth 20000 in
theorem gX6_carryAll_X2_setOf : GoodIn wsX6_carryAll (va_wsS RX6 77 yX2_setOf wsX2_setOf) := goodIn_app (goodIn_of _ (by decide +kernel)) ggX6_carryAll_X2_setOf
set_option maxRecDepth 20000 in
theorem ggX6_carryAll_X6_carryRobot : GoodIn wsX6_carryAll wsX6_carryRobot := goodIn_r _ [27, 28, 5, 6, 7, 8, 9, 10, 11, 12, 13, 14, 15, 16, 17, 18, 19, 20, 21, 41, 42, 43, 44, 45, 46, 47, 48, 49, 50, 29, 30, 31, 32, 33, 34, 35, 36, 37, 38, 39, 40] (by decide +kernel) (by decide +kernel)
set_option maxRecDepth 20000 in
theorem gX6_carryAll_X6_carryRobot : GoodIn wsX6_carryAll (va_wsS RX6 152 yX6_carryRobot wsX6_carryRobot) := goodIn_app (goodIn_of _ (by decide +kernel)) ggX6_carryAll_X6_carryRobot
theorem dX6_carryAll_0 : decode cX6_carryAll 0 = .ok (.aload_n 0, 1) := by decide +kernel
theorem dX6_carryAll_1 : decode cX6_carryAll 1 = .ok (.getfield 126, 3) := by decide +kernel
theorem dX6_carryAll_4 : decode cX6_carryAll 4 = .ok (.lload_n 1, 1) := by decide +kernel
theorem dX6_carryAll_5 : decode cX6_carryAll 5 = .ok (.ldc2_w 95, 3) := by decide +kernel
theorem dX6_carryAll_8 : decode cX6_carryAll 8 = .ok (.lxor, 1) := by decide +kernel
theorem dX6_carryAll_9 : decode cX6_carryAll 9 = .ok (.land, 1) := by decide +kernel
theorem dX6_carryAll_10 : decode cX6_carryAll 10 = .ok (.lstore_n 3, 1) := by decide +kernel
theorem dX6_carryAll_11 : decode cX6_carryAll 11 = .ok (.iconst 0, 1) := by decide +kernel
theorem dX6_carryAll_12 : decode cX6_carryAll 12 = .ok (.istore 5, 2) := by decide +kernel
theorem dX6_carryAll_14 : decode cX6_carryAll 14 = .ok (.lload_n 1, 1) := by decide +kernel
theorem dX6_carryAll_15 : decode cX6_carryAll 15 = .ok (.lconst 0, 1) := by decide +kernel
theorem dX6_carryAll_16 : decode cX6_carryAll 16 = .ok (.lcmp, 1) := by decide +kernel
theorem dX6_carryAll_17 : decode cX6_carryAll 17 = .ok (.ifCond .eq 42, 3) := by decide +kernel
theorem dX6_carryAll_20 : decode cX6_carryAll 20 = .ok (.iload 5, 2) := by decide +kernel
theorem dX6_carryAll_22 : decode cX6_carryAll 22 = .ok (.bipush 36, 2) := by decide +kernel
theorem dX6_carryAll_24 : decode cX6_carryAll 24 = .ok (.if_icmp .ge 35, 3) := by decide +kernel
theorem dX6_carryAll_27 : decode cX6_carryAll 27 = .ok (.aload_n 0, 1) := by decide +kernel
theorem dX6_carryAll_28 : decode cX6_carryAll 28 = .ok (.getfield 126, 3) := by decide +kernel
theorem dX6_carryAll_31 : decode cX6_carryAll 31 = .ok (.lload_n 1, 1) := by decide +kernel
theorem dX6_carryAll_32 : decode cX6_carryAll 32 = .ok (.land, 1) := by decide +kernel
theorem dX6_carryAll_33 : decode cX6_carryAll 33 = .ok (.iload 5, 2) := by decide +kernel
theorem dX6_carryAll_35 : decode cX6_carryAll 35 = .ok (.invokestatic 91, 3) := by decide +kernel
theorem dX6_carryAll_38 : decode cX6_carryAll 38 = .ok (.ifCond .eq 15, 3) := by decide +kernel
theorem dX6_carryAll_41 : decode cX6_carryAll 41 = .ok (.lload_n 3, 1) := by decide +kernel
theorem dX6_carryAll_42 : decode cX6_carryAll 42 = .ok (.aload_n 0, 1) := by decide +kernel
theorem dX6_carryAll_43 : decode cX6_carryAll 43 = .ok (.iload 5, 2) := by decide +kernel
theorem dX6_carryAll_45 : decode cX6_carryAll 45 = .ok (.invokestatic 148, 3) := by decide +kernel
theorem dX6_carryAll_48 : decode cX6_carryAll 48 = .ok (.invokestatic 77, 3) := by decide +kernel
theorem dX6_carryAll_51 : decode cX6_carryAll 51 = .ok (.lor, 1) := by decide +kernel
theorem dX6_carryAll_52 : decode cX6_carryAll 52 = .ok (.lstore_n 3, 1) := by decide +kernel
theorem dX6_carryAll_53 : decode cX6_carryAll 53 = .ok (.iinc 5 1, 3) := by decide +kernel
theorem dX6_carryAll_56 : decode cX6_carryAll 56 = .ok (.goto (-42), 3) := by decide +kernel
theorem dX6_carryAll_59 : decode cX6_carryAll 59 = .ok (.aload_n 0, 1) := by decide +kernel
theorem dX6_carryAll_60 : decode cX6_carryAll 60 = .ok (.lload_n 3, 1) := by decide +kernel
theorem dX6_carryAll_61 : decode cX6_carryAll 61 = .ok (.putfield 126, 3) := by decide +kernel
theorem dX6_carryAll_64 : decode cX6_carryAll 64 = .ok (.aload_n 0, 1) := by decide +kernel
theorem dX6_carryAll_65 : decode cX6_carryAll 65 = .ok (.aload_n 0, 1) := by decide +kernel
theorem dX6_carryAll_66 : decode cX6_carryAll 66 = .ok (.getfield 15, 3) := by decide +kernel
theorem dX6_carryAll_69 : decode cX6_carryAll 69 = .ok (.lload_n 1, 1) := by decide +kernel
theorem dX6_carryAll_70 : decode cX6_carryAll 70 = .ok (.invokestatic 152, 3) := by decide +kernel
theorem dX6_carryAll_73 : decode cX6_carryAll 73 = .ok (.aload_n 0, 1) := by decide +kernel
theorem dX6_carryAll_74 : decode cX6_carryAll 74 = .ok (.aload_n 0, 1) := by decide +kernel
theorem dX6_carryAll_75 : decode cX6_carryAll 75 = .ok (.getfield 25, 3) := by decide +kernel
theorem dX6_carryAll_78 : decode cX6_carryAll 78 = .ok (.lload_n 1, 1) := by decide +kernel
theorem dX6_carryAll_79 : decode cX6_carryAll 79 = .ok (.invokestatic 152, 3) := by decide +kernel
theorem dX6_carryAll_82 : decode cX6_carryAll 82 = .ok (.return_, 1) := by decide +kernel
set_option maxRecDepth 20000 in
theorem ggX6_carryRobot_X2_holds : GoodIn wsX6_carryRobot wsX2_holds := goodIn_r _ [5] (by decide +kernel) (by decide +kernel)
set_option maxRecDepth 20000 in
theorem gX6_carryRobot_X2_holds : GoodIn wsX6_carryRobot (va_wsS RX6 91 yX2_holds wsX2_holds) := goodIn_app (goodIn_of _ (by decide +kernel)) ggX6_carryRobot_X2_holds
set_option maxRecDepth 20000 in
theorem ggX6_carryRobot_X6_beltTarget : GoodIn wsX6_carryRobot wsX6_beltTarget := goodIn_r _ [9, 10, 11, 12, 13, 14, 15, 16, 17, 4, 18, 29, 30, 31, 32, 33, 34, 35, 36, 37, 38, 39, 40] (by decide +kernel) (by decide +kernel)
set_option maxRecDepth 20000 in
theorem gX6_carryRobot_X6_beltTarget : GoodIn wsX6_carryRobot (va_wsS RX6 148 yX6_beltTarget wsX6_beltTarget) := goodIn_app (goodIn_of _ (by decide +kernel)) ggX6_carryRobot_X6_beltTarget
theorem dX6_carryRobot_0 : decode cX6_carryRobot 0 = .ok (.lload_n 2, 1) := by decide +kernel
theorem dX6_carryRobot_1 : decode cX6_carryRobot 1 = .ok (.aload_n 1, 1) := by decide +kernel
theorem dX6_carryRobot_2 : decode cX6_carryRobot 2 = .ok (.getfield 66, 3) := by decide +kernel
theorem dX6_carryRobot_5 : decode cX6_carryRobot 5 = .ok (.invokestatic 91, 3) := by decide +kernel
theorem dX6_carryRobot_8 : decode cX6_carryRobot 8 = .ok (.ifCond .eq 15, 3) := by decide +kernel
theorem dX6_carryRobot_11 : decode cX6_carryRobot 11 = .ok (.aload_n 1, 1) := by decide +kernel
theorem dX6_carryRobot_12 : decode cX6_carryRobot 12 = .ok (.aload_n 0, 1) := by decide +kernel
theorem dX6_carryRobot_13 : decode cX6_carryRobot 13 = .ok (.aload_n 1, 1) := by decide +kernel
theorem dX6_carryRobot_14 : decode cX6_carryRobot 14 = .ok (.getfield 66, 3) := by decide +kernel
theorem dX6_carryRobot_17 : decode cX6_carryRobot 17 = .ok (.invokestatic 148, 3) := by decide +kernel
theorem dX6_carryRobot_20 : decode cX6_carryRobot 20 = .ok (.putfield 66, 3) := by decide +kernel
theorem dX6_carryRobot_23 : decode cX6_carryRobot 23 = .ok (.return_, 1) := by decide +kernel
set_option maxRecDepth 20000 in
theorem ggX6_loseCrates_J13_bitCount_95d88 : GoodIn wsX6_loseCrates wsJ13_bitCount_95d88 := goodIn_r _ [8, 9, 10, 11] (by decide +kernel) (by decide +kernel)
set_option maxRecDepth 20000 in
theorem gX6_loseCrates_J13_bitCount_95d88 : GoodIn wsX6_loseCrates (va_wsS RX6 117 yJ13_bitCount_95d88 wsJ13_bitCount_95d88) := goodIn_app (goodIn_of _ (by decide +kernel)) ggX6_loseCrates_J13_bitCount_95d88
theorem dX6_loseCrates_0 : decode cX6_loseCrates 0 = .ok (.aload_n 0, 1) := by decide +kernel
theorem dX6_loseCrates_1 : decode cX6_loseCrates 1 = .ok (.getfield 126, 3) := by decide +kernel
theorem dX6_loseCrates_4 : decode cX6_loseCrates 4 = .ok (.aload_n 0, 1) := by decide +kernel
theorem dX6_loseCrates_5 : decode cX6_loseCrates 5 = .ok (.getfield 156, 3) := by decide +kernel
theorem dX6_loseCrates_8 : decode cX6_loseCrates 8 = .ok (.land, 1) := by decide +kernel
theorem dX6_loseCrates_9 : decode cX6_loseCrates 9 = .ok (.lstore_n 1, 1) := by decide +kernel
theorem dX6_loseCrates_10 : decode cX6_loseCrates 10 = .ok (.aload_n 0, 1) := by decide +kernel
theorem dX6_loseCrates_11 : decode cX6_loseCrates 11 = .ok (.dup, 1) := by decide +kernel
theorem dX6_loseCrates_12 : decode cX6_loseCrates 12 = .ok (.getfield 126, 3) := by decide +kernel
theorem dX6_loseCrates_15 : decode cX6_loseCrates 15 = .ok (.lload_n 1, 1) := by decide +kernel
theorem dX6_loseCrates_16 : decode cX6_loseCrates 16 = .ok (.ldc2_w 95, 3) := by decide +kernel
theorem dX6_loseCrates_19 : decode cX6_loseCrates 19 = .ok (.lxor, 1) := by decide +kernel
theorem dX6_loseCrates_20 : decode cX6_loseCrates 20 = .ok (.land, 1) := by decide +kernel
theorem dX6_loseCrates_21 : decode cX6_loseCrates 21 = .ok (.putfield 126, 3) := by decide +kernel
theorem dX6_loseCrates_24 : decode cX6_loseCrates 24 = .ok (.aload_n 0, 1) := by decide +kernel
theorem dX6_loseCrates_25 : decode cX6_loseCrates 25 = .ok (.dup, 1) := by decide +kernel
theorem dX6_loseCrates_26 : decode cX6_loseCrates 26 = .ok (.getfield 159, 3) := by decide +kernel
theorem dX6_loseCrates_29 : decode cX6_loseCrates 29 = .ok (.lload_n 1, 1) := by decide +kernel
theorem dX6_loseCrates_30 : decode cX6_loseCrates 30 = .ok (.invokestatic 117, 3) := by decide +kernel
theorem dX6_loseCrates_33 : decode cX6_loseCrates 33 = .ok (.iadd, 1) := by decide +kernel
theorem dX6_loseCrates_34 : decode cX6_loseCrates 34 = .ok (.putfield 159, 3) := by decide +kernel
theorem dX6_loseCrates_37 : decode cX6_loseCrates 37 = .ok (.return_, 1) := by decide +kernel
set_option maxRecDepth 20000 in
theorem ggX6_letFall_X1_kindAt : GoodIn wsX6_letFall wsX1_kindAt := goodIn_r _ [8, 9, 40, 41, 42, 43, 44, 45, 46, 47, 48, 49, 50, 51] (by decide +kernel) (by decide +kernel)
set_option maxRecDepth 20000 in
theorem gX6_letFall_X1_kindAt : GoodIn wsX6_letFall (wsV RX6 87 RX1 yX1_kindAt wsX1_kindAt) := goodIn_app (goodIn_of _ (by decide +kernel)) ggX6_letFall_X1_kindAt
set_option maxRecDepth 20000 in
theorem ggX6_letFall_X1_lowestFreeCell : GoodIn wsX6_letFall wsX1_lowestFreeCell := goodIn_r _ [13, 14, 5, 6, 7, 8, 9, 15, 16, 17, 18, 19, 20, 21, 22, 23, 24, 25, 26, 27, 28, 29, 40, 41, 42, 43, 44, 45, 46, 47, 48, 49, 50, 51, 30, 31, 32, 33, 34, 35, 36, 37, 38, 39] (by decide +kernel) (by decide +kernel)
set_option maxRecDepth 20000 in
theorem gX6_letFall_X1_lowestFreeCell : GoodIn wsX6_letFall (wsV RX6 168 RX1 yX1_lowestFreeCell wsX1_lowestFreeCell) := goodIn_app (goodIn_of _ (by decide +kernel)) ggX6_letFall_X1_lowestFreeCell
theorem dX6_letFall_0 : decode cX6_letFall 0 = .ok (.aload_n 0, 1) := by decide +kernel
theorem dX6_letFall_1 : decode cX6_letFall 1 = .ok (.aload_n 1, 1) := by decide +kernel
theorem dX6_letFall_2 : decode cX6_letFall 2 = .ok (.getfield 66, 3) := by decide +kernel
theorem dX6_letFall_5 : decode cX6_letFall 5 = .ok (.invokevirtual 87, 3) := by decide +kernel
theorem dX6_letFall_8 : decode cX6_letFall 8 = .ok (.iconst 2, 1) := by decide +kernel
theorem dX6_letFall_9 : decode cX6_letFall 9 = .ok (.if_icmp .eq 4, 3) := by decide +kernel
theorem dX6_letFall_12 : decode cX6_letFall 12 = .ok (.return_, 1) := by decide +kernel
theorem dX6_letFall_13 : decode cX6_letFall 13 = .ok (.aload_n 1, 1) := by decide +kernel
theorem dX6_letFall_14 : decode cX6_letFall 14 = .ok (.dup, 1) := by decide +kernel
theorem dX6_letFall_15 : decode cX6_letFall 15 = .ok (.getfield 162, 3) := by decide +kernel
theorem dX6_letFall_18 : decode cX6_letFall 18 = .ok (.iconst 1, 1) := by decide +kernel
theorem dX6_letFall_19 : decode cX6_letFall 19 = .ok (.iadd, 1) := by decide +kernel
theorem dX6_letFall_20 : decode cX6_letFall 20 = .ok (.putfield 162, 3) := by decide +kernel
theorem dX6_letFall_23 : decode cX6_letFall 23 = .ok (.aload_n 1, 1) := by decide +kernel
theorem dX6_letFall_24 : decode cX6_letFall 24 = .ok (.iconst 0, 1) := by decide +kernel
theorem dX6_letFall_25 : decode cX6_letFall 25 = .ok (.putfield 165, 3) := by decide +kernel
theorem dX6_letFall_28 : decode cX6_letFall 28 = .ok (.aload_n 0, 1) := by decide +kernel
theorem dX6_letFall_29 : decode cX6_letFall 29 = .ok (.invokevirtual 168, 3) := by decide +kernel
theorem dX6_letFall_32 : decode cX6_letFall 32 = .ok (.istore_n 2, 1) := by decide +kernel
theorem dX6_letFall_33 : decode cX6_letFall 33 = .ok (.iload_n 2, 1) := by decide +kernel
theorem dX6_letFall_34 : decode cX6_letFall 34 = .ok (.iconst (-1), 1) := by decide +kernel
theorem dX6_letFall_35 : decode cX6_letFall 35 = .ok (.if_icmp .eq 8, 3) := by decide +kernel
theorem dX6_letFall_38 : decode cX6_letFall 38 = .ok (.aload_n 1, 1) := by decide +kernel
theorem dX6_letFall_39 : decode cX6_letFall 39 = .ok (.iload_n 2, 1) := by decide +kernel
theorem dX6_letFall_40 : decode cX6_letFall 40 = .ok (.putfield 66, 3) := by decide +kernel
theorem dX6_letFall_43 : decode cX6_letFall 43 = .ok (.return_, 1) := by decide +kernel
set_option maxRecDepth 20000 in
theorem ggX6_passCheckpoint_X1_checkpointCell : GoodIn wsX6_passCheckpoint wsX1_checkpointCell := goodIn_r _ [7, 8, 9, 20, 21, 22, 23, 24, 25, 26, 27, 28, 29, 30, 31] (by decide +kernel) (by decide +kernel)
set_option maxRecDepth 20000 in
theorem gX6_passCheckpoint_X1_checkpointCell : GoodIn wsX6_passCheckpoint (wsV RX6 174 RX1 yX1_checkpointCell wsX1_checkpointCell) := goodIn_app (goodIn_of _ (by decide +kernel)) ggX6_passCheckpoint_X1_checkpointCell
theorem dX6_passCheckpoint_0 : decode cX6_passCheckpoint 0 = .ok (.aload_n 0, 1) := by decide +kernel
theorem dX6_passCheckpoint_1 : decode cX6_passCheckpoint 1 = .ok (.aload_n 1, 1) := by decide +kernel
theorem dX6_passCheckpoint_2 : decode cX6_passCheckpoint 2 = .ok (.getfield 171, 3) := by decide +kernel
theorem dX6_passCheckpoint_5 : decode cX6_passCheckpoint 5 = .ok (.invokevirtual 174, 3) := by decide +kernel
theorem dX6_passCheckpoint_8 : decode cX6_passCheckpoint 8 = .ok (.aload_n 1, 1) := by decide +kernel
theorem dX6_passCheckpoint_9 : decode cX6_passCheckpoint 9 = .ok (.getfield 66, 3) := by decide +kernel
theorem dX6_passCheckpoint_12 : decode cX6_passCheckpoint 12 = .ok (.if_icmp .eq 5, 3) := by decide +kernel
theorem dX6_passCheckpoint_15 : decode cX6_passCheckpoint 15 = .ok (.iconst 0, 1) := by decide +kernel
theorem dX6_passCheckpoint_16 : decode cX6_passCheckpoint 16 = .ok (.ireturn, 1) := by decide +kernel
theorem dX6_passCheckpoint_17 : decode cX6_passCheckpoint 17 = .ok (.aload_n 1, 1) := by decide +kernel
theorem dX6_passCheckpoint_18 : decode cX6_passCheckpoint 18 = .ok (.dup, 1) := by decide +kernel
theorem dX6_passCheckpoint_19 : decode cX6_passCheckpoint 19 = .ok (.getfield 171, 3) := by decide +kernel
theorem dX6_passCheckpoint_22 : decode cX6_passCheckpoint 22 = .ok (.iconst 1, 1) := by decide +kernel
theorem dX6_passCheckpoint_23 : decode cX6_passCheckpoint 23 = .ok (.iadd, 1) := by decide +kernel
theorem dX6_passCheckpoint_24 : decode cX6_passCheckpoint 24 = .ok (.putfield 171, 3) := by decide +kernel
theorem dX6_passCheckpoint_27 : decode cX6_passCheckpoint 27 = .ok (.iconst 1, 1) := by decide +kernel
theorem dX6_passCheckpoint_28 : decode cX6_passCheckpoint 28 = .ok (.ireturn, 1) := by decide +kernel
theorem dJ13_bitCount_95d88_0 : decode cJ13_bitCount_95d88 0 = .ok (.lload_n 0, 1) := by decide +kernel
theorem dJ13_bitCount_95d88_1 : decode cJ13_bitCount_95d88 1 = .ok (.lload_n 0, 1) := by decide +kernel
theorem dJ13_bitCount_95d88_2 : decode cJ13_bitCount_95d88 2 = .ok (.iconst 1, 1) := by decide +kernel
theorem dJ13_bitCount_95d88_3 : decode cJ13_bitCount_95d88 3 = .ok (.lushr, 1) := by decide +kernel
theorem dJ13_bitCount_95d88_4 : decode cJ13_bitCount_95d88 4 = .ok (.ldc2_w 314, 3) := by decide +kernel
theorem dJ13_bitCount_95d88_7 : decode cJ13_bitCount_95d88 7 = .ok (.land, 1) := by decide +kernel
theorem dJ13_bitCount_95d88_8 : decode cJ13_bitCount_95d88 8 = .ok (.lsub, 1) := by decide +kernel
theorem dJ13_bitCount_95d88_9 : decode cJ13_bitCount_95d88 9 = .ok (.lstore_n 0, 1) := by decide +kernel
theorem dJ13_bitCount_95d88_10 : decode cJ13_bitCount_95d88 10 = .ok (.lload_n 0, 1) := by decide +kernel
theorem dJ13_bitCount_95d88_11 : decode cJ13_bitCount_95d88 11 = .ok (.ldc2_w 316, 3) := by decide +kernel
theorem dJ13_bitCount_95d88_14 : decode cJ13_bitCount_95d88 14 = .ok (.land, 1) := by decide +kernel
theorem dJ13_bitCount_95d88_15 : decode cJ13_bitCount_95d88 15 = .ok (.lload_n 0, 1) := by decide +kernel
theorem dJ13_bitCount_95d88_16 : decode cJ13_bitCount_95d88 16 = .ok (.iconst 2, 1) := by decide +kernel
theorem dJ13_bitCount_95d88_17 : decode cJ13_bitCount_95d88 17 = .ok (.lushr, 1) := by decide +kernel
theorem dJ13_bitCount_95d88_18 : decode cJ13_bitCount_95d88 18 = .ok (.ldc2_w 316, 3) := by decide +kernel
theorem dJ13_bitCount_95d88_21 : decode cJ13_bitCount_95d88 21 = .ok (.land, 1) := by decide +kernel
theorem dJ13_bitCount_95d88_22 : decode cJ13_bitCount_95d88 22 = .ok (.ladd, 1) := by decide +kernel
theorem dJ13_bitCount_95d88_23 : decode cJ13_bitCount_95d88 23 = .ok (.lstore_n 0, 1) := by decide +kernel
theorem dJ13_bitCount_95d88_24 : decode cJ13_bitCount_95d88 24 = .ok (.lload_n 0, 1) := by decide +kernel
theorem dJ13_bitCount_95d88_25 : decode cJ13_bitCount_95d88 25 = .ok (.lload_n 0, 1) := by decide +kernel
theorem dJ13_bitCount_95d88_26 : decode cJ13_bitCount_95d88 26 = .ok (.iconst 4, 1) := by decide +kernel
theorem dJ13_bitCount_95d88_27 : decode cJ13_bitCount_95d88 27 = .ok (.lushr, 1) := by decide +kernel
theorem dJ13_bitCount_95d88_28 : decode cJ13_bitCount_95d88 28 = .ok (.ladd, 1) := by decide +kernel
theorem dJ13_bitCount_95d88_29 : decode cJ13_bitCount_95d88 29 = .ok (.ldc2_w 318, 3) := by decide +kernel
theorem dJ13_bitCount_95d88_32 : decode cJ13_bitCount_95d88 32 = .ok (.land, 1) := by decide +kernel
theorem dJ13_bitCount_95d88_33 : decode cJ13_bitCount_95d88 33 = .ok (.lstore_n 0, 1) := by decide +kernel
theorem dJ13_bitCount_95d88_34 : decode cJ13_bitCount_95d88 34 = .ok (.lload_n 0, 1) := by decide +kernel
theorem dJ13_bitCount_95d88_35 : decode cJ13_bitCount_95d88 35 = .ok (.lload_n 0, 1) := by decide +kernel
theorem dJ13_bitCount_95d88_36 : decode cJ13_bitCount_95d88 36 = .ok (.bipush 8, 2) := by decide +kernel
theorem dJ13_bitCount_95d88_38 : decode cJ13_bitCount_95d88 38 = .ok (.lushr, 1) := by decide +kernel
theorem dJ13_bitCount_95d88_39 : decode cJ13_bitCount_95d88 39 = .ok (.ladd, 1) := by decide +kernel
theorem dJ13_bitCount_95d88_40 : decode cJ13_bitCount_95d88 40 = .ok (.lstore_n 0, 1) := by decide +kernel
theorem dJ13_bitCount_95d88_41 : decode cJ13_bitCount_95d88 41 = .ok (.lload_n 0, 1) := by decide +kernel
theorem dJ13_bitCount_95d88_42 : decode cJ13_bitCount_95d88 42 = .ok (.lload_n 0, 1) := by decide +kernel
theorem dJ13_bitCount_95d88_43 : decode cJ13_bitCount_95d88 43 = .ok (.bipush 16, 2) := by decide +kernel
theorem dJ13_bitCount_95d88_45 : decode cJ13_bitCount_95d88 45 = .ok (.lushr, 1) := by decide +kernel
theorem dJ13_bitCount_95d88_46 : decode cJ13_bitCount_95d88 46 = .ok (.ladd, 1) := by decide +kernel
theorem dJ13_bitCount_95d88_47 : decode cJ13_bitCount_95d88 47 = .ok (.lstore_n 0, 1) := by decide +kernel
theorem dJ13_bitCount_95d88_48 : decode cJ13_bitCount_95d88 48 = .ok (.lload_n 0, 1) := by decide +kernel
theorem dJ13_bitCount_95d88_49 : decode cJ13_bitCount_95d88 49 = .ok (.lload_n 0, 1) := by decide +kernel
theorem dJ13_bitCount_95d88_50 : decode cJ13_bitCount_95d88 50 = .ok (.bipush 32, 2) := by decide +kernel
theorem dJ13_bitCount_95d88_52 : decode cJ13_bitCount_95d88 52 = .ok (.lushr, 1) := by decide +kernel
theorem dJ13_bitCount_95d88_53 : decode cJ13_bitCount_95d88 53 = .ok (.ladd, 1) := by decide +kernel
theorem dJ13_bitCount_95d88_54 : decode cJ13_bitCount_95d88 54 = .ok (.lstore_n 0, 1) := by decide +kernel
theorem dJ13_bitCount_95d88_55 : decode cJ13_bitCount_95d88 55 = .ok (.lload_n 0, 1) := by decide +kernel
theorem dJ13_bitCount_95d88_56 : decode cJ13_bitCount_95d88 56 = .ok (.l2i, 1) := by decide +kernel
theorem dJ13_bitCount_95d88_57 : decode cJ13_bitCount_95d88 57 = .ok (.bipush 127, 2) := by decide +kernel
theorem dJ13_bitCount_95d88_59 : decode cJ13_bitCount_95d88 59 = .ok (.iand, 1) := by decide +kernel
theorem dJ13_bitCount_95d88_60 : decode cJ13_bitCount_95d88 60 = .ok (.ireturn, 1) := by decide +kernel
