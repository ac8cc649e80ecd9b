set_option maxRecDepth 20000 in
theorem ggX8_init_X7_init : GoodIn wsX8_init wsX7_init := goodIn_r _ [30, 31, 2, 3, 32, 33, 97, 98] (by decide +kernel) (by decide +kernel)
set_option maxRecDepth 20000 in
theorem gX8_init_X7_init_n11 : GoodIn wsX8_init (wsX7_init) := ggX8_init_X7_init
set_option maxRecDepth 20000 in
theorem ggX8_init_X1_init : GoodIn wsX8_init wsX1_init := goodIn_r _ [36, 37, 2, 3, 38, 39, 40, 41, 42, 43, 44, 45, 46, 47, 48, 49, 50, 51, 52, 10, 53, 54, 55, 56, 57, 58, 59, 60, 61, 62, 63, 64, 65, 66, 67, 68, 69, 70, 71, 72, 73, 74, 75, 76, 77, 78, 108, 109, 110, 111, 112, 113, 114, 115, 116, 117, 118, 119, 127, 128, 129, 130, 131, 132, 133, 134, 135, 136] (by decide +kernel) (by decide +kernel)
set_option maxRecDepth 20000 in
theorem gX8_init_X1_init : GoodIn wsX8_init (wsX1_init) := ggX8_init_X1_init
set_option maxRecDepth 20000 in
theorem ggX8_init_X3_init : GoodIn wsX8_init wsX3_init := goodIn_r _ [81, 82, 2, 3, 83, 84, 9, 10, 85, 35, 36, 37, 38, 39, 40, 41, 42, 43, 44, 45, 46, 47, 48, 49, 50, 51, 52, 53, 54, 55, 56, 57, 58, 59, 60, 61, 62, 63, 64, 65, 66, 67, 68, 69, 70, 71, 72, 73, 74, 75, 76, 77, 78, 120, 121, 122, 108, 109, 110, 111, 112, 113, 114, 115, 116, 117, 118, 119, 127, 128, 129, 130, 131, 132, 133, 134, 135, 136] (by decide +kernel) (by decide +kernel)
set_option maxRecDepth 20000 in
theorem gX8_init_X3_init : GoodIn wsX8_init (wsX3_init) := ggX8_init_X3_init
set_option maxRecDepth 20000 in
theorem ggX8_init_X5_init : GoodIn wsX8_init wsX5_init := goodIn_r _ [87, 88, 2, 3, 89, 9, 10, 90, 91, 35, 36, 37, 38, 39, 40, 41, 42, 43, 44, 45, 46, 47, 48, 49, 50, 51, 52, 53, 54, 55, 56, 57, 58, 59, 60, 61, 62, 63, 64, 65, 66, 67, 68, 69, 70, 71, 72, 73, 74, 75, 76, 77, 78, 108, 109, 110, 111, 112, 113, 114, 115, 116, 117, 118, 119, 123, 124, 127, 128, 129, 130, 131, 132, 133, 134, 135, 136] (by decide +kernel) (by decide +kernel)
set_option maxRecDepth 20000 in
theorem gX8_init_X5_init_n35 : GoodIn wsX8_init (wsX5_init) := ggX8_init_X5_init
set_option maxRecDepth 20000 in
theorem ggX8_init_X0_init : GoodIn wsX8_init wsX0_init := goodIn_r _ [93, 94, 2, 3, 38, 95, 96, 125, 126] (by decide +kernel) (by decide +kernel)
set_option maxRecDepth 20000 in
theorem gX8_init_X0_init_n45 : GoodIn wsX8_init (wsX0_init) := ggX8_init_X0_init
theorem dX8_init_0 : decode cX8_init 0 = .ok (.aload_n 0, 1) := by decide +kernel
theorem dX8_init_1 : decode cX8_init 1 = .ok (.invokespecial 3, 3) := by decide +kernel
theorem dX8_init_4 : decode cX8_init 4 = .ok (.aload_n 0, 1) := by decide +kernel
theorem dX8_init_5 : decode cX8_init 5 = .ok (.new 9, 3) := by decide +kernel
theorem dX8_init_8 : decode cX8_init 8 = .ok (.dup, 1) := by decide +kernel
theorem dX8_init_9 : decode cX8_init 9 = .ok (.invokespecial 11, 3) := by decide +kernel
theorem dX8_init_12 : decode cX8_init 12 = .ok (.putfield 12, 3) := by decide +kernel
theorem dX8_init_15 : decode cX8_init 15 = .ok (.aload_n 0, 1) := by decide +kernel
theorem dX8_init_16 : decode cX8_init 16 = .ok (.new 16, 3) := by decide +kernel
theorem dX8_init_19 : decode cX8_init 19 = .ok (.dup, 1) := by decide +kernel
theorem dX8_init_20 : decode cX8_init 20 = .ok (.invokespecial 18, 3) := by decide +kernel
theorem dX8_init_23 : decode cX8_init 23 = .ok (.putfield 19, 3) := by decide +kernel
theorem dX8_init_26 : decode cX8_init 26 = .ok (.aload_n 0, 1) := by decide +kernel
theorem dX8_init_27 : decode cX8_init 27 = .ok (.new 16, 3) := by decide +kernel
theorem dX8_init_30 : decode cX8_init 30 = .ok (.dup, 1) := by decide +kernel
theorem dX8_init_31 : decode cX8_init 31 = .ok (.invokespecial 18, 3) := by decide +kernel
theorem dX8_init_34 : decode cX8_init 34 = .ok (.putfield 23, 3) := by decide +kernel
theorem dX8_init_37 : decode cX8_init 37 = .ok (.aload_n 0, 1) := by decide +kernel
theorem dX8_init_38 : decode cX8_init 38 = .ok (.new 26, 3) := by decide +kernel
theorem dX8_init_41 : decode cX8_init 41 = .ok (.dup, 1) := by decide +kernel
theorem dX8_init_42 : decode cX8_init 42 = .ok (.invokespecial 28, 3) := by decide +kernel
theorem dX8_init_45 : decode cX8_init 45 = .ok (.putfield 29, 3) := by decide +kernel
theorem dX8_init_48 : decode cX8_init 48 = .ok (.aload_n 0, 1) := by decide +kernel
theorem dX8_init_49 : decode cX8_init 49 = .ok (.new 33, 3) := by decide +kernel
theorem dX8_init_52 : decode cX8_init 52 = .ok (.dup, 1) := by decide +kernel
theorem dX8_init_53 : decode cX8_init 53 = .ok (.invokespecial 35, 3) := by decide +kernel
theorem dX8_init_56 : decode cX8_init 56 = .ok (.putfield 36, 3) := by decide +kernel
theorem dX8_init_59 : decode cX8_init 59 = .ok (.aload_n 0, 1) := by decide +kernel
theorem dX8_init_60 : decode cX8_init 60 = .ok (.new 33, 3) := by decide +kernel
theorem dX8_init_63 : decode cX8_init 63 = .ok (.dup, 1) := by decide +kernel
theorem dX8_init_64 : decode cX8_init 64 = .ok (.invokespecial 35, 3) := by decide +kernel
theorem dX8_init_67 : decode cX8_init 67 = .ok (.putfield 40, 3) := by decide +kernel
theorem dX8_init_70 : decode cX8_init 70 = .ok (.aload_n 0, 1) := by decide +kernel
theorem dX8_init_71 : decode cX8_init 71 = .ok (.new 43, 3) := by decide +kernel
theorem dX8_init_74 : decode cX8_init 74 = .ok (.dup, 1) := by decide +kernel
theorem dX8_init_75 : decode cX8_init 75 = .ok (.invokespecial 45, 3) := by decide +kernel
theorem dX8_init_78 : decode cX8_init 78 = .ok (.putfield 46, 3) := by decide +kernel
theorem dX8_init_81 : decode cX8_init 81 = .ok (.aload_n 0, 1) := by decide +kernel
theorem dX8_init_82 : decode cX8_init 82 = .ok (.sipush 241, 3) := by decide +kernel
theorem dX8_init_85 : decode cX8_init 85 = .ok (.newarray .long, 2) := by decide +kernel
theorem dX8_init_87 : decode cX8_init 87 = .ok (.putfield 50, 3) := by decide +kernel
theorem dX8_init_90 : decode cX8_init 90 = .ok (.aload_n 0, 1) := by decide +kernel
theorem dX8_init_91 : decode cX8_init 91 = .ok (.sipush 241, 3) := by decide +kernel
theorem dX8_init_94 : decode cX8_init 94 = .ok (.newarray .long, 2) := by decide +kernel
theorem dX8_init_96 : decode cX8_init 96 = .ok (.putfield 54, 3) := by decide +kernel
theorem dX8_init_99 : decode cX8_init 99 = .ok (.return_, 1) := by decide +kernel
set_option maxRecDepth 20000 in
theorem ggX8_append_X7_add : GoodIn wsX8_append wsX7_add := goodIn_r _ [11, 12, 13, 23, 24] (by decide +kernel) (by decide +kernel)
set_option maxRecDepth 20000 in
theorem gX8_append_X7_add : GoodIn wsX8_append (wsV RX8 73 RX7 yX7_add wsX7_add) := goodIn_app (goodIn_of _ (by decide +kernel)) ggX8_append_X7_add
theorem dX8_append_0 : decode cX8_append 0 = .ok (.iload_n 1, 1) := by decide +kernel
theorem dX8_append_1 : decode cX8_append 1 = .ok (.ifCond .lt 10, 3) := by decide +kernel
theorem dX8_append_4 : decode cX8_append 4 = .ok (.iload_n 1, 1) := by decide +kernel
theorem dX8_append_5 : decode cX8_append 5 = .ok (.sipush 255, 3) := by decide +kernel
theorem dX8_append_8 : decode cX8_append 8 = .ok (.if_icmp .le 13, 3) := by decide +kernel
theorem dX8_append_11 : decode cX8_append 11 = .ok (.new 57, 3) := by decide +kernel
theorem dX8_append_14 : decode cX8_append 14 = .ok (.dup, 1) := by decide +kernel
theorem dX8_append_15 : decode cX8_append 15 = .ok (.ldc 59, 2) := by decide +kernel
theorem dX8_append_17 : decode cX8_append 17 = .ok (.invokespecial 61, 3) := by decide +kernel
theorem dX8_append_20 : decode cX8_append 20 = .ok (.athrow, 1) := by decide +kernel
theorem dX8_append_21 : decode cX8_append 21 = .ok (.aload_n 0, 1) := by decide +kernel
theorem dX8_append_22 : decode cX8_append 22 = .ok (.getfield 12, 3) := by decide +kernel
theorem dX8_append_25 : decode cX8_append 25 = .ok (.getfield 64, 3) := by decide +kernel
theorem dX8_append_28 : decode cX8_append 28 = .ok (.bipush 120, 2) := by decide +kernel
theorem dX8_append_30 : decode cX8_append 30 = .ok (.if_icmp .lt 13, 3) := by decide +kernel
theorem dX8_append_33 : decode cX8_append 33 = .ok (.new 68, 3) := by decide +kernel
theorem dX8_append_36 : decode cX8_append 36 = .ok (.dup, 1) := by decide +kernel
theorem dX8_append_37 : decode cX8_append 37 = .ok (.ldc 70, 2) := by decide +kernel
theorem dX8_append_39 : decode cX8_append 39 = .ok (.invokespecial 72, 3) := by decide +kernel
theorem dX8_append_42 : decode cX8_append 42 = .ok (.athrow, 1) := by decide +kernel
theorem dX8_append_43 : decode cX8_append 43 = .ok (.aload_n 0, 1) := by decide +kernel
theorem dX8_append_44 : decode cX8_append 44 = .ok (.getfield 12, 3) := by decide +kernel
theorem dX8_append_47 : decode cX8_append 47 = .ok (.iload_n 1, 1) := by decide +kernel
theorem dX8_append_48 : decode cX8_append 48 = .ok (.invokevirtual 73, 3) := by decide +kernel
theorem dX8_append_51 : decode cX8_append 51 = .ok (.aload_n 0, 1) := by decide +kernel
theorem dX8_append_52 : decode cX8_append 52 = .ok (.getfield 12, 3) := by decide +kernel
theorem dX8_append_55 : decode cX8_append 55 = .ok (.getfield 64, 3) := by decide +kernel
theorem dX8_append_58 : decode cX8_append 58 = .ok (.ireturn, 1) := by decide +kernel
theorem dX8_clearText_0 : decode cX8_clearText 0 = .ok (.aload_n 0, 1) := by decide +kernel
theorem dX8_clearText_1 : decode cX8_clearText 1 = .ok (.getfield 12, 3) := by decide +kernel
theorem dX8_clearText_4 : decode cX8_clearText 4 = .ok (.getfield 64, 3) := by decide +kernel
theorem dX8_clearText_7 : decode cX8_clearText 7 = .ok (.istore_n 1, 1) := by decide +kernel
theorem dX8_clearText_8 : decode cX8_clearText 8 = .ok (.aload_n 0, 1) := by decide +kernel
theorem dX8_clearText_9 : decode cX8_clearText 9 = .ok (.getfield 12, 3) := by decide +kernel
theorem dX8_clearText_12 : decode cX8_clearText 12 = .ok (.iconst 0, 1) := by decide +kernel
theorem dX8_clearText_13 : decode cX8_clearText 13 = .ok (.putfield 64, 3) := by decide +kernel
theorem dX8_clearText_16 : decode cX8_clearText 16 = .ok (.iload_n 1, 1) := by decide +kernel
theorem dX8_clearText_17 : decode cX8_clearText 17 = .ok (.ireturn, 1) := by decide +kernel
set_option maxRecDepth 20000 in
theorem ggX8_errorPosition_X7_firstError : GoodIn wsX8_errorPosition wsX7_firstError := goodIn_r _ [6, 7, 8, 9, 10, 5, 11, 12, 13, 14, 15, 16, 17, 18, 19, 20, 21, 22, 23, 24, 25, 26, 27, 28, 29, 30, 31, 32, 33, 34, 35, 36, 37, 38, 39, 40, 41, 42, 43, 44, 45, 46, 47, 57, 58] (by decide +kernel) (by decide +kernel)
set_option maxRecDepth 20000 in
theorem gX8_errorPosition_X7_firstError : GoodIn wsX8_errorPosition (wsV RX8 77 RX7 yX7_firstError wsX7_firstError) := goodIn_app (goodIn_of _ (by decide +kernel)) ggX8_errorPosition_X7_firstError
theorem dX8_errorPosition_0 : decode cX8_errorPosition 0 = .ok (.aload_n 0, 1) := by decide +kernel
theorem dX8_errorPosition_1 : decode cX8_errorPosition 1 = .ok (.getfield 12, 3) := by decide +kernel
theorem dX8_errorPosition_4 : decode cX8_errorPosition 4 = .ok (.invokevirtual 77, 3) := by decide +kernel
theorem dX8_errorPosition_7 : decode cX8_errorPosition 7 = .ok (.ireturn, 1) := by decide +kernel
set_option maxRecDepth 20000 in
theorem ggX8_load_X7_firstError : GoodIn wsX8_load wsX7_firstError := goodIn_r _ [14, 15, 16, 17, 18, 13, 19, 20, 21, 22, 23, 24, 25, 26, 27, 28, 29, 30, 31, 32, 33, 34, 35, 36, 37, 38, 39, 40, 41, 42, 43, 44, 45, 46, 47, 48, 49, 50, 51, 52, 53, 54, 55, 207, 208] (by decide +kernel) (by decide +kernel)
set_option maxRecDepth 20000 in
theorem gX8_load_X7_firstError : GoodIn wsX8_load (wsV RX8 77 RX7 yX7_firstError wsX7_firstError) := goodIn_app (goodIn_of _ (by decide +kernel)) ggX8_load_X7_firstError
set_option maxRecDepth 20000 in
theorem ggX8_load_X1_makeNew : GoodIn wsX8_load wsX1_makeNew := goodIn_r _ [60, 61, 62, 63, 64, 65, 66, 67, 68, 69, 70, 71, 72, 73, 74, 75, 76, 77, 78, 79, 80, 81, 82, 83, 84, 85, 86, 87, 88, 89, 209, 210, 211, 212, 213, 214, 215, 216, 217, 218, 219, 220, 221, 222, 223, 224, 225, 226, 227, 228, 229, 230] (by decide +kernel) (by decide +kernel)
set_option maxRecDepth 20000 in
theorem gX8_load_X1_makeNew : GoodIn wsX8_load (wsV RX8 83 RX1 yX1_makeNew wsX1_makeNew) := goodIn_app (goodIn_of _ (by decide +kernel)) ggX8_load_X1_makeNew
set_option maxRecDepth 20000 in
theorem ggX8_load_X7_giveTo : GoodIn wsX8_load wsX7_giveTo := goodIn_r _ [93, 15, 16, 17, 18, 13, 19, 20, 21, 22, 23, 94, 95, 96, 59, 97, 61, 65, 66, 98, 99, 100, 101, 102, 103, 104, 105, 64, 62, 106, 63, 107, 108, 109, 110, 111, 112, 113, 114, 115, 116, 117, 67, 118, 119, 120, 121, 122, 123, 124, 125, 126, 127, 128, 129, 130, 131, 132, 133, 134, 36, 37, 38, 39, 135, 136, 137, 138, 68, 139, 140, 141, 142, 143, 144, 145, 146, 147, 148, 149, 150, 151, 152, 153, 154, 155, 156, 157, 158, 159, 160, 161, 162, 163, 164, 165, 166, 167, 168, 169, 170, 171, 172, 173, 174, 175, 176, 177, 178, 179, 180, 181, 182, 183, 184, 185, 186, 187, 48, 49, 50, 51, 32, 33, 34, 35, 188, 189, 190, 75, 191, 89, 192, 52, 53, 54, 55, 207, 208, 209, 210, 211, 212, 213, 214, 215, 216, 217, 218, 219, 220, 221, 222, 223, 224, 225, 226, 227, 228, 229, 230] (by decide +kernel) (by decide +kernel)
set_option maxRecDepth 20000 in
theorem gX8_load_X7_giveTo : GoodIn wsX8_load (wsV RX8 93 RX7 yX7_giveTo wsX7_giveTo) := goodIn_app (goodIn_of _ (by decide +kernel)) ggX8_load_X7_giveTo
theorem dX8_load_0 : decode cX8_load 0 = .ok (.aload_n 0, 1) := by decide +kernel
theorem dX8_load_1 : decode cX8_load 1 = .ok (.getfield 12, 3) := by decide +kernel
theorem dX8_load_4 : decode cX8_load 4 = .ok (.invokevirtual 77, 3) := by decide +kernel
theorem dX8_load_7 : decode cX8_load 7 = .ok (.iconst (-1), 1) := by decide +kernel
theorem dX8_load_8 : decode cX8_load 8 = .ok (.if_icmp .eq 13, 3) := by decide +kernel
theorem dX8_load_11 : decode cX8_load 11 = .ok (.new 68, 3) := by decide +kernel
theorem dX8_load_14 : decode cX8_load 14 = .ok (.dup, 1) := by decide +kernel
theorem dX8_load_15 : decode cX8_load 15 = .ok (.ldc 81, 2) := by decide +kernel
theorem dX8_load_17 : decode cX8_load 17 = .ok (.invokespecial 72, 3) := by decide +kernel
theorem dX8_load_20 : decode cX8_load 20 = .ok (.athrow, 1) := by decide +kernel
theorem dX8_load_21 : decode cX8_load 21 = .ok (.aload_n 0, 1) := by decide +kernel
theorem dX8_load_22 : decode cX8_load 22 = .ok (.getfield 19, 3) := by decide +kernel
theorem dX8_load_25 : decode cX8_load 25 = .ok (.invokevirtual 83, 3) := by decide +kernel
theorem dX8_load_28 : decode cX8_load 28 = .ok (.aload_n 0, 1) := by decide +kernel
theorem dX8_load_29 : decode cX8_load 29 = .ok (.getfield 29, 3) := by decide +kernel
theorem dX8_load_32 : decode cX8_load 32 = .ok (.iconst 0, 1) := by decide +kernel
theorem dX8_load_33 : decode cX8_load 33 = .ok (.putfield 86, 3) := by decide +kernel
theorem dX8_load_36 : decode cX8_load 36 = .ok (.aload_n 0, 1) := by decide +kernel
theorem dX8_load_37 : decode cX8_load 37 = .ok (.getfield 36, 3) := by decide +kernel
theorem dX8_load_40 : decode cX8_load 40 = .ok (.iconst 0, 1) := by decide +kernel
theorem dX8_load_41 : decode cX8_load 41 = .ok (.putfield 89, 3) := by decide +kernel
theorem dX8_load_44 : decode cX8_load 44 = .ok (.aload_n 0, 1) := by decide +kernel
theorem dX8_load_45 : decode cX8_load 45 = .ok (.getfield 40, 3) := by decide +kernel
theorem dX8_load_48 : decode cX8_load 48 = .ok (.iconst 0, 1) := by decide +kernel
theorem dX8_load_49 : decode cX8_load 49 = .ok (.putfield 89, 3) := by decide +kernel
theorem dX8_load_52 : decode cX8_load 52 = .ok (.aload_n 0, 1) := by decide +kernel
theorem dX8_load_53 : decode cX8_load 53 = .ok (.getfield 12, 3) := by decide +kernel
theorem dX8_load_56 : decode cX8_load 56 = .ok (.aload_n 0, 1) := by decide +kernel
theorem dX8_load_57 : decode cX8_load 57 = .ok (.getfield 19, 3) := by decide +kernel
theorem dX8_load_60 : decode cX8_load 60 = .ok (.invokevirtual 93, 3) := by decide +kernel
theorem dX8_load_63 : decode cX8_load 63 = .ok (.ireturn, 1) := by decide +kernel
set_option maxRecDepth 20000 in
theorem ggX8_kindOf_X8_checkCell : GoodIn wsX8_kindOf wsX8_checkCell := goodIn_ca (goodIn_r _ [5, 6, 7] (by decide +kernel) (by decide +kernel)) (goodIn_sub (fun _ h => List.mem_cons_of_mem _ (List.mem_append_right _ h)) (by decide +kernel))
set_option maxRecDepth 20000 in
theorem gX8_kindOf_X8_checkCell : GoodIn wsX8_kindOf (va_wsS RX8 97 yX8_checkCell wsX8_checkCell) := goodIn_app (goodIn_of _ (by decide +kernel)) ggX8_kindOf_X8_checkCell
set_option maxRecDepth 20000 in
theorem ggX8_kindOf_X1_kindAt : GoodIn wsX8_kindOf wsX1_kindAt := goodIn_r _ [12, 13, 23, 24, 25, 26, 27, 28, 29, 30, 31, 32, 33, 34] (by decide +kernel) (by decide +kernel)
set_option maxRecDepth 20000 in
theorem gX8_kindOf_X1_kindAt : GoodIn wsX8_kindOf (wsV RX8 100 RX1 yX1_kindAt wsX1_kindAt) := goodIn_app (goodIn_of _ (by decide +kernel)) ggX8_kindOf_X1_kindAt
theorem dX8_kindOf_0 : decode cX8_kindOf 0 = .ok (.iload_n 1, 1) := by decide +kernel
theorem dX8_kindOf_1 : decode cX8_kindOf 1 = .ok (.invokestatic 97, 3) := by decide +kernel
theorem dX8_kindOf_4 : decode cX8_kindOf 4 = .ok (.aload_n 0, 1) := by decide +kernel
theorem dX8_kindOf_5 : decode cX8_kindOf 5 = .ok (.getfield 19, 3) := by decide +kernel
theorem dX8_kindOf_8 : decode cX8_kindOf 8 = .ok (.iload_n 1, 1) := by decide +kernel
theorem dX8_kindOf_9 : decode cX8_kindOf 9 = .ok (.invokevirtual 100, 3) := by decide +kernel
theorem dX8_kindOf_12 : decode cX8_kindOf 12 = .ok (.ireturn, 1) := by decide +kernel
set_option maxRecDepth 20000 in
theorem ggX8_hasCrate_X8_checkCell : GoodIn wsX8_hasCrate wsX8_checkCell := goodIn_ca (goodIn_r _ [6, 7, 8] (by decide +kernel) (by decide +kernel)) (goodIn_sub (fun _ h => List.mem_cons_of_mem _ (List.mem_append_right _ h)) (by decide +kernel))
set_option maxRecDepth 20000 in
theorem gX8_hasCrate_X8_checkCell : GoodIn wsX8_hasCrate (va_wsS RX8 97 yX8_checkCell wsX8_checkCell) := goodIn_app (goodIn_of _ (by decide +kernel)) ggX8_hasCrate_X8_checkCell
set_option maxRecDepth 20000 in
theorem ggX8_hasCrate_X2_holds : GoodIn wsX8_hasCrate wsX2_holds := goodIn_r _ [12] (by decide +kernel) (by decide +kernel)
set_option maxRecDepth 20000 in
theorem gX8_hasCrate_X2_holds : GoodIn wsX8_hasCrate (va_wsS RX8 108 yX2_holds wsX2_holds) := goodIn_app (goodIn_of _ (by decide +kernel)) ggX8_hasCrate_X2_holds
theorem dX8_hasCrate_0 : decode cX8_hasCrate 0 = .ok (.iload_n 1, 1) := by decide +kernel
theorem dX8_hasCrate_1 : decode cX8_hasCrate 1 = .ok (.invokestatic 97, 3) := by decide +kernel
theorem dX8_hasCrate_4 : decode cX8_hasCrate 4 = .ok (.aload_n 0, 1) := by decide +kernel
theorem dX8_hasCrate_5 : decode cX8_hasCrate 5 = .ok (.getfield 19, 3) := by decide +kernel
theorem dX8_hasCrate_8 : decode cX8_hasCrate 8 = .ok (.getfield 104, 3) := by decide +kernel
theorem dX8_hasCrate_11 : decode cX8_hasCrate 11 = .ok (.iload_n 1, 1) := by decide +kernel
theorem dX8_hasCrate_12 : decode cX8_hasCrate 12 = .ok (.invokestatic 108, 3) := by decide +kernel
theorem dX8_hasCrate_15 : decode cX8_hasCrate 15 = .ok (.ireturn, 1) := by decide +kernel
set_option maxRecDepth 20000 in
theorem ggX8_cratesByCells_X1_crateCount : GoodIn wsX8_cratesByCells wsX1_crateCount := goodIn_r _ [6, 7, 8, 9, 10, 11, 12, 13, 14, 24, 25, 26, 27, 28, 29, 30, 31, 32, 33, 34, 35] (by decide +kernel) (by decide +kernel)
set_option maxRecDepth 20000 in
theorem gX8_cratesByCells_X1_crateCount : GoodIn wsX8_cratesByCells (wsV RX8 114 RX1 yX1_crateCount wsX1_crateCount) := goodIn_app (goodIn_of _ (by decide +kernel)) ggX8_cratesByCells_X1_crateCount
theorem dX8_cratesByCells_0 : decode cX8_cratesByCells 0 = .ok (.aload_n 0, 1) := by decide +kernel
theorem dX8_cratesByCells_1 : decode cX8_cratesByCells 1 = .ok (.getfield 19, 3) := by decide +kernel
theorem dX8_cratesByCells_4 : decode cX8_cratesByCells 4 = .ok (.invokevirtual 114, 3) := by decide +kernel
theorem dX8_cratesByCells_7 : decode cX8_cratesByCells 7 = .ok (.ireturn, 1) := by decide +kernel
theorem dX8_cratesByAccounts_0 : decode cX8_cratesByAccounts 0 = .ok (.aload_n 0, 1) := by decide +kernel
theorem dX8_cratesByAccounts_1 : decode cX8_cratesByAccounts 1 = .ok (.getfield 19, 3) := by decide +kernel
theorem dX8_cratesByAccounts_4 : decode cX8_cratesByAccounts 4 = .ok (.getfield 117, 3) := by decide +kernel
theorem dX8_cratesByAccounts_7 : decode cX8_cratesByAccounts 7 = .ok (.aload_n 0, 1) := by decide +kernel
theorem dX8_cratesByAccounts_8 : decode cX8_cratesByAccounts 8 = .ok (.getfield 19, 3) := by decide +kernel
theorem dX8_cratesByAccounts_11 : decode cX8_cratesByAccounts 11 = .ok (.getfield 120, 3) := by decide +kernel
theorem dX8_cratesByAccounts_14 : decode cX8_cratesByAccounts 14 = .ok (.isub, 1) := by decide +kernel
theorem dX8_cratesByAccounts_15 : decode cX8_cratesByAccounts 15 = .ok (.aload_n 0, 1) := by decide +kernel
theorem dX8_cratesByAccounts_16 : decode cX8_cratesByAccounts 16 = .ok (.getfield 19, 3) := by decide +kernel
theorem dX8_cratesByAccounts_19 : decode cX8_cratesByAccounts 19 = .ok (.getfield 123, 3) := by decide +kernel
theorem dX8_cratesByAccounts_22 : decode cX8_cratesByAccounts 22 = .ok (.isub, 1) := by decide +kernel
theorem dX8_cratesByAccounts_23 : decode cX8_cratesByAccounts 23 = .ok (.ireturn, 1) := by decide +kernel
theorem dX8_lost_0 : decode cX8_lost 0 = .ok (.aload_n 0, 1) := by decide +kernel
theorem dX8_lost_1 : decode cX8_lost 1 = .ok (.getfield 19, 3) := by decide +kernel
theorem dX8_lost_4 : decode cX8_lost 4 = .ok (.getfield 123, 3) := by decide +kernel
theorem dX8_lost_7 : decode cX8_lost 7 = .ok (.ireturn, 1) := by decide +kernel
theorem dX8_checkpoints_0 : decode cX8_checkpoints 0 = .ok (.aload_n 0, 1) := by decide +kernel
theorem dX8_checkpoints_1 : decode cX8_checkpoints 1 = .ok (.getfield 19, 3) := by decide +kernel
theorem dX8_checkpoints_4 : decode cX8_checkpoints 4 = .ok (.getfield 126, 3) := by decide +kernel
theorem dX8_checkpoints_7 : decode cX8_checkpoints 7 = .ok (.ireturn, 1) := by decide +kernel
set_option maxRecDepth 20000 in
theorem ggX8_cellOfCheckpoint_X1_checkpointCell : GoodIn wsX8_cellOfCheckpoint wsX1_checkpointCell := goodIn_r _ [8, 9, 10, 20, 21, 22, 23, 24, 25, 26, 27, 28, 29, 30, 31] (by decide +kernel) (by decide +kernel)
set_option maxRecDepth 20000 in
theorem gX8_cellOfCheckpoint_X1_checkpointCell : GoodIn wsX8_cellOfCheckpoint (wsV RX8 129 RX1 yX1_checkpointCell wsX1_checkpointCell) := goodIn_app (goodIn_of _ (by decide +kernel)) ggX8_cellOfCheckpoint_X1_checkpointCell
theorem dX8_cellOfCheckpoint_0 : decode cX8_cellOfCheckpoint 0 = .ok (.aload_n 0, 1) := by decide +kernel
theorem dX8_cellOfCheckpoint_1 : decode cX8_cellOfCheckpoint 1 = .ok (.getfield 19, 3) := by decide +kernel
theorem dX8_cellOfCheckpoint_4 : decode cX8_cellOfCheckpoint 4 = .ok (.iload_n 1, 1) := by decide +kernel
theorem dX8_cellOfCheckpoint_5 : decode cX8_cellOfCheckpoint 5 = .ok (.invokevirtual 129, 3) := by decide +kernel
theorem dX8_cellOfCheckpoint_8 : decode cX8_cellOfCheckpoint 8 = .ok (.istore_n 2, 1) := by decide +kernel
theorem dX8_cellOfCheckpoint_9 : decode cX8_cellOfCheckpoint 9 = .ok (.iload_n 2, 1) := by decide +kernel
theorem dX8_cellOfCheckpoint_10 : decode cX8_cellOfCheckpoint 10 = .ok (.iconst (-1), 1) := by decide +kernel
theorem dX8_cellOfCheckpoint_11 : decode cX8_cellOfCheckpoint 11 = .ok (.if_icmp .ne 13, 3) := by decide +kernel
theorem dX8_cellOfCheckpoint_14 : decode cX8_cellOfCheckpoint 14 = .ok (.new 132, 3) := by decide +kernel
theorem dX8_cellOfCheckpoint_17 : decode cX8_cellOfCheckpoint 17 = .ok (.dup, 1) := by decide +kernel
theorem dX8_cellOfCheckpoint_18 : decode cX8_cellOfCheckpoint 18 = .ok (.ldc 134, 2) := by decide +kernel
theorem dX8_cellOfCheckpoint_20 : decode cX8_cellOfCheckpoint 20 = .ok (.invokespecial 136, 3) := by decide +kernel
theorem dX8_cellOfCheckpoint_23 : decode cX8_cellOfCheckpoint 23 = .ok (.athrow, 1) := by decide +kernel
theorem dX8_cellOfCheckpoint_24 : decode cX8_cellOfCheckpoint 24 = .ok (.iload_n 2, 1) := by decide +kernel
theorem dX8_cellOfCheckpoint_25 : decode cX8_cellOfCheckpoint 25 = .ok (.ireturn, 1) := by decide +kernel
set_option maxRecDepth 20000 in
theorem ggX8_cellOf_X8_checkRobot : GoodIn wsX8_cellOf wsX8_checkRobot := goodIn_ca (goodIn_r _ [6, 7, 8] (by decide +kernel) (by decide +kernel)) (goodIn_sub (fun _ h => List.mem_cons_of_mem _ (List.mem_append_right _ h)) (by decide +kernel))
set_option maxRecDepth 20000 in
theorem gX8_cellOf_X8_checkRobot : GoodIn wsX8_cellOf (va_wsS RX8 137 yX8_checkRobot wsX8_checkRobot) := goodIn_app (goodIn_of _ (by decide +kernel)) ggX8_cellOf_X8_checkRobot
set_option maxRecDepth 20000 in
theorem ggX8_cellOf_X1_robot : GoodIn wsX8_cellOf wsX1_robot := goodIn_r _ [13, 14, 15, 35, 36, 37, 38, 39, 40, 41, 42, 43, 44, 45, 46] (by decide +kernel) (by decide +kernel)
set_option maxRecDepth 20000 in
theorem gX8_cellOf_X1_robot : GoodIn wsX8_cellOf (wsV RX8 140 RX1 yX1_robot wsX1_robot) := goodIn_app (goodIn_of _ (by decide +kernel)) ggX8_cellOf_X1_robot
theorem dX8_cellOf_0 : decode cX8_cellOf 0 = .ok (.iload_n 1, 1) := by decide +kernel
theorem dX8_cellOf_1 : decode cX8_cellOf 1 = .ok (.invokestatic 137, 3) := by decide +kernel
theorem dX8_cellOf_4 : decode cX8_cellOf 4 = .ok (.aload_n 0, 1) := by decide +kernel
theorem dX8_cellOf_5 : decode cX8_cellOf 5 = .ok (.getfield 19, 3) := by decide +kernel
theorem dX8_cellOf_8 : decode cX8_cellOf 8 = .ok (.iload_n 1, 1) := by decide +kernel
theorem dX8_cellOf_9 : decode cX8_cellOf 9 = .ok (.invokevirtual 140, 3) := by decide +kernel
theorem dX8_cellOf_12 : decode cX8_cellOf 12 = .ok (.getfield 144, 3) := by decide +kernel
theorem dX8_cellOf_15 : decode cX8_cellOf 15 = .ok (.ireturn, 1) := by decide +kernel
set_option maxRecDepth 20000 in
theorem ggX8_facingOf_X8_checkRobot : GoodIn wsX8_facingOf wsX8_checkRobot := goodIn_ca (goodIn_r _ [6, 7, 8] (by decide +kernel) (by decide +kernel)) (goodIn_sub (fun _ h => List.mem_cons_of_mem _ (List.mem_append_right _ h)) (by decide +kernel))
set_option maxRecDepth 20000 in
theorem gX8_facingOf_X8_checkRobot : GoodIn wsX8_facingOf (va_wsS RX8 137 yX8_checkRobot wsX8_checkRobot) := goodIn_app (goodIn_of _ (by decide +kernel)) ggX8_facingOf_X8_checkRobot
set_option maxRecDepth 20000 in
theorem ggX8_facingOf_X1_robot : GoodIn wsX8_facingOf wsX1_robot := goodIn_r _ [13, 14, 15, 35, 36, 37, 38, 39, 40, 41, 42, 43, 44, 45, 46] (by decide +kernel) (by decide +kernel)
set_option maxRecDepth 20000 in
theorem gX8_facingOf_X1_robot : GoodIn wsX8_facingOf (wsV RX8 140 RX1 yX1_robot wsX1_robot) := goodIn_app (goodIn_of _ (by decide +kernel)) ggX8_facingOf_X1_robot
theorem dX8_facingOf_0 : decode cX8_facingOf 0 = .ok (.iload_n 1, 1) := by decide +kernel
theorem dX8_facingOf_1 : decode cX8_facingOf 1 = .ok (.invokestatic 137, 3) := by decide +kernel
theorem dX8_facingOf_4 : decode cX8_facingOf 4 = .ok (.aload_n 0, 1) := by decide +kernel
theorem dX8_facingOf_5 : decode cX8_facingOf 5 = .ok (.getfield 19, 3) := by decide +kernel
theorem dX8_facingOf_8 : decode cX8_facingOf 8 = .ok (.iload_n 1, 1) := by decide +kernel
theorem dX8_facingOf_9 : decode cX8_facingOf 9 = .ok (.invokevirtual 140, 3) := by decide +kernel
theorem dX8_facingOf_12 : decode cX8_facingOf 12 = .ok (.getfield 149, 3) := by decide +kernel
theorem dX8_facingOf_15 : decode cX8_facingOf 15 = .ok (.ireturn, 1) := by decide +kernel
set_option maxRecDepth 20000 in
theorem ggX8_nextOf_X8_checkRobot : GoodIn wsX8_nextOf wsX8_checkRobot := goodIn_ca (goodIn_r _ [6, 7, 8] (by decide +kernel) (by decide +kernel)) (goodIn_sub (fun _ h => List.mem_cons_of_mem _ (List.mem_append_right _ h)) (by decide +kernel))
set_option maxRecDepth 20000 in
theorem gX8_nextOf_X8_checkRobot : GoodIn wsX8_nextOf (va_wsS RX8 137 yX8_checkRobot wsX8_checkRobot) := goodIn_app (goodIn_of _ (by decide +kernel)) ggX8_nextOf_X8_checkRobot
set_option maxRecDepth 20000 in
theorem ggX8_nextOf_X1_robot : GoodIn wsX8_nextOf wsX1_robot := goodIn_r _ [13, 14, 15, 35, 36, 37, 38, 39, 40, 41, 42, 43, 44, 45, 46] (by decide +kernel) (by decide +kernel)
set_option maxRecDepth 20000 in
theorem gX8_nextOf_X1_robot : GoodIn wsX8_nextOf (wsV RX8 140 RX1 yX1_robot wsX1_robot) := goodIn_app (goodIn_of _ (by decide +kernel)) ggX8_nextOf_X1_robot
theorem dX8_nextOf_0 : decode cX8_nextOf 0 = .ok (.iload_n 1, 1) := by decide +kernel
theorem dX8_nextOf_1 : decode cX8_nextOf 1 = .ok (.invokestatic 137, 3) := by decide +kernel
theorem dX8_nextOf_4 : decode cX8_nextOf 4 = .ok (.aload_n 0, 1) := by decide +kernel
theorem dX8_nextOf_5 : decode cX8_nextOf 5 = .ok (.getfield 19, 3) := by decide +kernel
theorem dX8_nextOf_8 : decode cX8_nextOf 8 = .ok (.iload_n 1, 1) := by decide +kernel
theorem dX8_nextOf_9 : decode cX8_nextOf 9 = .ok (.invokevirtual 140, 3) := by decide +kernel
theorem dX8_nextOf_12 : decode cX8_nextOf 12 = .ok (.getfield 152, 3) := by decide +kernel
theorem dX8_nextOf_15 : decode cX8_nextOf 15 = .ok (.ireturn, 1) := by decide +kernel
set_option maxRecDepth 20000 in
theorem ggX8_isHome_X8_checkRobot : GoodIn wsX8_isHome wsX8_checkRobot := goodIn_ca (goodIn_r _ [7, 8, 9] (by decide +kernel) (by decide +kernel)) (goodIn_sub (fun _ h => List.mem_cons_of_mem _ (List.mem_append_right _ h)) (by decide +kernel))
set_option maxRecDepth 20000 in
theorem gX8_isHome_X8_checkRobot : GoodIn wsX8_isHome (va_wsS RX8 137 yX8_checkRobot wsX8_checkRobot) := goodIn_app (goodIn_of _ (by decide +kernel)) ggX8_isHome_X8_checkRobot
set_option maxRecDepth 20000 in
theorem ggX8_isHome_X1_robot : GoodIn wsX8_isHome wsX1_robot := goodIn_r _ [14, 15, 16, 26, 27, 28, 29, 30, 31, 32, 33, 34, 35, 36, 37] (by decide +kernel) (by decide +kernel)
set_option maxRecDepth 20000 in
theorem gX8_isHome_X1_robot : GoodIn wsX8_isHome (wsV RX8 140 RX1 yX1_robot wsX1_robot) := goodIn_app (goodIn_of _ (by decide +kernel)) ggX8_isHome_X1_robot
theorem dX8_isHome_0 : decode cX8_isHome 0 = .ok (.iload_n 1, 1) := by decide +kernel
theorem dX8_isHome_1 : decode cX8_isHome 1 = .ok (.invokestatic 137, 3) := by decide +kernel
theorem dX8_isHome_4 : decode cX8_isHome 4 = .ok (.aload_n 0, 1) := by decide +kernel
theorem dX8_isHome_5 : decode cX8_isHome 5 = .ok (.getfield 19, 3) := by decide +kernel
theorem dX8_isHome_8 : decode cX8_isHome 8 = .ok (.getfield 126, 3) := by decide +kernel
theorem dX8_isHome_11 : decode cX8_isHome 11 = .ok (.ifCond .le 28, 3) := by decide +kernel
theorem dX8_isHome_14 : decode cX8_isHome 14 = .ok (.aload_n 0, 1) := by decide +kernel
theorem dX8_isHome_15 : decode cX8_isHome 15 = .ok (.getfield 19, 3) := by decide +kernel
theorem dX8_isHome_18 : decode cX8_isHome 18 = .ok (.iload_n 1, 1) := by decide +kernel
theorem dX8_isHome_19 : decode cX8_isHome 19 = .ok (.invokevirtual 140, 3) := by decide +kernel
theorem dX8_isHome_22 : decode cX8_isHome 22 = .ok (.getfield 152, 3) := by decide +kernel
theorem dX8_isHome_25 : decode cX8_isHome 25 = .ok (.aload_n 0, 1) := by decide +kernel
theorem dX8_isHome_26 : decode cX8_isHome 26 = .ok (.getfield 19, 3) := by decide +kernel
theorem dX8_isHome_29 : decode cX8_isHome 29 = .ok (.getfield 126, 3) := by decide +kernel
theorem dX8_isHome_32 : decode cX8_isHome 32 = .ok (.if_icmp .le 7, 3) := by decide +kernel
theorem dX8_isHome_35 : decode cX8_isHome 35 = .ok (.iconst 1, 1) := by decide +kernel
theorem dX8_isHome_36 : decode cX8_isHome 36 = .ok (.goto 4, 3) := by decide +kernel
theorem dX8_isHome_39 : decode cX8_isHome 39 = .ok (.iconst 0, 1) := by decide +kernel
theorem dX8_isHome_40 : decode cX8_isHome 40 = .ok (.ireturn, 1) := by decide +kernel
set_option maxRecDepth 20000 in
theorem ggX8_movesOf_X8_checkRobot : GoodIn wsX8_movesOf wsX8_checkRobot := goodIn_ca (goodIn_r _ [6, 7, 8] (by decide +kernel) (by decide +kernel)) (goodIn_sub (fun _ h => List.mem_cons_of_mem _ (List.mem_append_right _ h)) (by decide +kernel))
set_option maxRecDepth 20000 in
theorem gX8_movesOf_X8_checkRobot : GoodIn wsX8_movesOf (va_wsS RX8 137 yX8_checkRobot wsX8_checkRobot) := goodIn_app (goodIn_of _ (by decide +kernel)) ggX8_movesOf_X8_checkRobot
set_option maxRecDepth 20000 in
theorem ggX8_movesOf_X1_robot : GoodIn wsX8_movesOf wsX1_robot := goodIn_r _ [13, 14, 15, 35, 36, 37, 38, 39, 40, 41, 42, 43, 44, 45, 46] (by decide +kernel) (by decide +kernel)
set_option maxRecDepth 20000 in
theorem gX8_movesOf_X1_robot : GoodIn wsX8_movesOf (wsV RX8 140 RX1 yX1_robot wsX1_robot) := goodIn_app (goodIn_of _ (by decide +kernel)) ggX8_movesOf_X1_robot
theorem dX8_movesOf_0 : decode cX8_movesOf 0 = .ok (.iload_n 1, 1) := by decide +kernel
theorem dX8_movesOf_1 : decode cX8_movesOf 1 = .ok (.invokestatic 137, 3) := by decide +kernel
theorem dX8_movesOf_4 : decode cX8_movesOf 4 = .ok (.aload_n 0, 1) := by decide +kernel
theorem dX8_movesOf_5 : decode cX8_movesOf 5 = .ok (.getfield 19, 3) := by decide +kernel
theorem dX8_movesOf_8 : decode cX8_movesOf 8 = .ok (.iload_n 1, 1) := by decide +kernel
theorem dX8_movesOf_9 : decode cX8_movesOf 9 = .ok (.invokevirtual 140, 3) := by decide +kernel
theorem dX8_movesOf_12 : decode cX8_movesOf 12 = .ok (.getfield 155, 3) := by decide +kernel
theorem dX8_movesOf_15 : decode cX8_movesOf 15 = .ok (.ireturn, 1) := by decide +kernel
set_option maxRecDepth 20000 in
theorem ggX8_bumpsOf_X8_checkRobot : GoodIn wsX8_bumpsOf wsX8_checkRobot := goodIn_ca (goodIn_r _ [6, 7, 8] (by decide +kernel) (by decide +kernel)) (goodIn_sub (fun _ h => List.mem_cons_of_mem _ (List.mem_append_right _ h)) (by decide +kernel))
set_option maxRecDepth 20000 in
theorem gX8_bumpsOf_X8_checkRobot : GoodIn wsX8_bumpsOf (va_wsS RX8 137 yX8_checkRobot wsX8_checkRobot) := goodIn_app (goodIn_of _ (by decide +kernel)) ggX8_bumpsOf_X8_checkRobot
set_option maxRecDepth 20000 in
theorem ggX8_bumpsOf_X1_robot : GoodIn wsX8_bumpsOf wsX1_robot := goodIn_r _ [13, 14, 15, 35, 36, 37, 38, 39, 40, 41, 42, 43, 44, 45, 46] (by decide +kernel) (by decide +kernel)
set_option maxRecDepth 20000 in
theorem gX8_bumpsOf_X1_robot : GoodIn wsX8_bumpsOf (wsV RX8 140 RX1 yX1_robot wsX1_robot) := goodIn_app (goodIn_of _ (by decide +kernel)) ggX8_bumpsOf_X1_robot
theorem dX8_bumpsOf_0 : decode cX8_bumpsOf 0 = .ok (.iload_n 1, 1) := by decide +kernel
theorem dX8_bumpsOf_1 : decode cX8_bumpsOf 1 = .ok (.invokestatic 137, 3) := by decide +kernel
theorem dX8_bumpsOf_4 : decode cX8_bumpsOf 4 = .ok (.aload_n 0, 1) := by decide +kernel
theorem dX8_bumpsOf_5 : decode cX8_bumpsOf 5 = .ok (.getfield 19, 3) := by decide +kernel
theorem dX8_bumpsOf_8 : decode cX8_bumpsOf 8 = .ok (.iload_n 1, 1) := by decide +kernel
theorem dX8_bumpsOf_9 : decode cX8_bumpsOf 9 = .ok (.invokevirtual 140, 3) := by decide +kernel
theorem dX8_bumpsOf_12 : decode cX8_bumpsOf 12 = .ok (.getfield 158, 3) := by decide +kernel
theorem dX8_bumpsOf_15 : decode cX8_bumpsOf 15 = .ok (.ireturn, 1) := by decide +kernel
set_option maxRecDepth 20000 in
theorem ggX8_pushesOf_X8_checkRobot : GoodIn wsX8_pushesOf wsX8_checkRobot := goodIn_ca (goodIn_r _ [6, 7, 8] (by decide +kernel) (by decide +kernel)) (goodIn_sub (fun _ h => List.mem_cons_of_mem _ (List.mem_append_right _ h)) (by decide +kernel))
set_option maxRecDepth 20000 in
theorem gX8_pushesOf_X8_checkRobot : GoodIn wsX8_pushesOf (va_wsS RX8 137 yX8_checkRobot wsX8_checkRobot) := goodIn_app (goodIn_of _ (by decide +kernel)) ggX8_pushesOf_X8_checkRobot
set_option maxRecDepth 20000 in
theorem ggX8_pushesOf_X1_robot : GoodIn wsX8_pushesOf wsX1_robot := goodIn_r _ [13, 14, 15, 35, 36, 37, 38, 39, 40, 41, 42, 43, 44, 45, 46] (by decide +kernel) (by decide +kernel)
set_option maxRecDepth 20000 in
theorem gX8_pushesOf_X1_robot : GoodIn wsX8_pushesOf (wsV RX8 140 RX1 yX1_robot wsX1_robot) := goodIn_app (goodIn_of _ (by decide +kernel)) ggX8_pushesOf_X1_robot
theorem dX8_pushesOf_0 : decode cX8_pushesOf 0 = .ok (.iload_n 1, 1) := by decide +kernel
theorem dX8_pushesOf_1 : decode cX8_pushesOf 1 = .ok (.invokestatic 137, 3) := by decide +kernel
theorem dX8_pushesOf_4 : decode cX8_pushesOf 4 = .ok (.aload_n 0, 1) := by decide +kernel
theorem dX8_pushesOf_5 : decode cX8_pushesOf 5 = .ok (.getfield 19, 3) := by decide +kernel
theorem dX8_pushesOf_8 : decode cX8_pushesOf 8 = .ok (.iload_n 1, 1) := by decide +kernel
theorem dX8_pushesOf_9 : decode cX8_pushesOf 9 = .ok (.invokevirtual 140, 3) := by decide +kernel
theorem dX8_pushesOf_12 : decode cX8_pushesOf 12 = .ok (.getfield 161, 3) := by decide +kernel
theorem dX8_pushesOf_15 : decode cX8_pushesOf 15 = .ok (.ireturn, 1) := by decide +kernel
set_option maxRecDepth 20000 in
theorem ggX8_fallsOf_X8_checkRobot : GoodIn wsX8_fallsOf wsX8_checkRobot := goodIn_ca (goodIn_r _ [6, 7, 8] (by decide +kernel) (by decide +kernel)) (goodIn_sub (fun _ h => List.mem_cons_of_mem _ (List.mem_append_right _ h)) (by decide +kernel))
set_option maxRecDepth 20000 in
theorem gX8_fallsOf_X8_checkRobot : GoodIn wsX8_fallsOf (va_wsS RX8 137 yX8_checkRobot wsX8_checkRobot) := goodIn_app (goodIn_of _ (by decide +kernel)) ggX8_fallsOf_X8_checkRobot
set_option maxRecDepth 20000 in
theorem ggX8_fallsOf_X1_robot : GoodIn wsX8_fallsOf wsX1_robot := goodIn_r _ [13, 14, 15, 35, 36, 37, 38, 39, 40, 41, 42, 43, 44, 45, 46] (by decide +kernel) (by decide +kernel)
set_option maxRecDepth 20000 in
theorem gX8_fallsOf_X1_robot : GoodIn wsX8_fallsOf (wsV RX8 140 RX1 yX1_robot wsX1_robot) := goodIn_app (goodIn_of _ (by decide +kernel)) ggX8_fallsOf_X1_robot
theorem dX8_fallsOf_0 : decode cX8_fallsOf 0 = .ok (.iload_n 1, 1) := by decide +kernel
theorem dX8_fallsOf_1 : decode cX8_fallsOf 1 = .ok (.invokestatic 137, 3) := by decide +kernel
theorem dX8_fallsOf_4 : decode cX8_fallsOf 4 = .ok (.aload_n 0, 1) := by decide +kernel
theorem dX8_fallsOf_5 : decode cX8_fallsOf 5 = .ok (.getfield 19, 3) := by decide +kernel
theorem dX8_fallsOf_8 : decode cX8_fallsOf 8 = .ok (.iload_n 1, 1) := by decide +kernel
theorem dX8_fallsOf_9 : decode cX8_fallsOf 9 = .ok (.invokevirtual 140, 3) := by decide +kernel
theorem dX8_fallsOf_12 : decode cX8_fallsOf 12 = .ok (.getfield 164, 3) := by decide +kernel
theorem dX8_fallsOf_15 : decode cX8_fallsOf 15 = .ok (.ireturn, 1) := by decide +kernel
theorem dX8_steps_0 : decode cX8_steps 0 = .ok (.aload_n 0, 1) := by decide +kernel
theorem dX8_steps_1 : decode cX8_steps 1 = .ok (.getfield 19, 3) := by decide +kernel
theorem dX8_steps_4 : decode cX8_steps 4 = .ok (.getfield 167, 3) := by decide +kernel
theorem dX8_steps_7 : decode cX8_steps 7 = .ok (.ireturn, 1) := by decide +kernel
set_option maxRecDepth 20000 in
theorem ggX8_lengthOf_X8_checkRobot : GoodIn wsX8_lengthOf wsX8_checkRobot := goodIn_ca (goodIn_r _ [6, 7, 8] (by decide +kernel) (by decide +kernel)) (goodIn_sub (fun _ h => List.mem_cons_of_mem _ (List.mem_append_right _ h)) (by decide +kernel))
set_option maxRecDepth 20000 in
theorem gX8_lengthOf_X8_checkRobot : GoodIn wsX8_lengthOf (va_wsS RX8 137 yX8_checkRobot wsX8_checkRobot) := goodIn_app (goodIn_of _ (by decide +kernel)) ggX8_lengthOf_X8_checkRobot
set_option maxRecDepth 20000 in
theorem ggX8_lengthOf_X1_robot : GoodIn wsX8_lengthOf wsX1_robot := goodIn_r _ [13, 14, 15, 35, 36, 37, 38, 39, 40, 41, 42, 43, 44, 45, 46] (by decide +kernel) (by decide +kernel)
set_option maxRecDepth 20000 in
theorem gX8_lengthOf_X1_robot : GoodIn wsX8_lengthOf (wsV RX8 140 RX1 yX1_robot wsX1_robot) := goodIn_app (goodIn_of _ (by decide +kernel)) ggX8_lengthOf_X1_robot
theorem dX8_lengthOf_0 : decode cX8_lengthOf 0 = .ok (.iload_n 1, 1) := by decide +kernel
theorem dX8_lengthOf_1 : decode cX8_lengthOf 1 = .ok (.invokestatic 137, 3) := by decide +kernel
theorem dX8_lengthOf_4 : decode cX8_lengthOf 4 = .ok (.aload_n 0, 1) := by decide +kernel
theorem dX8_lengthOf_5 : decode cX8_lengthOf 5 = .ok (.getfield 19, 3) := by decide +kernel
theorem dX8_lengthOf_8 : decode cX8_lengthOf 8 = .ok (.iload_n 1, 1) := by decide +kernel
theorem dX8_lengthOf_9 : decode cX8_lengthOf 9 = .ok (.invokevirtual 140, 3) := by decide +kernel
theorem dX8_lengthOf_12 : decode cX8_lengthOf 12 = .ok (.getfield 170, 3) := by decide +kernel
theorem dX8_lengthOf_15 : decode cX8_lengthOf 15 = .ok (.ireturn, 1) := by decide +kernel
set_option maxRecDepth 20000 in
theorem ggX8_instructionAt_X8_checkRobot : GoodIn wsX8_instructionAt wsX8_checkRobot := goodIn_ca (goodIn_r _ [7, 1, 2] (by decide +kernel) (by decide +kernel)) (goodIn_sub (fun _ h => List.mem_cons_of_mem _ (List.mem_append_right _ h)) (by decide +kernel))
set_option maxRecDepth 20000 in
theorem gX8_instructionAt_X8_checkRobot : GoodIn wsX8_instructionAt (va_wsS RX8 137 yX8_checkRobot wsX8_checkRobot) := goodIn_app (goodIn_of _ (by decide +kernel)) ggX8_instructionAt_X8_checkRobot
set_option maxRecDepth 20000 in
theorem ggX8_instructionAt_X1_robot : GoodIn wsX8_instructionAt wsX1_robot := goodIn_r _ [12, 13, 14, 31, 32, 33, 34, 35, 36, 37, 38, 39, 40, 41, 42] (by decide +kernel) (by decide +kernel)
set_option maxRecDepth 20000 in
theorem gX8_instructionAt_X1_robot : GoodIn wsX8_instructionAt (wsV RX8 140 RX1 yX1_robot wsX1_robot) := goodIn_app (goodIn_of _ (by decide +kernel)) ggX8_instructionAt_X1_robot
set_option maxRecDepth 20000 in
theorem ggX8_instructionAt_X4_instruction : GoodIn wsX8_instructionAt wsX4_instruction := goodIn_r _ [19, 20, 21, 43, 44, 45, 46, 47, 48, 49, 50, 51, 52] (by decide +kernel) (by decide +kernel)
set_option maxRecDepth 20000 in
theorem gX8_instructionAt_X4_instruction : GoodIn wsX8_instructionAt (wsV RX8 171 RX4 yX4_instruction wsX4_instruction) := goodIn_app (goodIn_of _ (by decide +kernel)) ggX8_instructionAt_X4_instruction
theorem dX8_instructionAt_0 : decode cX8_instructionAt 0 = .ok (.iload_n 1, 1) := by decide +kernel
theorem dX8_instructionAt_1 : decode cX8_instructionAt 1 = .ok (.invokestatic 137, 3) := by decide +kernel
theorem dX8_instructionAt_4 : decode cX8_instructionAt 4 = .ok (.aload_n 0, 1) := by decide +kernel
theorem dX8_instructionAt_5 : decode cX8_instructionAt 5 = .ok (.getfield 19, 3) := by decide +kernel
theorem dX8_instructionAt_8 : decode cX8_instructionAt 8 = .ok (.iload_n 1, 1) := by decide +kernel
theorem dX8_instructionAt_9 : decode cX8_instructionAt 9 = .ok (.invokevirtual 140, 3) := by decide +kernel
theorem dX8_instructionAt_12 : decode cX8_instructionAt 12 = .ok (.iload_n 2, 1) := by decide +kernel
theorem dX8_instructionAt_13 : decode cX8_instructionAt 13 = .ok (.invokevirtual 171, 3) := by decide +kernel
theorem dX8_instructionAt_16 : decode cX8_instructionAt 16 = .ok (.istore_n 3, 1) := by decide +kernel
theorem dX8_instructionAt_17 : decode cX8_instructionAt 17 = .ok (.iload_n 3, 1) := by decide +kernel
theorem dX8_instructionAt_18 : decode cX8_instructionAt 18 = .ok (.iconst (-1), 1) := by decide +kernel
theorem dX8_instructionAt_19 : decode cX8_instructionAt 19 = .ok (.if_icmp .ne 13, 3) := by decide +kernel
theorem dX8_instructionAt_22 : decode cX8_instructionAt 22 = .ok (.new 132, 3) := by decide +kernel
theorem dX8_instructionAt_25 : decode cX8_instructionAt 25 = .ok (.dup, 1) := by decide +kernel
theorem dX8_instructionAt_26 : decode cX8_instructionAt 26 = .ok (.ldc 174, 2) := by decide +kernel
theorem dX8_instructionAt_28 : decode cX8_instructionAt 28 = .ok (.invokespecial 136, 3) := by decide +kernel
theorem dX8_instructionAt_31 : decode cX8_instructionAt 31 = .ok (.athrow, 1) := by decide +kernel
theorem dX8_instructionAt_32 : decode cX8_instructionAt 32 = .ok (.iload_n 3, 1) := by decide +kernel
theorem dX8_instructionAt_33 : decode cX8_instructionAt 33 = .ok (.ireturn, 1) := by decide +kernel
set_option maxRecDepth 20000 in
theorem ggX8_placeOf_X8_checkRobot : GoodIn wsX8_placeOf wsX8_checkRobot := goodIn_ca (goodIn_r _ [6, 7, 8] (by decide +kernel) (by decide +kernel)) (goodIn_sub (fun _ h => List.mem_cons_of_mem _ (List.mem_append_right _ h)) (by decide +kernel))
set_option maxRecDepth 20000 in
theorem gX8_placeOf_X8_checkRobot : GoodIn wsX8_placeOf (va_wsS RX8 137 yX8_checkRobot wsX8_checkRobot) := goodIn_app (goodIn_of _ (by decide +kernel)) ggX8_placeOf_X8_checkRobot
set_option maxRecDepth 20000 in
theorem ggX8_placeOf_X1_robot : GoodIn wsX8_placeOf wsX1_robot := goodIn_r _ [13, 14, 15, 35, 36, 37, 38, 39, 40, 41, 42, 43, 44, 45, 46] (by decide +kernel) (by decide +kernel)
set_option maxRecDepth 20000 in
theorem gX8_placeOf_X1_robot : GoodIn wsX8_placeOf (wsV RX8 140 RX1 yX1_robot wsX1_robot) := goodIn_app (goodIn_of _ (by decide +kernel)) ggX8_placeOf_X1_robot
theorem dX8_placeOf_0 : decode cX8_placeOf 0 = .ok (.iload_n 1, 1) := by decide +kernel
theorem dX8_placeOf_1 : decode cX8_placeOf 1 = .ok (.invokestatic 137, 3) := by decide +kernel
theorem dX8_placeOf_4 : decode cX8_placeOf 4 = .ok (.aload_n 0, 1) := by decide +kernel
theorem dX8_placeOf_5 : decode cX8_placeOf 5 = .ok (.getfield 19, 3) := by decide +kernel
theorem dX8_placeOf_8 : decode cX8_placeOf 8 = .ok (.iload_n 1, 1) := by decide +kernel
theorem dX8_placeOf_9 : decode cX8_placeOf 9 = .ok (.invokevirtual 140, 3) := by decide +kernel
theorem dX8_placeOf_12 : decode cX8_placeOf 12 = .ok (.getfield 176, 3) := by decide +kernel
theorem dX8_placeOf_15 : decode cX8_placeOf 15 = .ok (.ireturn, 1) := by decide +kernel
set_option maxRecDepth 20000 in
theorem ggX8_setKind_X8_checkCell : GoodIn wsX8_setKind wsX8_checkCell := goodIn_ca (goodIn_r _ [10, 11, 12] (by decide +kernel) (by decide +kernel)) (goodIn_sub (fun _ h => List.mem_cons_of_mem _ (List.mem_append_right _ h)) (by decide +kernel))
set_option maxRecDepth 20000 in
theorem gX8_setKind_X8_checkCell : GoodIn wsX8_setKind (va_wsS RX8 97 yX8_checkCell wsX8_checkCell) := goodIn_app (goodIn_of _ (by decide +kernel)) ggX8_setKind_X8_checkCell
set_option maxRecDepth 20000 in
theorem ggX8_setKind_X1_refusesKind : GoodIn wsX8_setKind wsX1_refusesKind := goodIn_r _ [17, 18, 19, 20, 16, 21, 22, 23, 24, 25, 26, 27, 28, 29, 30, 31, 32, 33, 34, 35, 36, 37, 38, 39, 40, 41, 42, 107, 108, 109, 110, 111, 112, 113, 114, 115, 116, 117, 118, 119, 120, 121, 122, 123, 124, 125, 126, 127, 128] (by decide +kernel) (by decide +kernel)
set_option maxRecDepth 20000 in
theorem gX8_setKind_X1_refusesKind : GoodIn wsX8_setKind (wsV RX8 181 RX1 yX1_refusesKind wsX1_refusesKind) := goodIn_app (goodIn_of _ (by decide +kernel)) ggX8_setKind_X1_refusesKind
set_option maxRecDepth 20000 in
theorem ggX8_setKind_X3_remember : GoodIn wsX8_setKind wsX3_remember := goodIn_r _ [47, 48, 49, 50, 51, 52, 53, 54, 55, 56, 57, 46, 58, 59, 60, 61, 16, 62, 63, 42, 23, 25, 22, 64, 65, 37, 66, 67, 68, 69, 70, 71, 72, 73, 74, 75, 76, 77, 78, 79, 80, 81, 82, 83, 84, 129, 130, 131, 107, 108, 109, 110, 111, 112, 113, 114, 115, 116, 117, 118, 119, 120, 121, 122, 123, 124, 125, 126, 127, 128] (by decide +kernel) (by decide +kernel)
set_option maxRecDepth 20000 in
theorem gX8_setKind_X3_remember : GoodIn wsX8_setKind (wsV RX8 187 RX3 yX3_remember wsX3_remember) := goodIn_app (goodIn_of _ (by decide +kernel)) ggX8_setKind_X3_remember
set_option maxRecDepth 20000 in
theorem ggX8_setKind_X1_kindAt : GoodIn wsX8_setKind wsX1_kindAt := goodIn_r _ [88, 63, 107, 108, 109, 110, 111, 112, 113, 114, 115, 116, 117, 118] (by decide +kernel) (by decide +kernel)
set_option maxRecDepth 20000 in
theorem gX8_setKind_X1_kindAt : GoodIn wsX8_setKind (wsV RX8 100 RX1 yX1_kindAt wsX1_kindAt) := goodIn_app (goodIn_of _ (by decide +kernel)) ggX8_setKind_X1_kindAt
set_option maxRecDepth 20000 in
theorem ggX8_setKind_X1_giveKind : GoodIn wsX8_setKind wsX1_giveKind := goodIn_r _ [92, 63, 64, 65, 93, 14, 15, 16, 17, 18, 19, 20, 21, 22, 23, 24, 25, 26, 27, 28, 29, 30, 31, 32, 33, 34, 35, 36, 37, 38, 39, 40, 41, 42, 94, 95, 96, 97, 107, 108, 109, 110, 111, 112, 113, 114, 115, 116, 117, 118, 119, 120, 121, 122, 123, 124, 125, 126, 127, 128] (by decide +kernel) (by decide +kernel)
set_option maxRecDepth 20000 in
theorem gX8_setKind_X1_giveKind : GoodIn wsX8_setKind (wsV RX8 191 RX1 yX1_giveKind wsX1_giveKind) := goodIn_app (goodIn_of _ (by decide +kernel)) ggX8_setKind_X1_giveKind
theorem dX8_setKind_0 : decode cX8_setKind 0 = .ok (.iload_n 1, 1) := by decide +kernel
theorem dX8_setKind_1 : decode cX8_setKind 1 = .ok (.invokestatic 97, 3) := by decide +kernel
theorem dX8_setKind_4 : decode cX8_setKind 4 = .ok (.iload_n 2, 1) := by decide +kernel
theorem dX8_setKind_5 : decode cX8_setKind 5 = .ok (.ifCond .lt 9, 3) := by decide +kernel
theorem dX8_setKind_8 : decode cX8_setKind 8 = .ok (.iload_n 2, 1) := by decide +kernel
theorem dX8_setKind_9 : decode cX8_setKind 9 = .ok (.bipush 7, 2) := by decide +kernel
theorem dX8_setKind_11 : decode cX8_setKind 11 = .ok (.if_icmp .lt 13, 3) := by decide +kernel
theorem dX8_setKind_14 : decode cX8_setKind 14 = .ok (.new 57, 3) := by decide +kernel
theorem dX8_setKind_17 : decode cX8_setKind 17 = .ok (.dup, 1) := by decide +kernel
theorem dX8_setKind_18 : decode cX8_setKind 18 = .ok (.ldc 179, 2) := by decide +kernel
theorem dX8_setKind_20 : decode cX8_setKind 20 = .ok (.invokespecial 61, 3) := by decide +kernel
theorem dX8_setKind_23 : decode cX8_setKind 23 = .ok (.athrow, 1) := by decide +kernel
theorem dX8_setKind_24 : decode cX8_setKind 24 = .ok (.aload_n 0, 1) := by decide +kernel
theorem dX8_setKind_25 : decode cX8_setKind 25 = .ok (.getfield 19, 3) := by decide +kernel
theorem dX8_setKind_28 : decode cX8_setKind 28 = .ok (.iload_n 1, 1) := by decide +kernel
theorem dX8_setKind_29 : decode cX8_setKind 29 = .ok (.iload_n 2, 1) := by decide +kernel
theorem dX8_setKind_30 : decode cX8_setKind 30 = .ok (.invokevirtual 181, 3) := by decide +kernel
theorem dX8_setKind_33 : decode cX8_setKind 33 = .ok (.ifCond .eq 13, 3) := by decide +kernel
theorem dX8_setKind_36 : decode cX8_setKind 36 = .ok (.new 68, 3) := by decide +kernel
theorem dX8_setKind_39 : decode cX8_setKind 39 = .ok (.dup, 1) := by decide +kernel
theorem dX8_setKind_40 : decode cX8_setKind 40 = .ok (.ldc 185, 2) := by decide +kernel
theorem dX8_setKind_42 : decode cX8_setKind 42 = .ok (.invokespecial 72, 3) := by decide +kernel
theorem dX8_setKind_45 : decode cX8_setKind 45 = .ok (.athrow, 1) := by decide +kernel
theorem dX8_setKind_46 : decode cX8_setKind 46 = .ok (.aload_n 0, 1) := by decide +kernel
theorem dX8_setKind_47 : decode cX8_setKind 47 = .ok (.getfield 29, 3) := by decide +kernel
theorem dX8_setKind_50 : decode cX8_setKind 50 = .ok (.aload_n 0, 1) := by decide +kernel
theorem dX8_setKind_51 : decode cX8_setKind 51 = .ok (.getfield 19, 3) := by decide +kernel
theorem dX8_setKind_54 : decode cX8_setKind 54 = .ok (.invokevirtual 187, 3) := by decide +kernel
theorem dX8_setKind_57 : decode cX8_setKind 57 = .ok (.aload_n 0, 1) := by decide +kernel
theorem dX8_setKind_58 : decode cX8_setKind 58 = .ok (.getfield 19, 3) := by decide +kernel
theorem dX8_setKind_61 : decode cX8_setKind 61 = .ok (.iload_n 1, 1) := by decide +kernel
theorem dX8_setKind_62 : decode cX8_setKind 62 = .ok (.invokevirtual 100, 3) := by decide +kernel
theorem dX8_setKind_65 : decode cX8_setKind 65 = .ok (.istore_n 3, 1) := by decide +kernel
theorem dX8_setKind_66 : decode cX8_setKind 66 = .ok (.aload_n 0, 1) := by decide +kernel
theorem dX8_setKind_67 : decode cX8_setKind 67 = .ok (.getfield 19, 3) := by decide +kernel
theorem dX8_setKind_70 : decode cX8_setKind 70 = .ok (.iload_n 1, 1) := by decide +kernel
theorem dX8_setKind_71 : decode cX8_setKind 71 = .ok (.iload_n 2, 1) := by decide +kernel
theorem dX8_setKind_72 : decode cX8_setKind 72 = .ok (.invokevirtual 191, 3) := by decide +kernel
theorem dX8_setKind_75 : decode cX8_setKind 75 = .ok (.pop, 1) := by decide +kernel
theorem dX8_setKind_76 : decode cX8_setKind 76 = .ok (.iload_n 3, 1) := by decide +kernel
theorem dX8_setKind_77 : decode cX8_setKind 77 = .ok (.ireturn, 1) := by decide +kernel
set_option maxRecDepth 20000 in
theorem ggX8_addCrate_X8_checkCell : GoodIn wsX8_addCrate wsX8_checkCell := goodIn_ca (goodIn_r _ [8, 9, 10] (by decide +kernel) (by decide +kernel)) (goodIn_sub (fun _ h => List.mem_cons_of_mem _ (List.mem_append_right _ h)) (by decide +kernel))
set_option maxRecDepth 20000 in
theorem gX8_addCrate_X8_checkCell : GoodIn wsX8_addCrate (va_wsS RX8 97 yX8_checkCell wsX8_checkCell) := goodIn_app (goodIn_of _ (by decide +kernel)) ggX8_addCrate_X8_checkCell
set_option maxRecDepth 20000 in
theorem ggX8_addCrate_X1_refusesCrate : GoodIn wsX8_addCrate wsX1_refusesCrate := goodIn_r _ [15, 16, 17, 18, 14, 19, 20, 21, 22, 23, 24, 25, 26, 27, 28, 29, 30, 31, 32, 33, 34, 35, 36, 37, 38, 39, 40, 41, 42, 43, 44, 45, 46, 47, 48, 49, 50, 109, 110, 111, 112, 113, 114, 115, 116, 117, 118, 119, 120, 121, 122, 123, 124, 125, 126, 127, 128, 129, 130] (by decide +kernel) (by decide +kernel)
set_option maxRecDepth 20000 in
theorem gX8_addCrate_X1_refusesCrate : GoodIn wsX8_addCrate (wsV RX8 194 RX1 yX1_refusesCrate wsX1_refusesCrate) := goodIn_app (goodIn_of _ (by decide +kernel)) ggX8_addCrate_X1_refusesCrate
set_option maxRecDepth 20000 in
theorem ggX8_addCrate_X3_remember : GoodIn wsX8_addCrate wsX3_remember := goodIn_r _ [55, 56, 57, 58, 59, 60, 61, 62, 63, 64, 65, 54, 66, 67, 68, 69, 14, 70, 24, 71, 30, 32, 29, 72, 73, 74, 75, 76, 77, 78, 79, 80, 81, 82, 83, 84, 85, 86, 87, 88, 89, 90, 91, 92, 93, 131, 132, 133, 109, 110, 111, 112, 113, 114, 115, 116, 117, 118, 119, 120, 121, 122, 123, 124, 125, 126, 127, 128, 129, 130] (by decide +kernel) (by decide +kernel)
set_option maxRecDepth 20000 in
theorem gX8_addCrate_X3_remember : GoodIn wsX8_addCrate (wsV RX8 187 RX3 yX3_remember wsX3_remember) := goodIn_app (goodIn_of _ (by decide +kernel)) ggX8_addCrate_X3_remember
set_option maxRecDepth 20000 in
theorem ggX8_addCrate_X1_layCrate : GoodIn wsX8_addCrate wsX1_layCrate := goodIn_r _ [97, 29, 75, 98, 12, 13, 14, 15, 16, 17, 18, 19, 20, 21, 22, 23, 24, 25, 26, 27, 28, 30, 31, 32, 33, 34, 35, 36, 37, 38, 39, 40, 41, 42, 43, 44, 45, 46, 47, 48, 49, 50, 109, 110, 111, 112, 113, 114, 115, 116, 117, 118, 119, 120, 121, 122, 123, 124, 125, 126, 127, 128, 129, 130] (by decide +kernel) (by decide +kernel)
set_option maxRecDepth 20000 in
theorem gX8_addCrate_X1_layCrate : GoodIn wsX8_addCrate (wsV RX8 200 RX1 yX1_layCrate wsX1_layCrate) := goodIn_app (goodIn_of _ (by decide +kernel)) ggX8_addCrate_X1_layCrate
set_option maxRecDepth 20000 in
theorem ggX8_addCrate_X1_crateCount : GoodIn wsX8_addCrate wsX1_crateCount := goodIn_r _ [43, 29, 44, 45, 46, 47, 48, 49, 50, 109, 110, 111, 112, 113, 114, 115, 116, 117, 118, 119, 120] (by decide +kernel) (by decide +kernel)
set_option maxRecDepth 20000 in
theorem gX8_addCrate_X1_crateCount : GoodIn wsX8_addCrate (wsV RX8 114 RX1 yX1_crateCount wsX1_crateCount) := goodIn_app (goodIn_of _ (by decide +kernel)) ggX8_addCrate_X1_crateCount
theorem dX8_addCrate_0 : decode cX8_addCrate 0 = .ok (.iload_n 1, 1) := by decide +kernel
theorem dX8_addCrate_1 : decode cX8_addCrate 1 = .ok (.invokestatic 97, 3) := by decide +kernel
theorem dX8_addCrate_4 : decode cX8_addCrate 4 = .ok (.aload_n 0, 1) := by decide +kernel
theorem dX8_addCrate_5 : decode cX8_addCrate 5 = .ok (.getfield 19, 3) := by decide +kernel
theorem dX8_addCrate_8 : decode cX8_addCrate 8 = .ok (.iload_n 1, 1) := by decide +kernel
theorem dX8_addCrate_9 : decode cX8_addCrate 9 = .ok (.invokevirtual 194, 3) := by decide +kernel
theorem dX8_addCrate_12 : decode cX8_addCrate 12 = .ok (.ifCond .eq 13, 3) := by decide +kernel
theorem dX8_addCrate_15 : decode cX8_addCrate 15 = .ok (.new 68, 3) := by decide +kernel
theorem dX8_addCrate_18 : decode cX8_addCrate 18 = .ok (.dup, 1) := by decide +kernel
theorem dX8_addCrate_19 : decode cX8_addCrate 19 = .ok (.ldc 198, 2) := by decide +kernel
theorem dX8_addCrate_21 : decode cX8_addCrate 21 = .ok (.invokespecial 72, 3) := by decide +kernel
theorem dX8_addCrate_24 : decode cX8_addCrate 24 = .ok (.athrow, 1) := by decide +kernel
theorem dX8_addCrate_25 : decode cX8_addCrate 25 = .ok (.aload_n 0, 1) := by decide +kernel
theorem dX8_addCrate_26 : decode cX8_addCrate 26 = .ok (.getfield 29, 3) := by decide +kernel
theorem dX8_addCrate_29 : decode cX8_addCrate 29 = .ok (.aload_n 0, 1) := by decide +kernel
theorem dX8_addCrate_30 : decode cX8_addCrate 30 = .ok (.getfield 19, 3) := by decide +kernel
theorem dX8_addCrate_33 : decode cX8_addCrate 33 = .ok (.invokevirtual 187, 3) := by decide +kernel
theorem dX8_addCrate_36 : decode cX8_addCrate 36 = .ok (.aload_n 0, 1) := by decide +kernel
theorem dX8_addCrate_37 : decode cX8_addCrate 37 = .ok (.getfield 19, 3) := by decide +kernel
theorem dX8_addCrate_40 : decode cX8_addCrate 40 = .ok (.iload_n 1, 1) := by decide +kernel
theorem dX8_addCrate_41 : decode cX8_addCrate 41 = .ok (.invokevirtual 200, 3) := by decide +kernel
theorem dX8_addCrate_44 : decode cX8_addCrate 44 = .ok (.pop, 1) := by decide +kernel
theorem dX8_addCrate_45 : decode cX8_addCrate 45 = .ok (.aload_n 0, 1) := by decide +kernel
theorem dX8_addCrate_46 : decode cX8_addCrate 46 = .ok (.getfield 19, 3) := by decide +kernel
theorem dX8_addCrate_49 : decode cX8_addCrate 49 = .ok (.invokevirtual 114, 3) := by decide +kernel
theorem dX8_addCrate_52 : decode cX8_addCrate 52 = .ok (.ireturn, 1) := by decide +kernel
set_option maxRecDepth 20000 in
theorem ggX8_takeCrate_X8_checkCell : GoodIn wsX8_takeCrate wsX8_checkCell := goodIn_ca (goodIn_r _ [9, 10, 11] (by decide +kernel) (by decide +kernel)) (goodIn_sub (fun _ h => List.mem_cons_of_mem _ (List.mem_append_right _ h)) (by decide +kernel))
set_option maxRecDepth 20000 in
theorem gX8_takeCrate_X8_checkCell : GoodIn wsX8_takeCrate (va_wsS RX8 97 yX8_checkCell wsX8_checkCell) := goodIn_app (goodIn_of _ (by decide +kernel)) ggX8_takeCrate_X8_checkCell
set_option maxRecDepth 20000 in
theorem ggX8_takeCrate_X2_holds : GoodIn wsX8_takeCrate wsX2_holds := goodIn_r _ [15] (by decide +kernel) (by decide +kernel)
set_option maxRecDepth 20000 in
theorem gX8_takeCrate_X2_holds : GoodIn wsX8_takeCrate (va_wsS RX8 108 yX2_holds wsX2_holds) := goodIn_app (goodIn_of _ (by decide +kernel)) ggX8_takeCrate_X2_holds
set_option maxRecDepth 20000 in
theorem ggX8_takeCrate_X3_remember : GoodIn wsX8_takeCrate wsX3_remember := goodIn_r _ [20, 21, 22, 23, 24, 25, 26, 27, 28, 29, 30, 19, 31, 32, 33, 34, 35, 36, 37, 38, 39, 40, 41, 42, 43, 44, 45, 46, 47, 48, 49, 50, 51, 52, 53, 54, 55, 56, 57, 58, 59, 60, 61, 62, 63, 104, 105, 106, 92, 93, 94, 95, 96, 97, 98, 99, 100, 101, 102, 103, 107, 108, 109, 110, 111, 112, 113, 114, 115, 116] (by decide +kernel) (by decide +kernel)
set_option maxRecDepth 20000 in
theorem gX8_takeCrate_X3_remember : GoodIn wsX8_takeCrate (wsV RX8 187 RX3 yX3_remember wsX3_remember) := goodIn_app (goodIn_of _ (by decide +kernel)) ggX8_takeCrate_X3_remember
set_option maxRecDepth 20000 in
theorem ggX8_takeCrate_X1_liftCrate : GoodIn wsX8_takeCrate wsX1_liftCrate := goodIn_r _ [67, 41, 68, 46, 69, 70, 14, 71, 92, 93, 94, 95, 96, 97, 98, 99, 100, 101, 102, 103] (by decide +kernel) (by decide +kernel)
set_option maxRecDepth 20000 in
theorem gX8_takeCrate_X1_liftCrate : GoodIn wsX8_takeCrate (wsV RX8 205 RX1 yX1_liftCrate wsX1_liftCrate) := goodIn_app (goodIn_of _ (by decide +kernel)) ggX8_takeCrate_X1_liftCrate
set_option maxRecDepth 20000 in
theorem ggX8_takeCrate_X1_crateCount : GoodIn wsX8_takeCrate wsX1_crateCount := goodIn_r _ [75, 41, 76, 77, 78, 79, 80, 81, 82, 92, 93, 94, 95, 96, 97, 98, 99, 100, 101, 102, 103] (by decide +kernel) (by decide +kernel)
set_option maxRecDepth 20000 in
theorem gX8_takeCrate_X1_crateCount : GoodIn wsX8_takeCrate (wsV RX8 114 RX1 yX1_crateCount wsX1_crateCount) := goodIn_app (goodIn_of _ (by decide +kernel)) ggX8_takeCrate_X1_crateCount
theorem dX8_takeCrate_0 : decode cX8_takeCrate 0 = .ok (.iload_n 1, 1) := by decide +kernel
theorem dX8_takeCrate_1 : decode cX8_takeCrate 1 = .ok (.invokestatic 97, 3) := by decide +kernel
theorem dX8_takeCrate_4 : decode cX8_takeCrate 4 = .ok (.aload_n 0, 1) := by decide +kernel
theorem dX8_takeCrate_5 : decode cX8_takeCrate 5 = .ok (.getfield 19, 3) := by decide +kernel
theorem dX8_takeCrate_8 : decode cX8_takeCrate 8 = .ok (.getfield 104, 3) := by decide +kernel
theorem dX8_takeCrate_11 : decode cX8_takeCrate 11 = .ok (.iload_n 1, 1) := by decide +kernel
theorem dX8_takeCrate_12 : decode cX8_takeCrate 12 = .ok (.invokestatic 108, 3) := by decide +kernel
theorem dX8_takeCrate_15 : decode cX8_takeCrate 15 = .ok (.ifCond .ne 13, 3) := by decide +kernel
theorem dX8_takeCrate_18 : decode cX8_takeCrate 18 = .ok (.new 68, 3) := by decide +kernel
theorem dX8_takeCrate_21 : decode cX8_takeCrate 21 = .ok (.dup, 1) := by decide +kernel
theorem dX8_takeCrate_22 : decode cX8_takeCrate 22 = .ok (.ldc 203, 2) := by decide +kernel
theorem dX8_takeCrate_24 : decode cX8_takeCrate 24 = .ok (.invokespecial 72, 3) := by decide +kernel
theorem dX8_takeCrate_27 : decode cX8_takeCrate 27 = .ok (.athrow, 1) := by decide +kernel
theorem dX8_takeCrate_28 : decode cX8_takeCrate 28 = .ok (.aload_n 0, 1) := by decide +kernel
theorem dX8_takeCrate_29 : decode cX8_takeCrate 29 = .ok (.getfield 29, 3) := by decide +kernel
theorem dX8_takeCrate_32 : decode cX8_takeCrate 32 = .ok (.aload_n 0, 1) := by decide +kernel
theorem dX8_takeCrate_33 : decode cX8_takeCrate 33 = .ok (.getfield 19, 3) := by decide +kernel
theorem dX8_takeCrate_36 : decode cX8_takeCrate 36 = .ok (.invokevirtual 187, 3) := by decide +kernel
theorem dX8_takeCrate_39 : decode cX8_takeCrate 39 = .ok (.aload_n 0, 1) := by decide +kernel
theorem dX8_takeCrate_40 : decode cX8_takeCrate 40 = .ok (.getfield 19, 3) := by decide +kernel
theorem dX8_takeCrate_43 : decode cX8_takeCrate 43 = .ok (.iload_n 1, 1) := by decide +kernel
theorem dX8_takeCrate_44 : decode cX8_takeCrate 44 = .ok (.invokevirtual 205, 3) := by decide +kernel
theorem dX8_takeCrate_47 : decode cX8_takeCrate 47 = .ok (.aload_n 0, 1) := by decide +kernel
theorem dX8_takeCrate_48 : decode cX8_takeCrate 48 = .ok (.getfield 19, 3) := by decide +kernel
theorem dX8_takeCrate_51 : decode cX8_takeCrate 51 = .ok (.invokevirtual 114, 3) := by decide +kernel
theorem dX8_takeCrate_54 : decode cX8_takeCrate 54 = .ok (.ireturn, 1) := by decide +kernel
set_option maxRecDepth 20000 in
theorem ggX8_addCheckpoint_X8_checkCell : GoodIn wsX8_addCheckpoint wsX8_checkCell := goodIn_ca (goodIn_r _ [9, 10, 11] (by decide +kernel) (by decide +kernel)) (goodIn_sub (fun _ h => List.mem_cons_of_mem _ (List.mem_append_right _ h)) (by decide +kernel))
set_option maxRecDepth 20000 in
theorem gX8_addCheckpoint_X8_checkCell : GoodIn wsX8_addCheckpoint (va_wsS RX8 97 yX8_checkCell wsX8_checkCell) := goodIn_app (goodIn_of _ (by decide +kernel)) ggX8_addCheckpoint_X8_checkCell
set_option maxRecDepth 20000 in
theorem ggX8_addCheckpoint_X1_refusesCheckpoint : GoodIn wsX8_addCheckpoint wsX1_refusesCheckpoint := goodIn_r _ [16, 17, 18, 19, 20, 21, 15, 22, 23, 24, 25, 26, 27, 28, 29, 30, 31, 32, 33, 34, 35, 94, 95, 96, 97, 98, 99, 100, 101, 102, 103, 104, 105] (by decide +kernel) (by decide +kernel)
set_option maxRecDepth 20000 in
theorem gX8_addCheckpoint_X1_refusesCheckpoint : GoodIn wsX8_addCheckpoint (wsV RX8 208 RX1 yX1_refusesCheckpoint wsX1_refusesCheckpoint) := goodIn_app (goodIn_of _ (by decide +kernel)) ggX8_addCheckpoint_X1_refusesCheckpoint
set_option maxRecDepth 20000 in
theorem ggX8_addCheckpoint_X3_remember : GoodIn wsX8_addCheckpoint wsX3_remember := goodIn_r _ [40, 41, 42, 43, 44, 45, 46, 47, 48, 49, 50, 39, 51, 52, 53, 54, 15, 55, 27, 18, 56, 57, 58, 59, 60, 17, 61, 62, 63, 64, 65, 66, 67, 68, 69, 70, 71, 72, 73, 74, 75, 76, 77, 78, 79, 106, 107, 108, 94, 95, 96, 97, 98, 99, 100, 101, 102, 103, 104, 105, 109, 110, 111, 112, 113, 114, 115, 116, 117, 118] (by decide +kernel) (by decide +kernel)
set_option maxRecDepth 20000 in
theorem gX8_addCheckpoint_X3_remember : GoodIn wsX8_addCheckpoint (wsV RX8 187 RX3 yX3_remember wsX3_remember) := goodIn_app (goodIn_of _ (by decide +kernel)) ggX8_addCheckpoint_X3_remember
set_option maxRecDepth 20000 in
theorem ggX8_addCheckpoint_X1_markCheckpoint : GoodIn wsX8_addCheckpoint wsX1_markCheckpoint := goodIn_r _ [83, 17, 18, 84, 13, 14, 15, 16, 19, 20, 21, 22, 23, 24, 25, 26, 27, 28, 29, 30, 31, 32, 33, 34, 35, 94, 95, 96, 97, 98, 99, 100, 101, 102, 103, 104, 105] (by decide +kernel) (by decide +kernel)
set_option maxRecDepth 20000 in
theorem gX8_addCheckpoint_X1_markCheckpoint : GoodIn wsX8_addCheckpoint (wsV RX8 213 RX1 yX1_markCheckpoint wsX1_markCheckpoint) := goodIn_app (goodIn_of _ (by decide +kernel)) ggX8_addCheckpoint_X1_markCheckpoint
theorem dX8_addCheckpoint_0 : decode cX8_addCheckpoint 0 = .ok (.iload_n 1, 1) := by decide +kernel
theorem dX8_addCheckpoint_1 : decode cX8_addCheckpoint 1 = .ok (.invokestatic 97, 3) := by decide +kernel
theorem dX8_addCheckpoint_4 : decode cX8_addCheckpoint 4 = .ok (.aload_n 0, 1) := by decide +kernel
theorem dX8_addCheckpoint_5 : decode cX8_addCheckpoint 5 = .ok (.getfield 19, 3) := by decide +kernel
theorem dX8_addCheckpoint_8 : decode cX8_addCheckpoint 8 = .ok (.iload_n 1, 1) := by decide +kernel
theorem dX8_addCheckpoint_9 : decode cX8_addCheckpoint 9 = .ok (.invokevirtual 208, 3) := by decide +kernel
theorem dX8_addCheckpoint_12 : decode cX8_addCheckpoint 12 = .ok (.ifCond .eq 13, 3) := by decide +kernel
theorem dX8_addCheckpoint_15 : decode cX8_addCheckpoint 15 = .ok (.new 68, 3) := by decide +kernel
theorem dX8_addCheckpoint_18 : decode cX8_addCheckpoint 18 = .ok (.dup, 1) := by decide +kernel
theorem dX8_addCheckpoint_19 : decode cX8_addCheckpoint 19 = .ok (.ldc 211, 2) := by decide +kernel
theorem dX8_addCheckpoint_21 : decode cX8_addCheckpoint 21 = .ok (.invokespecial 72, 3) := by decide +kernel
theorem dX8_addCheckpoint_24 : decode cX8_addCheckpoint 24 = .ok (.athrow, 1) := by decide +kernel
theorem dX8_addCheckpoint_25 : decode cX8_addCheckpoint 25 = .ok (.aload_n 0, 1) := by decide +kernel
theorem dX8_addCheckpoint_26 : decode cX8_addCheckpoint 26 = .ok (.getfield 29, 3) := by decide +kernel
theorem dX8_addCheckpoint_29 : decode cX8_addCheckpoint 29 = .ok (.aload_n 0, 1) := by decide +kernel
theorem dX8_addCheckpoint_30 : decode cX8_addCheckpoint 30 = .ok (.getfield 19, 3) := by decide +kernel
theorem dX8_addCheckpoint_33 : decode cX8_addCheckpoint 33 = .ok (.invokevirtual 187, 3) := by decide +kernel
theorem dX8_addCheckpoint_36 : decode cX8_addCheckpoint 36 = .ok (.aload_n 0, 1) := by decide +kernel
theorem dX8_addCheckpoint_37 : decode cX8_addCheckpoint 37 = .ok (.getfield 19, 3) := by decide +kernel
theorem dX8_addCheckpoint_40 : decode cX8_addCheckpoint 40 = .ok (.iload_n 1, 1) := by decide +kernel
theorem dX8_addCheckpoint_41 : decode cX8_addCheckpoint 41 = .ok (.invokevirtual 213, 3) := by decide +kernel
theorem dX8_addCheckpoint_44 : decode cX8_addCheckpoint 44 = .ok (.pop, 1) := by decide +kernel
theorem dX8_addCheckpoint_45 : decode cX8_addCheckpoint 45 = .ok (.aload_n 0, 1) := by decide +kernel
theorem dX8_addCheckpoint_46 : decode cX8_addCheckpoint 46 = .ok (.getfield 19, 3) := by decide +kernel
theorem dX8_addCheckpoint_49 : decode cX8_addCheckpoint 49 = .ok (.getfield 126, 3) := by decide +kernel
theorem dX8_addCheckpoint_52 : decode cX8_addCheckpoint 52 = .ok (.ireturn, 1) := by decide +kernel
set_option maxRecDepth 20000 in
theorem ggX8_putRobot_X8_checkRobot : GoodIn wsX8_putRobot wsX8_checkRobot := goodIn_ca (goodIn_r _ [11, 12, 13] (by decide +kernel) (by decide +kernel)) (goodIn_sub (fun _ h => List.mem_cons_of_mem _ (List.mem_append_right _ h)) (by decide +kernel))
set_option maxRecDepth 20000 in
theorem gX8_putRobot_X8_checkRobot : GoodIn wsX8_putRobot (va_wsS RX8 137 yX8_checkRobot wsX8_checkRobot) := goodIn_app (goodIn_of _ (by decide +kernel)) ggX8_putRobot_X8_checkRobot
set_option maxRecDepth 20000 in
theorem ggX8_putRobot_X8_checkCell : GoodIn wsX8_putRobot wsX8_checkCell := goodIn_ca (goodIn_r _ [16, 12, 13] (by decide +kernel) (by decide +kernel)) (goodIn_sub (fun _ h => List.mem_cons_of_mem _ (List.mem_append_right _ h)) (by decide +kernel))
set_option maxRecDepth 20000 in
theorem gX8_putRobot_X8_checkCell : GoodIn wsX8_putRobot (va_wsS RX8 97 yX8_checkCell wsX8_checkCell) := goodIn_app (goodIn_of _ (by decide +kernel)) ggX8_putRobot_X8_checkCell
set_option maxRecDepth 20000 in
theorem ggX8_putRobot_X1_refusesRobot : GoodIn wsX8_putRobot wsX1_refusesRobot := goodIn_r _ [21, 22, 23, 24, 25, 26, 20, 27, 28, 29, 30, 31, 32, 33, 34, 35, 36, 37, 38, 39, 40, 41, 42, 112, 113, 114, 115, 116, 117, 118, 119, 120, 121, 122, 123, 102, 103, 104, 105, 106, 107, 108, 109, 110, 111] (by decide +kernel) (by decide +kernel)
set_option maxRecDepth 20000 in
theorem gX8_putRobot_X1_refusesRobot : GoodIn wsX8_putRobot (wsV RX8 218 RX1 yX1_refusesRobot wsX1_refusesRobot) := goodIn_app (goodIn_of _ (by decide +kernel)) ggX8_putRobot_X1_refusesRobot
set_option maxRecDepth 20000 in
theorem ggX8_putRobot_X3_remember : GoodIn wsX8_putRobot wsX3_remember := goodIn_r _ [47, 48, 49, 50, 51, 52, 53, 54, 55, 56, 57, 46, 58, 59, 60, 61, 20, 62, 32, 63, 41, 42, 22, 64, 65, 66, 67, 68, 69, 70, 71, 72, 73, 74, 75, 76, 77, 78, 79, 80, 81, 82, 83, 84, 85, 124, 125, 126, 112, 113, 114, 115, 116, 117, 118, 119, 120, 121, 122, 123, 102, 103, 104, 105, 106, 107, 108, 109, 110, 111] (by decide +kernel) (by decide +kernel)
set_option maxRecDepth 20000 in
theorem gX8_putRobot_X3_remember : GoodIn wsX8_putRobot (wsV RX8 187 RX3 yX3_remember wsX3_remember) := goodIn_app (goodIn_of _ (by decide +kernel)) ggX8_putRobot_X3_remember
set_option maxRecDepth 20000 in
theorem ggX8_putRobot_X1_robot : GoodIn wsX8_putRobot wsX1_robot := goodIn_r _ [40, 41, 42, 112, 113, 114, 115, 116, 117, 118, 119, 120, 121, 122, 123] (by decide +kernel) (by decide +kernel)
set_option maxRecDepth 20000 in
theorem gX8_putRobot_X1_robot : GoodIn wsX8_putRobot (wsV RX8 140 RX1 yX1_robot wsX1_robot) := goodIn_app (goodIn_of _ (by decide +kernel)) ggX8_putRobot_X1_robot
set_option maxRecDepth 20000 in
theorem ggX8_putRobot_X1_placeRobot : GoodIn wsX8_putRobot wsX1_placeRobot := goodIn_r _ [90, 23, 91, 92, 18, 19, 20, 21, 22, 24, 25, 26, 27, 28, 29, 30, 31, 32, 33, 34, 35, 36, 37, 38, 39, 40, 41, 42, 102, 103, 104, 105, 106, 107, 108, 109, 110, 111, 112, 113, 114, 115, 116, 117, 118, 119, 120, 121, 122, 123] (by decide +kernel) (by decide +kernel)
set_option maxRecDepth 20000 in
theorem gX8_putRobot_X1_placeRobot : GoodIn wsX8_putRobot (wsV RX8 223 RX1 yX1_placeRobot wsX1_placeRobot) := goodIn_app (goodIn_of _ (by decide +kernel)) ggX8_putRobot_X1_placeRobot
theorem dX8_putRobot_0 : decode cX8_putRobot 0 = .ok (.iload_n 1, 1) := by decide +kernel
theorem dX8_putRobot_1 : decode cX8_putRobot 1 = .ok (.invokestatic 137, 3) := by decide +kernel
theorem dX8_putRobot_4 : decode cX8_putRobot 4 = .ok (.iload_n 2, 1) := by decide +kernel
theorem dX8_putRobot_5 : decode cX8_putRobot 5 = .ok (.invokestatic 97, 3) := by decide +kernel
theorem dX8_putRobot_8 : decode cX8_putRobot 8 = .ok (.iload_n 3, 1) := by decide +kernel
theorem dX8_putRobot_9 : decode cX8_putRobot 9 = .ok (.ifCond .lt 8, 3) := by decide +kernel
theorem dX8_putRobot_12 : decode cX8_putRobot 12 = .ok (.iload_n 3, 1) := by decide +kernel
theorem dX8_putRobot_13 : decode cX8_putRobot 13 = .ok (.iconst 4, 1) := by decide +kernel
theorem dX8_putRobot_14 : decode cX8_putRobot 14 = .ok (.if_icmp .lt 13, 3) := by decide +kernel
theorem dX8_putRobot_17 : decode cX8_putRobot 17 = .ok (.new 57, 3) := by decide +kernel
theorem dX8_putRobot_20 : decode cX8_putRobot 20 = .ok (.dup, 1) := by decide +kernel
theorem dX8_putRobot_21 : decode cX8_putRobot 21 = .ok (.ldc 216, 2) := by decide +kernel
theorem dX8_putRobot_23 : decode cX8_putRobot 23 = .ok (.invokespecial 61, 3) := by decide +kernel
theorem dX8_putRobot_26 : decode cX8_putRobot 26 = .ok (.athrow, 1) := by decide +kernel
theorem dX8_putRobot_27 : decode cX8_putRobot 27 = .ok (.aload_n 0, 1) := by decide +kernel
theorem dX8_putRobot_28 : decode cX8_putRobot 28 = .ok (.getfield 19, 3) := by decide +kernel
theorem dX8_putRobot_31 : decode cX8_putRobot 31 = .ok (.iload_n 1, 1) := by decide +kernel
theorem dX8_putRobot_32 : decode cX8_putRobot 32 = .ok (.iload_n 2, 1) := by decide +kernel
theorem dX8_putRobot_33 : decode cX8_putRobot 33 = .ok (.invokevirtual 218, 3) := by decide +kernel
theorem dX8_putRobot_36 : decode cX8_putRobot 36 = .ok (.ifCond .eq 13, 3) := by decide +kernel
theorem dX8_putRobot_39 : decode cX8_putRobot 39 = .ok (.new 68, 3) := by decide +kernel
theorem dX8_putRobot_42 : decode cX8_putRobot 42 = .ok (.dup, 1) := by decide +kernel
theorem dX8_putRobot_43 : decode cX8_putRobot 43 = .ok (.ldc 221, 2) := by decide +kernel
theorem dX8_putRobot_45 : decode cX8_putRobot 45 = .ok (.invokespecial 72, 3) := by decide +kernel
theorem dX8_putRobot_48 : decode cX8_putRobot 48 = .ok (.athrow, 1) := by decide +kernel
theorem dX8_putRobot_49 : decode cX8_putRobot 49 = .ok (.aload_n 0, 1) := by decide +kernel
theorem dX8_putRobot_50 : decode cX8_putRobot 50 = .ok (.getfield 29, 3) := by decide +kernel
theorem dX8_putRobot_53 : decode cX8_putRobot 53 = .ok (.aload_n 0, 1) := by decide +kernel
theorem dX8_putRobot_54 : decode cX8_putRobot 54 = .ok (.getfield 19, 3) := by decide +kernel
theorem dX8_putRobot_57 : decode cX8_putRobot 57 = .ok (.invokevirtual 187, 3) := by decide +kernel
theorem dX8_putRobot_60 : decode cX8_putRobot 60 = .ok (.aload_n 0, 1) := by decide +kernel
theorem dX8_putRobot_61 : decode cX8_putRobot 61 = .ok (.getfield 19, 3) := by decide +kernel
theorem dX8_putRobot_64 : decode cX8_putRobot 64 = .ok (.iload_n 1, 1) := by decide +kernel
theorem dX8_putRobot_65 : decode cX8_putRobot 65 = .ok (.invokevirtual 140, 3) := by decide +kernel
theorem dX8_putRobot_68 : decode cX8_putRobot 68 = .ok (.getfield 144, 3) := by decide +kernel
theorem dX8_putRobot_71 : decode cX8_putRobot 71 = .ok (.istore 4, 2) := by decide +kernel
theorem dX8_putRobot_73 : decode cX8_putRobot 73 = .ok (.aload_n 0, 1) := by decide +kernel
theorem dX8_putRobot_74 : decode cX8_putRobot 74 = .ok (.getfield 19, 3) := by decide +kernel
theorem dX8_putRobot_77 : decode cX8_putRobot 77 = .ok (.iload_n 1, 1) := by decide +kernel
theorem dX8_putRobot_78 : decode cX8_putRobot 78 = .ok (.iload_n 2, 1) := by decide +kernel
theorem dX8_putRobot_79 : decode cX8_putRobot 79 = .ok (.iload_n 3, 1) := by decide +kernel
theorem dX8_putRobot_80 : decode cX8_putRobot 80 = .ok (.invokevirtual 223, 3) := by decide +kernel
theorem dX8_putRobot_83 : decode cX8_putRobot 83 = .ok (.pop, 1) := by decide +kernel
theorem dX8_putRobot_84 : decode cX8_putRobot 84 = .ok (.iload 4, 2) := by decide +kernel
theorem dX8_putRobot_86 : decode cX8_putRobot 86 = .ok (.ireturn, 1) := by decide +kernel
set_option maxRecDepth 20000 in
theorem ggX8_write_X8_checkRobot : GoodIn wsX8_write wsX8_checkRobot := goodIn_ca (goodIn_r _ [11, 12, 13] (by decide +kernel) (by decide +kernel)) (goodIn_sub (fun _ h => List.mem_cons_of_mem _ (List.mem_append_right _ h)) (by decide +kernel))
set_option maxRecDepth 20000 in
theorem gX8_write_X8_checkRobot : GoodIn wsX8_write (va_wsS RX8 137 yX8_checkRobot wsX8_checkRobot) := goodIn_app (goodIn_of _ (by decide +kernel)) ggX8_write_X8_checkRobot
set_option maxRecDepth 20000 in
theorem ggX8_write_X1_robot : GoodIn wsX8_write wsX1_robot := goodIn_r _ [18, 19, 20, 89, 90, 91, 92, 93, 94, 95, 96, 97, 98, 99, 100] (by decide +kernel) (by decide +kernel)
set_option maxRecDepth 20000 in
theorem gX8_write_X1_robot : GoodIn wsX8_write (wsV RX8 140 RX1 yX1_robot wsX1_robot) := goodIn_app (goodIn_of _ (by decide +kernel)) ggX8_write_X1_robot
set_option maxRecDepth 20000 in
theorem ggX8_write_X3_remember : GoodIn wsX8_write wsX3_remember := goodIn_r _ [25, 26, 27, 28, 29, 30, 31, 32, 33, 34, 35, 24, 36, 37, 38, 39, 17, 40, 41, 42, 19, 20, 43, 44, 45, 46, 47, 48, 49, 50, 51, 52, 53, 54, 55, 56, 57, 58, 59, 60, 61, 62, 63, 64, 65, 101, 102, 103, 89, 90, 91, 92, 93, 94, 95, 96, 97, 98, 99, 100, 79, 80, 81, 82, 83, 84, 85, 86, 87, 88] (by decide +kernel) (by decide +kernel)
set_option maxRecDepth 20000 in
theorem gX8_write_X3_remember : GoodIn wsX8_write (wsV RX8 187 RX3 yX3_remember wsX3_remember) := goodIn_app (goodIn_of _ (by decide +kernel)) ggX8_write_X3_remember
set_option maxRecDepth 20000 in
theorem ggX8_write_X4_learn : GoodIn wsX8_write wsX4_learn := goodIn_r _ [69, 64, 65, 79, 80, 81, 82, 83, 84, 85, 86, 87, 88] (by decide +kernel) (by decide +kernel)
set_option maxRecDepth 20000 in
theorem gX8_write_X4_learn : GoodIn wsX8_write (wsV RX8 231 RX4 yX4_learn wsX4_learn) := goodIn_app (goodIn_of _ (by decide +kernel)) ggX8_write_X4_learn
theorem dX8_write_0 : decode cX8_write 0 = .ok (.iload_n 1, 1) := by decide +kernel
theorem dX8_write_1 : decode cX8_write 1 = .ok (.invokestatic 137, 3) := by decide +kernel
theorem dX8_write_4 : decode cX8_write 4 = .ok (.iload_n 2, 1) := by decide +kernel
theorem dX8_write_5 : decode cX8_write 5 = .ok (.ifCond .lt 9, 3) := by decide +kernel
theorem dX8_write_8 : decode cX8_write 8 = .ok (.iload_n 2, 1) := by decide +kernel
theorem dX8_write_9 : decode cX8_write 9 = .ok (.bipush 6, 2) := by decide +kernel
theorem dX8_write_11 : decode cX8_write 11 = .ok (.if_icmp .lt 13, 3) := by decide +kernel
theorem dX8_write_14 : decode cX8_write 14 = .ok (.new 57, 3) := by decide +kernel
theorem dX8_write_17 : decode cX8_write 17 = .ok (.dup, 1) := by decide +kernel
theorem dX8_write_18 : decode cX8_write 18 = .ok (.ldc 227, 2) := by decide +kernel
theorem dX8_write_20 : decode cX8_write 20 = .ok (.invokespecial 61, 3) := by decide +kernel
theorem dX8_write_23 : decode cX8_write 23 = .ok (.athrow, 1) := by decide +kernel
theorem dX8_write_24 : decode cX8_write 24 = .ok (.aload_n 0, 1) := by decide +kernel
theorem dX8_write_25 : decode cX8_write 25 = .ok (.getfield 19, 3) := by decide +kernel
theorem dX8_write_28 : decode cX8_write 28 = .ok (.iload_n 1, 1) := by decide +kernel
theorem dX8_write_29 : decode cX8_write 29 = .ok (.invokevirtual 140, 3) := by decide +kernel
theorem dX8_write_32 : decode cX8_write 32 = .ok (.getfield 170, 3) := by decide +kernel
theorem dX8_write_35 : decode cX8_write 35 = .ok (.bipush 10, 2) := by decide +kernel
theorem dX8_write_37 : decode cX8_write 37 = .ok (.if_icmp .lt 13, 3) := by decide +kernel
theorem dX8_write_40 : decode cX8_write 40 = .ok (.new 68, 3) := by decide +kernel
theorem dX8_write_43 : decode cX8_write 43 = .ok (.dup, 1) := by decide +kernel
theorem dX8_write_44 : decode cX8_write 44 = .ok (.ldc 229, 2) := by decide +kernel
theorem dX8_write_46 : decode cX8_write 46 = .ok (.invokespecial 72, 3) := by decide +kernel
theorem dX8_write_49 : decode cX8_write 49 = .ok (.athrow, 1) := by decide +kernel
theorem dX8_write_50 : decode cX8_write 50 = .ok (.aload_n 0, 1) := by decide +kernel
theorem dX8_write_51 : decode cX8_write 51 = .ok (.getfield 29, 3) := by decide +kernel
theorem dX8_write_54 : decode cX8_write 54 = .ok (.aload_n 0, 1) := by decide +kernel
theorem dX8_write_55 : decode cX8_write 55 = .ok (.getfield 19, 3) := by decide +kernel
theorem dX8_write_58 : decode cX8_write 58 = .ok (.invokevirtual 187, 3) := by decide +kernel
theorem dX8_write_61 : decode cX8_write 61 = .ok (.aload_n 0, 1) := by decide +kernel
theorem dX8_write_62 : decode cX8_write 62 = .ok (.getfield 19, 3) := by decide +kernel
theorem dX8_write_65 : decode cX8_write 65 = .ok (.iload_n 1, 1) := by decide +kernel
theorem dX8_write_66 : decode cX8_write 66 = .ok (.invokevirtual 140, 3) := by decide +kernel
theorem dX8_write_69 : decode cX8_write 69 = .ok (.iload_n 2, 1) := by decide +kernel
theorem dX8_write_70 : decode cX8_write 70 = .ok (.invokevirtual 231, 3) := by decide +kernel
theorem dX8_write_73 : decode cX8_write 73 = .ok (.pop, 1) := by decide +kernel
theorem dX8_write_74 : decode cX8_write 74 = .ok (.aload_n 0, 1) := by decide +kernel
theorem dX8_write_75 : decode cX8_write 75 = .ok (.getfield 19, 3) := by decide +kernel
theorem dX8_write_78 : decode cX8_write 78 = .ok (.iload_n 1, 1) := by decide +kernel
theorem dX8_write_79 : decode cX8_write 79 = .ok (.invokevirtual 140, 3) := by decide +kernel
theorem dX8_write_82 : decode cX8_write 82 = .ok (.getfield 170, 3) := by decide +kernel
theorem dX8_write_85 : decode cX8_write 85 = .ok (.ireturn, 1) := by decide +kernel
set_option maxRecDepth 20000 in
theorem ggX8_wipe_X8_checkRobot : GoodIn wsX8_wipe wsX8_checkRobot := goodIn_ca (goodIn_r _ [7, 8, 9] (by decide +kernel) (by decide +kernel)) (goodIn_sub (fun _ h => List.mem_cons_of_mem _ (List.mem_append_right _ h)) (by decide +kernel))
set_option maxRecDepth 20000 in
theorem gX8_wipe_X8_checkRobot : GoodIn wsX8_wipe (va_wsS RX8 137 yX8_checkRobot wsX8_checkRobot) := goodIn_app (goodIn_of _ (by decide +kernel)) ggX8_wipe_X8_checkRobot
set_option maxRecDepth 20000 in
theorem ggX8_wipe_X3_remember : GoodIn wsX8_wipe wsX3_remember := goodIn_r _ [14, 15, 16, 17, 18, 19, 20, 21, 22, 23, 24, 13, 25, 26, 27, 28, 29, 30, 31, 32, 33, 34, 35, 36, 37, 38, 39, 40, 41, 42, 43, 44, 45, 46, 47, 48, 49, 50, 51, 52, 53, 54, 55, 56, 57, 85, 86, 87, 88, 89, 90, 91, 92, 93, 94, 95, 96, 97, 98, 99, 75, 76, 77, 78, 79, 80, 81, 82, 83, 84] (by decide +kernel) (by decide +kernel)
set_option maxRecDepth 20000 in
theorem gX8_wipe_X3_remember : GoodIn wsX8_wipe (wsV RX8 187 RX3 yX3_remember wsX3_remember) := goodIn_app (goodIn_of _ (by decide +kernel)) ggX8_wipe_X3_remember
set_option maxRecDepth 20000 in
theorem ggX8_wipe_X1_robot : GoodIn wsX8_wipe wsX1_robot := goodIn_r _ [61, 33, 34, 88, 89, 90, 91, 92, 93, 94, 95, 96, 97, 98, 99] (by decide +kernel) (by decide +kernel)
set_option maxRecDepth 20000 in
theorem gX8_wipe_X1_robot : GoodIn wsX8_wipe (wsV RX8 140 RX1 yX1_robot wsX1_robot) := goodIn_app (goodIn_of _ (by decide +kernel)) ggX8_wipe_X1_robot
set_option maxRecDepth 20000 in
theorem ggX8_wipe_X4_forgetProgram : GoodIn wsX8_wipe wsX4_forgetProgram := goodIn_r _ [65, 55, 56, 75, 76, 77, 78, 79, 80, 81, 82, 83, 84] (by decide +kernel) (by decide +kernel)
set_option maxRecDepth 20000 in
theorem gX8_wipe_X4_forgetProgram : GoodIn wsX8_wipe (wsV RX8 234 RX4 yX4_forgetProgram wsX4_forgetProgram) := goodIn_app (goodIn_of _ (by decide +kernel)) ggX8_wipe_X4_forgetProgram
theorem dX8_wipe_0 : decode cX8_wipe 0 = .ok (.iload_n 1, 1) := by decide +kernel
theorem dX8_wipe_1 : decode cX8_wipe 1 = .ok (.invokestatic 137, 3) := by decide +kernel
theorem dX8_wipe_4 : decode cX8_wipe 4 = .ok (.aload_n 0, 1) := by decide +kernel
theorem dX8_wipe_5 : decode cX8_wipe 5 = .ok (.getfield 29, 3) := by decide +kernel
theorem dX8_wipe_8 : decode cX8_wipe 8 = .ok (.aload_n 0, 1) := by decide +kernel
theorem dX8_wipe_9 : decode cX8_wipe 9 = .ok (.getfield 19, 3) := by decide +kernel
theorem dX8_wipe_12 : decode cX8_wipe 12 = .ok (.invokevirtual 187, 3) := by decide +kernel
theorem dX8_wipe_15 : decode cX8_wipe 15 = .ok (.aload_n 0, 1) := by decide +kernel
theorem dX8_wipe_16 : decode cX8_wipe 16 = .ok (.getfield 19, 3) := by decide +kernel
theorem dX8_wipe_19 : decode cX8_wipe 19 = .ok (.iload_n 1, 1) := by decide +kernel
theorem dX8_wipe_20 : decode cX8_wipe 20 = .ok (.invokevirtual 140, 3) := by decide +kernel
theorem dX8_wipe_23 : decode cX8_wipe 23 = .ok (.getfield 170, 3) := by decide +kernel
theorem dX8_wipe_26 : decode cX8_wipe 26 = .ok (.istore_n 2, 1) := by decide +kernel
theorem dX8_wipe_27 : decode cX8_wipe 27 = .ok (.aload_n 0, 1) := by decide +kernel
theorem dX8_wipe_28 : decode cX8_wipe 28 = .ok (.getfield 19, 3) := by decide +kernel
theorem dX8_wipe_31 : decode cX8_wipe 31 = .ok (.iload_n 1, 1) := by decide +kernel
theorem dX8_wipe_32 : decode cX8_wipe 32 = .ok (.invokevirtual 140, 3) := by decide +kernel
theorem dX8_wipe_35 : decode cX8_wipe 35 = .ok (.invokevirtual 234, 3) := by decide +kernel
theorem dX8_wipe_38 : decode cX8_wipe 38 = .ok (.iload_n 2, 1) := by decide +kernel
theorem dX8_wipe_39 : decode cX8_wipe 39 = .ok (.ireturn, 1) := by decide +kernel
set_option maxRecDepth 20000 in
theorem ggX8_step_X3_remember : GoodIn wsX8_step wsX3_remember := goodIn_r _ [9, 10, 11, 12, 13, 14, 15, 16, 17, 18, 19, 8, 20, 21, 22, 23, 24, 25, 26, 27, 28, 29, 30, 31, 32, 33, 34, 35, 36, 37, 38, 39, 40, 41, 42, 43, 44, 45, 46, 47, 48, 49, 50, 51, 52, 196, 197, 198, 199, 200, 201, 202, 203, 204, 205, 206, 207, 208, 209, 210, 211, 212, 213, 214, 215, 216, 217, 218, 219, 220] (by decide +kernel) (by decide +kernel)
set_option maxRecDepth 20000 in
theorem gX8_step_X3_remember : GoodIn wsX8_step (wsV RX8 187 RX3 yX3_remember wsX3_remember) := goodIn_app (goodIn_of _ (by decide +kernel)) ggX8_step_X3_remember
set_option maxRecDepth 20000 in
theorem ggX8_step_X6_makeSome : GoodIn wsX8_step wsX6_makeSome := goodIn_r _ [56, 57, 58, 55, 59, 60, 61, 62, 63, 64, 65, 66, 67, 68, 69, 41, 70, 44, 71, 72, 73, 74, 51, 50, 75, 76, 77, 78, 52, 79, 80, 81, 82, 83, 84, 85, 86, 87, 88, 24, 89, 30, 28, 90, 29, 91, 92, 93, 94, 95, 96, 97, 98, 99, 100, 101, 26, 102, 103, 104, 105, 106, 107, 108, 109, 110, 111, 112, 113, 114, 115, 116, 117, 118, 119, 120, 121, 122, 123, 124, 125, 126, 127, 128, 129, 130, 131, 132, 133, 134, 135, 136, 137, 138, 139, 140, 141, 142, 143, 144, 145, 146, 147, 148, 149, 150, 151, 152, 153, 154, 155, 156, 157, 158, 159, 160, 161, 162, 163, 164, 165, 166, 167, 168, 169, 170, 171, 172, 173, 174, 175, 176, 177, 178, 179, 180, 181, 182, 183, 184, 185, 186, 33, 27, 199, 200, 201, 202, 203, 204, 205, 206, 207, 208, 209, 210, 211, 212, 213, 214, 215, 216, 217, 218, 219, 220] (by decide +kernel) (by decide +kernel)
set_option maxRecDepth 20000 in
theorem gX8_step_X6_makeSome : GoodIn wsX8_step (va_wsS RX8 239 yX6_makeSome wsX6_makeSome) := goodIn_app (goodIn_of _ (by decide +kernel)) ggX8_step_X6_makeSome
theorem dX8_step_0 : decode cX8_step 0 = .ok (.iload_n 1, 1) := by decide +kernel
theorem dX8_step_1 : decode cX8_step 1 = .ok (.iconst 1, 1) := by decide +kernel
theorem dX8_step_2 : decode cX8_step 2 = .ok (.if_icmp .lt 9, 3) := by decide +kernel
theorem dX8_step_5 : decode cX8_step 5 = .ok (.iload_n 1, 1) := by decide +kernel
theorem dX8_step_6 : decode cX8_step 6 = .ok (.bipush 40, 2) := by decide +kernel
theorem dX8_step_8 : decode cX8_step 8 = .ok (.if_icmp .le 13, 3) := by decide +kernel
theorem dX8_step_11 : decode cX8_step 11 = .ok (.new 57, 3) := by decide +kernel
theorem dX8_step_14 : decode cX8_step 14 = .ok (.dup, 1) := by decide +kernel
theorem dX8_step_15 : decode cX8_step 15 = .ok (.ldc 237, 2) := by decide +kernel
theorem dX8_step_17 : decode cX8_step 17 = .ok (.invokespecial 61, 3) := by decide +kernel
theorem dX8_step_20 : decode cX8_step 20 = .ok (.athrow, 1) := by decide +kernel
theorem dX8_step_21 : decode cX8_step 21 = .ok (.aload_n 0, 1) := by decide +kernel
theorem dX8_step_22 : decode cX8_step 22 = .ok (.getfield 29, 3) := by decide +kernel
theorem dX8_step_25 : decode cX8_step 25 = .ok (.aload_n 0, 1) := by decide +kernel
theorem dX8_step_26 : decode cX8_step 26 = .ok (.getfield 19, 3) := by decide +kernel
theorem dX8_step_29 : decode cX8_step 29 = .ok (.invokevirtual 187, 3) := by decide +kernel
theorem dX8_step_32 : decode cX8_step 32 = .ok (.aload_n 0, 1) := by decide +kernel
theorem dX8_step_33 : decode cX8_step 33 = .ok (.getfield 19, 3) := by decide +kernel
theorem dX8_step_36 : decode cX8_step 36 = .ok (.iload_n 1, 1) := by decide +kernel
theorem dX8_step_37 : decode cX8_step 37 = .ok (.invokestatic 239, 3) := by decide +kernel
theorem dX8_step_40 : decode cX8_step 40 = .ok (.ireturn, 1) := by decide +kernel
set_option maxRecDepth 20000 in
theorem ggX8_undo_X3_takeBack : GoodIn wsX8_undo wsX3_takeBack := goodIn_r _ [10, 11, 12, 13, 14, 15, 16, 9, 17, 18, 19, 20, 21, 22, 23, 24, 25, 26, 27, 28, 29, 30, 31, 32, 33, 34, 35, 36, 37, 38, 39, 40, 41, 42, 43, 44, 45, 46, 47, 48, 49, 59, 60, 61, 62, 63, 64, 65, 66, 67, 68, 69, 70, 71, 72, 73, 74, 75, 76, 77, 78, 79, 80, 81, 82, 83] (by decide +kernel) (by decide +kernel)
set_option maxRecDepth 20000 in
theorem gX8_undo_X3_takeBack : GoodIn wsX8_undo (wsV RX8 247 RX3 yX3_takeBack wsX3_takeBack) := goodIn_app (goodIn_of _ (by decide +kernel)) ggX8_undo_X3_takeBack
theorem dX8_undo_0 : decode cX8_undo 0 = .ok (.aload_n 0, 1) := by decide +kernel
theorem dX8_undo_1 : decode cX8_undo 1 = .ok (.getfield 29, 3) := by decide +kernel
theorem dX8_undo_4 : decode cX8_undo 4 = .ok (.getfield 86, 3) := by decide +kernel
theorem dX8_undo_7 : decode cX8_undo 7 = .ok (.ifCond .gt 13, 3) := by decide +kernel
theorem dX8_undo_10 : decode cX8_undo 10 = .ok (.new 68, 3) := by decide +kernel
theorem dX8_undo_13 : decode cX8_undo 13 = .ok (.dup, 1) := by decide +kernel
theorem dX8_undo_14 : decode cX8_undo 14 = .ok (.ldc 245, 2) := by decide +kernel
theorem dX8_undo_16 : decode cX8_undo 16 = .ok (.invokespecial 72, 3) := by decide +kernel
theorem dX8_undo_19 : decode cX8_undo 19 = .ok (.athrow, 1) := by decide +kernel
theorem dX8_undo_20 : decode cX8_undo 20 = .ok (.aload_n 0, 1) := by decide +kernel
theorem dX8_undo_21 : decode cX8_undo 21 = .ok (.getfield 29, 3) := by decide +kernel
theorem dX8_undo_24 : decode cX8_undo 24 = .ok (.aload_n 0, 1) := by decide +kernel
theorem dX8_undo_25 : decode cX8_undo 25 = .ok (.getfield 19, 3) := by decide +kernel
theorem dX8_undo_28 : decode cX8_undo 28 = .ok (.invokevirtual 247, 3) := by decide +kernel
theorem dX8_undo_31 : decode cX8_undo 31 = .ok (.aload_n 0, 1) := by decide +kernel
theorem dX8_undo_32 : decode cX8_undo 32 = .ok (.getfield 29, 3) := by decide +kernel
theorem dX8_undo_35 : decode cX8_undo 35 = .ok (.getfield 86, 3) := by decide +kernel
theorem dX8_undo_38 : decode cX8_undo 38 = .ok (.ireturn, 1) := by decide +kernel
set_option maxRecDepth 20000 in
theorem ggX8_rowAhead_X8_checkRobot : GoodIn wsX8_rowAhead wsX8_checkRobot := goodIn_ca (goodIn_r _ [7, 8, 9] (by decide +kernel) (by decide +kernel)) (goodIn_sub (fun _ h => List.mem_cons_of_mem _ (List.mem_append_right _ h)) (by decide +kernel))
set_option maxRecDepth 20000 in
theorem gX8_rowAhead_X8_checkRobot : GoodIn wsX8_rowAhead (va_wsS RX8 137 yX8_checkRobot wsX8_checkRobot) := goodIn_app (goodIn_of _ (by decide +kernel)) ggX8_rowAhead_X8_checkRobot
set_option maxRecDepth 20000 in
theorem ggX8_rowAhead_X1_robot : GoodIn wsX8_rowAhead wsX1_robot := goodIn_r _ [14, 15, 16, 74, 75, 76, 77, 78, 79, 80, 81, 82, 83, 84, 85] (by decide +kernel) (by decide +kernel)
set_option maxRecDepth 20000 in
theorem gX8_rowAhead_X1_robot : GoodIn wsX8_rowAhead (wsV RX8 140 RX1 yX1_robot wsX1_robot) := goodIn_app (goodIn_of _ (by decide +kernel)) ggX8_rowAhead_X1_robot
set_option maxRecDepth 20000 in
theorem ggX8_rowAhead_X6_wayFrom : GoodIn wsX8_rowAhead wsX6_wayFrom := goodIn_r _ [20, 21, 22, 23, 13, 24, 25, 15, 26, 16, 27, 28, 29, 30, 31, 32, 33, 34, 35, 36, 37, 38, 39, 40, 41, 42, 74, 75, 76, 77, 78, 79, 80, 81, 82, 83, 84, 85, 64, 65, 66, 67, 68, 69, 70, 71, 72, 73] (by decide +kernel) (by decide +kernel)
set_option maxRecDepth 20000 in
theorem gX8_rowAhead_X6_wayFrom : GoodIn wsX8_rowAhead (va_wsS RX8 250 yX6_wayFrom wsX6_wayFrom) := goodIn_app (goodIn_of _ (by decide +kernel)) ggX8_rowAhead_X6_wayFrom
set_option maxRecDepth 20000 in
theorem ggX8_rowAhead_X6_rowOf : GoodIn wsX8_rowAhead wsX6_rowOf := goodIn_r _ [45, 46, 47, 21, 22, 23, 13, 24, 25, 15, 26, 16, 27, 28, 29, 30, 31, 64, 65, 66, 67, 68, 69, 70, 71, 72, 73, 74, 75, 76, 77, 78, 79, 80, 81, 82, 83, 84, 85] (by decide +kernel) (by decide +kernel)
set_option maxRecDepth 20000 in
theorem gX8_rowAhead_X6_rowOf : GoodIn wsX8_rowAhead (va_wsS RX8 254 yX6_rowOf wsX6_rowOf) := goodIn_app (goodIn_of _ (by decide +kernel)) ggX8_rowAhead_X6_rowOf
set_option maxRecDepth 20000 in
theorem ggX8_rowAhead_J13_bitCount_95d88 : GoodIn wsX8_rowAhead wsJ13_bitCount_95d88 := goodIn_r _ [51, 52, 53, 54] (by decide +kernel) (by decide +kernel)
set_option maxRecDepth 20000 in
theorem gX8_rowAhead_J13_bitCount_95d88 : GoodIn wsX8_rowAhead (va_wsS RX8 258 yJ13_bitCount_95d88 wsJ13_bitCount_95d88) := goodIn_app (goodIn_of _ (by decide +kernel)) ggX8_rowAhead_J13_bitCount_95d88
theorem dX8_rowAhead_0 : decode cX8_rowAhead 0 = .ok (.iload_n 1, 1) := by decide +kernel
theorem dX8_rowAhead_1 : decode cX8_rowAhead 1 = .ok (.invokestatic 137, 3) := by decide +kernel
theorem dX8_rowAhead_4 : decode cX8_rowAhead 4 = .ok (.aload_n 0, 1) := by decide +kernel
theorem dX8_rowAhead_5 : decode cX8_rowAhead 5 = .ok (.getfield 19, 3) := by decide +kernel
theorem dX8_rowAhead_8 : decode cX8_rowAhead 8 = .ok (.iload_n 1, 1) := by decide +kernel
theorem dX8_rowAhead_9 : decode cX8_rowAhead 9 = .ok (.invokevirtual 140, 3) := by decide +kernel
theorem dX8_rowAhead_12 : decode cX8_rowAhead 12 = .ok (.astore_n 2, 1) := by decide +kernel
theorem dX8_rowAhead_13 : decode cX8_rowAhead 13 = .ok (.aload_n 0, 1) := by decide +kernel
theorem dX8_rowAhead_14 : decode cX8_rowAhead 14 = .ok (.getfield 19, 3) := by decide +kernel
theorem dX8_rowAhead_17 : decode cX8_rowAhead 17 = .ok (.aload_n 2, 1) := by decide +kernel
theorem dX8_rowAhead_18 : decode cX8_rowAhead 18 = .ok (.getfield 144, 3) := by decide +kernel
theorem dX8_rowAhead_21 : decode cX8_rowAhead 21 = .ok (.aload_n 2, 1) := by decide +kernel
theorem dX8_rowAhead_22 : decode cX8_rowAhead 22 = .ok (.getfield 149, 3) := by decide +kernel
theorem dX8_rowAhead_25 : decode cX8_rowAhead 25 = .ok (.invokestatic 250, 3) := by decide +kernel
theorem dX8_rowAhead_28 : decode cX8_rowAhead 28 = .ok (.lstore_n 3, 1) := by decide +kernel
theorem dX8_rowAhead_29 : decode cX8_rowAhead 29 = .ok (.lload_n 3, 1) := by decide +kernel
theorem dX8_rowAhead_30 : decode cX8_rowAhead 30 = .ok (.lconst 0, 1) := by decide +kernel
theorem dX8_rowAhead_31 : decode cX8_rowAhead 31 = .ok (.lcmp, 1) := by decide +kernel
theorem dX8_rowAhead_32 : decode cX8_rowAhead 32 = .ok (.ifCond .ne 7, 3) := by decide +kernel
theorem dX8_rowAhead_35 : decode cX8_rowAhead 35 = .ok (.iconst (-1), 1) := by decide +kernel
theorem dX8_rowAhead_36 : decode cX8_rowAhead 36 = .ok (.goto 15, 3) := by decide +kernel
theorem dX8_rowAhead_39 : decode cX8_rowAhead 39 = .ok (.aload_n 0, 1) := by decide +kernel
theorem dX8_rowAhead_40 : decode cX8_rowAhead 40 = .ok (.getfield 19, 3) := by decide +kernel
theorem dX8_rowAhead_43 : decode cX8_rowAhead 43 = .ok (.aload_n 2, 1) := by decide +kernel
theorem dX8_rowAhead_44 : decode cX8_rowAhead 44 = .ok (.lload_n 3, 1) := by decide +kernel
theorem dX8_rowAhead_45 : decode cX8_rowAhead 45 = .ok (.invokestatic 254, 3) := by decide +kernel
theorem dX8_rowAhead_48 : decode cX8_rowAhead 48 = .ok (.invokestatic 258, 3) := by decide +kernel
theorem dX8_rowAhead_51 : decode cX8_rowAhead 51 = .ok (.ireturn, 1) := by decide +kernel
set_option maxRecDepth 20000 in
theorem ggX8_wouldClash_X6_wayOf : GoodIn wsX8_wouldClash wsX6_wayOf := goodIn_r _ [7, 8, 9, 10, 11, 12, 13, 14, 15, 16, 17, 18, 19, 20, 21, 22, 23, 24, 25, 26, 27, 28, 29, 30, 31, 6, 32, 33, 34, 35, 36, 37, 38, 39, 40, 41, 42, 43, 44, 45, 46, 47, 48, 49, 50, 51, 52, 53, 54, 55, 56, 81, 82, 83, 84, 85, 86, 87, 88, 89, 90, 69, 70, 71, 72, 73, 74, 75, 76, 77, 78, 79, 80] (by decide +kernel) (by decide +kernel)
set_option maxRecDepth 20000 in
theorem gX8_wouldClash_X6_wayOf : GoodIn wsX8_wouldClash (va_wsS RX8 268 yX6_wayOf wsX6_wayOf) := goodIn_app (goodIn_of _ (by decide +kernel)) ggX8_wouldClash_X6_wayOf
set_option maxRecDepth 20000 in
theorem ggX8_wouldClash_X6_clash : GoodIn wsX8_wouldClash wsX6_clash := goodIn_r _ [59] (by decide +kernel) (by decide +kernel)
set_option maxRecDepth 20000 in
theorem gX8_wouldClash_X6_clash : GoodIn wsX8_wouldClash (va_wsS RX8 275 yX6_clash wsX6_clash) := goodIn_app (goodIn_of _ (by decide +kernel)) ggX8_wouldClash_X6_clash
theorem dX8_wouldClash_0 : decode cX8_wouldClash 0 = .ok (.aload_n 0, 1) := by decide +kernel
theorem dX8_wouldClash_1 : decode cX8_wouldClash 1 = .ok (.getfield 19, 3) := by decide +kernel
theorem dX8_wouldClash_4 : decode cX8_wouldClash 4 = .ok (.aload_n 0, 1) := by decide +kernel
theorem dX8_wouldClash_5 : decode cX8_wouldClash 5 = .ok (.getfield 19, 3) := by decide +kernel
theorem dX8_wouldClash_8 : decode cX8_wouldClash 8 = .ok (.getfield 264, 3) := by decide +kernel
theorem dX8_wouldClash_11 : decode cX8_wouldClash 11 = .ok (.invokestatic 268, 3) := by decide +kernel
theorem dX8_wouldClash_14 : decode cX8_wouldClash 14 = .ok (.aload_n 0, 1) := by decide +kernel
theorem dX8_wouldClash_15 : decode cX8_wouldClash 15 = .ok (.getfield 19, 3) := by decide +kernel
theorem dX8_wouldClash_18 : decode cX8_wouldClash 18 = .ok (.aload_n 0, 1) := by decide +kernel
theorem dX8_wouldClash_19 : decode cX8_wouldClash 19 = .ok (.getfield 19, 3) := by decide +kernel
theorem dX8_wouldClash_22 : decode cX8_wouldClash 22 = .ok (.getfield 272, 3) := by decide +kernel
theorem dX8_wouldClash_25 : decode cX8_wouldClash 25 = .ok (.invokestatic 268, 3) := by decide +kernel
theorem dX8_wouldClash_28 : decode cX8_wouldClash 28 = .ok (.invokestatic 275, 3) := by decide +kernel
theorem dX8_wouldClash_31 : decode cX8_wouldClash 31 = .ok (.ireturn, 1) := by decide +kernel
set_option maxRecDepth 20000 in
theorem ggX8_passesIn_X8_checkRobot : GoodIn wsX8_passesIn wsX8_checkRobot := goodIn_ca (goodIn_r _ [7, 8, 9] (by decide +kernel) (by decide +kernel)) (goodIn_sub (fun _ h => List.mem_cons_of_mem _ (List.mem_append_right _ h)) (by decide +kernel))
set_option maxRecDepth 20000 in
theorem gX8_passesIn_X8_checkRobot : GoodIn wsX8_passesIn (va_wsS RX8 137 yX8_checkRobot wsX8_checkRobot) := goodIn_app (goodIn_of _ (by decide +kernel)) ggX8_passesIn_X8_checkRobot
set_option maxRecDepth 20000 in
theorem ggX8_passesIn_X1_copyFrom : GoodIn wsX8_passesIn wsX1_copyFrom := goodIn_r _ [14, 15, 16, 17, 18, 19, 20, 21, 22, 23, 24, 25, 26, 27, 28, 29, 30, 31, 32, 33, 34, 35, 36, 37, 38, 39, 40, 41, 196, 197, 198, 199, 200, 201, 202, 203, 204, 205, 206, 207, 186, 187, 188, 189, 190, 191, 192, 193, 194, 195] (by decide +kernel) (by decide +kernel)
set_option maxRecDepth 20000 in
theorem gX8_passesIn_X1_copyFrom : GoodIn wsX8_passesIn (wsV RX8 279 RX1 yX1_copyFrom wsX1_copyFrom) := goodIn_app (goodIn_of _ (by decide +kernel)) ggX8_passesIn_X1_copyFrom
set_option maxRecDepth 20000 in
theorem ggX8_passesIn_X1_robot : GoodIn wsX8_passesIn wsX1_robot := goodIn_r _ [45, 17, 18, 196, 197, 198, 199, 200, 201, 202, 203, 204, 205, 206, 207] (by decide +kernel) (by decide +kernel)
set_option maxRecDepth 20000 in
theorem gX8_passesIn_X1_robot : GoodIn wsX8_passesIn (wsV RX8 140 RX1 yX1_robot wsX1_robot) := goodIn_app (goodIn_of _ (by decide +kernel)) ggX8_passesIn_X1_robot
set_option maxRecDepth 20000 in
theorem ggX8_passesIn_X6_makeOne : GoodIn wsX8_passesIn wsX6_makeOne := goodIn_r _ [49, 50, 51, 52, 53, 54, 48, 55, 56, 57, 58, 59, 30, 60, 33, 61, 62, 63, 64, 40, 39, 65, 66, 67, 68, 41, 69, 70, 71, 72, 73, 74, 75, 76, 77, 78, 13, 79, 19, 17, 80, 18, 81, 82, 83, 84, 85, 86, 87, 88, 89, 90, 91, 15, 92, 93, 94, 95, 96, 97, 98, 99, 100, 101, 102, 103, 104, 105, 106, 107, 108, 109, 110, 111, 112, 113, 114, 115, 116, 117, 118, 119, 120, 121, 122, 123, 124, 125, 126, 127, 128, 129, 130, 131, 132, 133, 134, 135, 136, 137, 138, 139, 140, 141, 142, 143, 144, 145, 146, 147, 148, 149, 150, 151, 152, 153, 154, 155, 156, 157, 158, 159, 160, 161, 162, 163, 164, 165, 166, 167, 168, 169, 170, 171, 172, 173, 174, 175, 176, 22, 16, 196, 197, 198, 199, 200, 201, 202, 203, 204, 205, 206, 207, 186, 187, 188, 189, 190, 191, 192, 193, 194, 195] (by decide +kernel) (by decide +kernel)
set_option maxRecDepth 20000 in
theorem gX8_passesIn_X6_makeOne : GoodIn wsX8_passesIn (va_wsS RX8 282 yX6_makeOne wsX6_makeOne) := goodIn_app (goodIn_of _ (by decide +kernel)) ggX8_passesIn_X6_makeOne
theorem dX8_passesIn_0 : decode cX8_passesIn 0 = .ok (.iload_n 1, 1) := by decide +kernel
theorem dX8_passesIn_1 : decode cX8_passesIn 1 = .ok (.invokestatic 137, 3) := by decide +kernel
theorem dX8_passesIn_4 : decode cX8_passesIn 4 = .ok (.aload_n 0, 1) := by decide +kernel
theorem dX8_passesIn_5 : decode cX8_passesIn 5 = .ok (.getfield 23, 3) := by decide +kernel
theorem dX8_passesIn_8 : decode cX8_passesIn 8 = .ok (.aload_n 0, 1) := by decide +kernel
theorem dX8_passesIn_9 : decode cX8_passesIn 9 = .ok (.getfield 19, 3) := by decide +kernel
theorem dX8_passesIn_12 : decode cX8_passesIn 12 = .ok (.invokevirtual 279, 3) := by decide +kernel
theorem dX8_passesIn_15 : decode cX8_passesIn 15 = .ok (.aload_n 0, 1) := by decide +kernel
theorem dX8_passesIn_16 : decode cX8_passesIn 16 = .ok (.getfield 23, 3) := by decide +kernel
theorem dX8_passesIn_19 : decode cX8_passesIn 19 = .ok (.iload_n 1, 1) := by decide +kernel
theorem dX8_passesIn_20 : decode cX8_passesIn 20 = .ok (.invokevirtual 140, 3) := by decide +kernel
theorem dX8_passesIn_23 : decode cX8_passesIn 23 = .ok (.astore_n 2, 1) := by decide +kernel
theorem dX8_passesIn_24 : decode cX8_passesIn 24 = .ok (.aload_n 2, 1) := by decide +kernel
theorem dX8_passesIn_25 : decode cX8_passesIn 25 = .ok (.getfield 152, 3) := by decide +kernel
theorem dX8_passesIn_28 : decode cX8_passesIn 28 = .ok (.istore_n 3, 1) := by decide +kernel
theorem dX8_passesIn_29 : decode cX8_passesIn 29 = .ok (.iconst 1, 1) := by decide +kernel
theorem dX8_passesIn_30 : decode cX8_passesIn 30 = .ok (.istore 4, 2) := by decide +kernel
theorem dX8_passesIn_32 : decode cX8_passesIn 32 = .ok (.iload 4, 2) := by decide +kernel
theorem dX8_passesIn_34 : decode cX8_passesIn 34 = .ok (.sipush 150, 3) := by decide +kernel
theorem dX8_passesIn_37 : decode cX8_passesIn 37 = .ok (.if_icmp .gt 28, 3) := by decide +kernel
theorem dX8_passesIn_40 : decode cX8_passesIn 40 = .ok (.aload_n 0, 1) := by decide +kernel
theorem dX8_passesIn_41 : decode cX8_passesIn 41 = .ok (.getfield 23, 3) := by decide +kernel
theorem dX8_passesIn_44 : decode cX8_passesIn 44 = .ok (.invokestatic 282, 3) := by decide +kernel
theorem dX8_passesIn_47 : decode cX8_passesIn 47 = .ok (.pop, 1) := by decide +kernel
theorem dX8_passesIn_48 : decode cX8_passesIn 48 = .ok (.aload_n 2, 1) := by decide +kernel
theorem dX8_passesIn_49 : decode cX8_passesIn 49 = .ok (.getfield 152, 3) := by decide +kernel
theorem dX8_passesIn_52 : decode cX8_passesIn 52 = .ok (.iload_n 3, 1) := by decide +kernel
theorem dX8_passesIn_53 : decode cX8_passesIn 53 = .ok (.if_icmp .eq 6, 3) := by decide +kernel
theorem dX8_passesIn_56 : decode cX8_passesIn 56 = .ok (.iload 4, 2) := by decide +kernel
theorem dX8_passesIn_58 : decode cX8_passesIn 58 = .ok (.ireturn, 1) := by decide +kernel
theorem dX8_passesIn_59 : decode cX8_passesIn 59 = .ok (.iinc 4 1, 3) := by decide +kernel
theorem dX8_passesIn_62 : decode cX8_passesIn 62 = .ok (.goto (-30), 3) := by decide +kernel
theorem dX8_passesIn_65 : decode cX8_passesIn 65 = .ok (.iconst (-1), 1) := by decide +kernel
theorem dX8_passesIn_66 : decode cX8_passesIn 66 = .ok (.ireturn, 1) := by decide +kernel
set_option maxRecDepth 20000 in
theorem ggX8_loopByWaiting_X1_copyFrom : GoodIn wsX8_loopByWaiting wsX1_copyFrom := goodIn_r _ [8, 9, 10, 11, 12, 13, 14, 15, 16, 17, 18, 19, 20, 21, 22, 23, 24, 25, 26, 27, 28, 29, 30, 31, 32, 33, 34, 35, 190, 191, 192, 193, 194, 195, 196, 197, 198, 199, 200, 201, 202, 203, 204, 205, 206, 207, 208, 209, 210, 211] (by decide +kernel) (by decide +kernel)
set_option maxRecDepth 20000 in
theorem gX8_loopByWaiting_X1_copyFrom : GoodIn wsX8_loopByWaiting (wsV RX8 279 RX1 yX1_copyFrom wsX1_copyFrom) := goodIn_app (goodIn_of _ (by decide +kernel)) ggX8_loopByWaiting_X1_copyFrom
set_option maxRecDepth 20000 in
theorem ggX8_loopByWaiting_X6_makeSome : GoodIn wsX8_loopByWaiting wsX6_makeSome := goodIn_r _ [39, 40, 41, 38, 42, 43, 44, 45, 46, 47, 48, 49, 50, 51, 52, 24, 53, 27, 54, 55, 56, 57, 34, 33, 58, 59, 60, 61, 35, 62, 63, 64, 65, 66, 67, 68, 69, 70, 71, 7, 72, 13, 11, 73, 12, 74, 75, 76, 77, 78, 79, 80, 81, 82, 83, 84, 9, 85, 86, 87, 88, 89, 90, 91, 92, 93, 94, 95, 96, 97, 98, 99, 100, 101, 102, 103, 104, 105, 106, 107, 108, 109, 110, 111, 112, 113, 114, 115, 116, 117, 118, 119, 120, 121, 122, 123, 124, 125, 126, 127, 128, 129, 130, 131, 132, 133, 134, 135, 136, 137, 138, 139, 140, 141, 142, 143, 144, 145, 146, 147, 148, 149, 150, 151, 152, 153, 154, 155, 156, 157, 158, 159, 160, 161, 162, 163, 164, 165, 166, 167, 168, 169, 16, 10, 190, 191, 192, 193, 194, 195, 196, 197, 198, 199, 200, 201, 202, 203, 204, 205, 206, 207, 208, 209, 210, 211] (by decide +kernel) (by decide +kernel)
set_option maxRecDepth 20000 in
theorem gX8_loopByWaiting_X6_makeSome : GoodIn wsX8_loopByWaiting (va_wsS RX8 239 yX6_makeSome wsX6_makeSome) := goodIn_app (goodIn_of _ (by decide +kernel)) ggX8_loopByWaiting_X6_makeSome
set_option maxRecDepth 20000 in
theorem ggX8_loopByWaiting_X1_robotsAsNumber : GoodIn wsX8_loopByWaiting wsX1_robotsAsNumber := goodIn_r _ [173, 11, 12, 174, 175, 7, 176, 73, 177, 178, 179, 190, 191, 192, 193, 194, 195, 196, 197, 198, 199, 200, 201, 202, 203, 204, 205, 206, 207, 208, 209, 210, 211] (by decide +kernel) (by decide +kernel)
set_option maxRecDepth 20000 in
theorem gX8_loopByWaiting_X1_robotsAsNumber : GoodIn wsX8_loopByWaiting (wsV RX8 285 RX1 yX1_robotsAsNumber wsX1_robotsAsNumber) := goodIn_app (goodIn_of _ (by decide +kernel)) ggX8_loopByWaiting_X1_robotsAsNumber
set_option maxRecDepth 20000 in
theorem ggX8_loopByWaiting_X6_makeOne : GoodIn wsX8_loopByWaiting wsX6_makeOne := goodIn_r _ [42, 43, 44, 45, 46, 47, 38, 48, 49, 50, 51, 52, 24, 53, 27, 54, 55, 56, 57, 34, 33, 58, 59, 60, 61, 35, 62, 63, 64, 65, 66, 67, 68, 69, 70, 71, 7, 72, 13, 11, 73, 12, 74, 75, 76, 77, 78, 79, 80, 81, 82, 83, 84, 9, 85, 86, 87, 88, 89, 90, 91, 92, 93, 94, 95, 96, 97, 98, 99, 100, 101, 102, 103, 104, 105, 106, 107, 108, 109, 110, 111, 112, 113, 114, 115, 116, 117, 118, 119, 120, 121, 122, 123, 124, 125, 126, 127, 128, 129, 130, 131, 132, 133, 134, 135, 136, 137, 138, 139, 140, 141, 142, 143, 144, 145, 146, 147, 148, 149, 150, 151, 152, 153, 154, 155, 156, 157, 158, 159, 160, 161, 162, 163, 164, 165, 166, 167, 168, 169, 16, 10, 190, 191, 192, 193, 194, 195, 196, 197, 198, 199, 200, 201, 202, 203, 204, 205, 206, 207, 208, 209, 210, 211] (by decide +kernel) (by decide +kernel)
set_option maxRecDepth 20000 in
theorem gX8_loopByWaiting_X6_makeOne : GoodIn wsX8_loopByWaiting (va_wsS RX8 282 yX6_makeOne wsX6_makeOne) := goodIn_app (goodIn_of _ (by decide +kernel)) ggX8_loopByWaiting_X6_makeOne
theorem dX8_loopByWaiting_0 : decode cX8_loopByWaiting 0 = .ok (.aload_n 0, 1) := by decide +kernel
theorem dX8_loopByWaiting_1 : decode cX8_loopByWaiting 1 = .ok (.getfield 23, 3) := by decide +kernel
theorem dX8_loopByWaiting_4 : decode cX8_loopByWaiting 4 = .ok (.aload_n 0, 1) := by decide +kernel
theorem dX8_loopByWaiting_5 : decode cX8_loopByWaiting 5 = .ok (.getfield 19, 3) := by decide +kernel
theorem dX8_loopByWaiting_8 : decode cX8_loopByWaiting 8 = .ok (.invokevirtual 279, 3) := by decide +kernel
theorem dX8_loopByWaiting_11 : decode cX8_loopByWaiting 11 = .ok (.aload_n 0, 1) := by decide +kernel
theorem dX8_loopByWaiting_12 : decode cX8_loopByWaiting 12 = .ok (.getfield 23, 3) := by decide +kernel
theorem dX8_loopByWaiting_15 : decode cX8_loopByWaiting 15 = .ok (.bipush 120, 2) := by decide +kernel
theorem dX8_loopByWaiting_17 : decode cX8_loopByWaiting 17 = .ok (.invokestatic 239, 3) := by decide +kernel
theorem dX8_loopByWaiting_20 : decode cX8_loopByWaiting 20 = .ok (.pop, 1) := by decide +kernel
theorem dX8_loopByWaiting_21 : decode cX8_loopByWaiting 21 = .ok (.aload_n 0, 1) := by decide +kernel
theorem dX8_loopByWaiting_22 : decode cX8_loopByWaiting 22 = .ok (.getfield 23, 3) := by decide +kernel
theorem dX8_loopByWaiting_25 : decode cX8_loopByWaiting 25 = .ok (.getfield 104, 3) := by decide +kernel
theorem dX8_loopByWaiting_28 : decode cX8_loopByWaiting 28 = .ok (.lstore_n 1, 1) := by decide +kernel
theorem dX8_loopByWaiting_29 : decode cX8_loopByWaiting 29 = .ok (.aload_n 0, 1) := by decide +kernel
theorem dX8_loopByWaiting_30 : decode cX8_loopByWaiting 30 = .ok (.getfield 23, 3) := by decide +kernel
theorem dX8_loopByWaiting_33 : decode cX8_loopByWaiting 33 = .ok (.invokevirtual 285, 3) := by decide +kernel
theorem dX8_loopByWaiting_36 : decode cX8_loopByWaiting 36 = .ok (.lstore_n 3, 1) := by decide +kernel
theorem dX8_loopByWaiting_37 : decode cX8_loopByWaiting 37 = .ok (.iconst 1, 1) := by decide +kernel
theorem dX8_loopByWaiting_38 : decode cX8_loopByWaiting 38 = .ok (.istore 5, 2) := by decide +kernel
theorem dX8_loopByWaiting_40 : decode cX8_loopByWaiting 40 = .ok (.iload 5, 2) := by decide +kernel
theorem dX8_loopByWaiting_42 : decode cX8_loopByWaiting 42 = .ok (.bipush 120, 2) := by decide +kernel
theorem dX8_loopByWaiting_44 : decode cX8_loopByWaiting 44 = .ok (.if_icmp .gt 44, 3) := by decide +kernel
theorem dX8_loopByWaiting_47 : decode cX8_loopByWaiting 47 = .ok (.aload_n 0, 1) := by decide +kernel
theorem dX8_loopByWaiting_48 : decode cX8_loopByWaiting 48 = .ok (.getfield 23, 3) := by decide +kernel
theorem dX8_loopByWaiting_51 : decode cX8_loopByWaiting 51 = .ok (.invokestatic 282, 3) := by decide +kernel
theorem dX8_loopByWaiting_54 : decode cX8_loopByWaiting 54 = .ok (.pop, 1) := by decide +kernel
theorem dX8_loopByWaiting_55 : decode cX8_loopByWaiting 55 = .ok (.aload_n 0, 1) := by decide +kernel
theorem dX8_loopByWaiting_56 : decode cX8_loopByWaiting 56 = .ok (.getfield 23, 3) := by decide +kernel
theorem dX8_loopByWaiting_59 : decode cX8_loopByWaiting 59 = .ok (.getfield 104, 3) := by decide +kernel
theorem dX8_loopByWaiting_62 : decode cX8_loopByWaiting 62 = .ok (.lload_n 1, 1) := by decide +kernel
theorem dX8_loopByWaiting_63 : decode cX8_loopByWaiting 63 = .ok (.lcmp, 1) := by decide +kernel
theorem dX8_loopByWaiting_64 : decode cX8_loopByWaiting 64 = .ok (.ifCond .ne 18, 3) := by decide +kernel
theorem dX8_loopByWaiting_67 : decode cX8_loopByWaiting 67 = .ok (.aload_n 0, 1) := by decide +kernel
theorem dX8_loopByWaiting_68 : decode cX8_loopByWaiting 68 = .ok (.getfield 23, 3) := by decide +kernel
theorem dX8_loopByWaiting_71 : decode cX8_loopByWaiting 71 = .ok (.invokevirtual 285, 3) := by decide +kernel
theorem dX8_loopByWaiting_74 : decode cX8_loopByWaiting 74 = .ok (.lload_n 3, 1) := by decide +kernel
theorem dX8_loopByWaiting_75 : decode cX8_loopByWaiting 75 = .ok (.lcmp, 1) := by decide +kernel
theorem dX8_loopByWaiting_76 : decode cX8_loopByWaiting 76 = .ok (.ifCond .ne 6, 3) := by decide +kernel
theorem dX8_loopByWaiting_79 : decode cX8_loopByWaiting 79 = .ok (.iload 5, 2) := by decide +kernel
theorem dX8_loopByWaiting_81 : decode cX8_loopByWaiting 81 = .ok (.ireturn, 1) := by decide +kernel
theorem dX8_loopByWaiting_82 : decode cX8_loopByWaiting 82 = .ok (.iinc 5 1, 3) := by decide +kernel
theorem dX8_loopByWaiting_85 : decode cX8_loopByWaiting 85 = .ok (.goto (-45), 3) := by decide +kernel
theorem dX8_loopByWaiting_88 : decode cX8_loopByWaiting 88 = .ok (.iconst (-1), 1) := by decide +kernel
theorem dX8_loopByWaiting_89 : decode cX8_loopByWaiting 89 = .ok (.ireturn, 1) := by decide +kernel
set_option maxRecDepth 20000 in
theorem ggX8_loopByKeeping_X1_copyFrom : GoodIn wsX8_loopByKeeping wsX1_copyFrom := goodIn_r _ [10, 11, 12, 13, 14, 15, 16, 17, 18, 19, 20, 21, 22, 23, 24, 25, 26, 27, 28, 29, 30, 31, 32, 33, 34, 35, 36, 37, 197, 198, 199, 200, 201, 202, 203, 204, 205, 206, 207, 208, 209, 210, 211, 212, 213, 214, 215, 216, 217, 218] (by decide +kernel) (by decide +kernel)
set_option maxRecDepth 20000 in
theorem gX8_loopByKeeping_X1_copyFrom : GoodIn wsX8_loopByKeeping (wsV RX8 279 RX1 yX1_copyFrom wsX1_copyFrom) := goodIn_app (goodIn_of _ (by decide +kernel)) ggX8_loopByKeeping_X1_copyFrom
set_option maxRecDepth 20000 in
theorem ggX8_loopByKeeping_X1_robotsAsNumber : GoodIn wsX8_loopByKeeping wsX1_robotsAsNumber := goodIn_r _ [41, 13, 14, 42, 43, 9, 44, 45, 46, 47, 48, 197, 198, 199, 200, 201, 202, 203, 204, 205, 206, 207, 208, 209, 210, 211, 212, 213, 214, 215, 216, 217, 218] (by decide +kernel) (by decide +kernel)
set_option maxRecDepth 20000 in
theorem gX8_loopByKeeping_X1_robotsAsNumber : GoodIn wsX8_loopByKeeping (wsV RX8 285 RX1 yX1_robotsAsNumber wsX1_robotsAsNumber) := goodIn_app (goodIn_of _ (by decide +kernel)) ggX8_loopByKeeping_X1_robotsAsNumber
set_option maxRecDepth 20000 in
theorem ggX8_loopByKeeping_X6_makeOne : GoodIn wsX8_loopByKeeping wsX6_makeOne := goodIn_r _ [52, 53, 54, 55, 56, 57, 51, 58, 59, 60, 61, 62, 26, 63, 29, 64, 65, 66, 67, 36, 35, 68, 69, 70, 71, 37, 72, 73, 74, 75, 76, 77, 78, 79, 80, 81, 9, 82, 15, 13, 45, 14, 83, 84, 85, 86, 87, 88, 89, 90, 91, 92, 93, 11, 94, 95, 96, 97, 98, 99, 100, 101, 102, 103, 104, 105, 106, 107, 108, 109, 110, 111, 112, 113, 114, 115, 116, 117, 118, 119, 120, 121, 122, 123, 124, 125, 126, 127, 128, 129, 130, 131, 132, 133, 134, 135, 136, 137, 138, 139, 140, 141, 142, 143, 144, 145, 146, 147, 148, 149, 150, 151, 152, 153, 154, 155, 156, 157, 158, 159, 160, 161, 162, 163, 164, 165, 166, 167, 168, 169, 170, 171, 172, 173, 174, 175, 176, 177, 178, 18, 12, 197, 198, 199, 200, 201, 202, 203, 204, 205, 206, 207, 208, 209, 210, 211, 212, 213, 214, 215, 216, 217, 218] (by decide +kernel) (by decide +kernel)
set_option maxRecDepth 20000 in
theorem gX8_loopByKeeping_X6_makeOne : GoodIn wsX8_loopByKeeping (va_wsS RX8 282 yX6_makeOne wsX6_makeOne) := goodIn_app (goodIn_of _ (by decide +kernel)) ggX8_loopByKeeping_X6_makeOne
set_option maxRecDepth 20000 in
theorem ggX8_loopByKeeping_X8_keptAlike : GoodIn wsX8_loopByKeeping wsX8_keptAlike := goodIn_r _ [183, 3, 4, 184, 185, 186, 187, 188, 189, 190, 191, 192, 193, 194, 195, 196] (by decide +kernel) (by decide +kernel)
set_option maxRecDepth 20000 in
theorem gX8_loopByKeeping_X8_keptAlike : GoodIn wsX8_loopByKeeping (wsV RX8 289 RX8 yX8_keptAlike wsX8_keptAlike) := goodIn_app (goodIn_of _ (by decide +kernel)) ggX8_loopByKeeping_X8_keptAlike
theorem dX8_loopByKeeping_0 : decode cX8_loopByKeeping 0 = .ok (.aload_n 0, 1) := by decide +kernel
theorem dX8_loopByKeeping_1 : decode cX8_loopByKeeping 1 = .ok (.getfield 23, 3) := by decide +kernel
theorem dX8_loopByKeeping_4 : decode cX8_loopByKeeping 4 = .ok (.aload_n 0, 1) := by decide +kernel
theorem dX8_loopByKeeping_5 : decode cX8_loopByKeeping 5 = .ok (.getfield 19, 3) := by decide +kernel
theorem dX8_loopByKeeping_8 : decode cX8_loopByKeeping 8 = .ok (.invokevirtual 279, 3) := by decide +kernel
theorem dX8_loopByKeeping_11 : decode cX8_loopByKeeping 11 = .ok (.iconst 0, 1) := by decide +kernel
theorem dX8_loopByKeeping_12 : decode cX8_loopByKeeping 12 = .ok (.istore_n 1, 1) := by decide +kernel
theorem dX8_loopByKeeping_13 : decode cX8_loopByKeeping 13 = .ok (.iload_n 1, 1) := by decide +kernel
theorem dX8_loopByKeeping_14 : decode cX8_loopByKeeping 14 = .ok (.aload_n 0, 1) := by decide +kernel
theorem dX8_loopByKeeping_15 : decode cX8_loopByKeeping 15 = .ok (.getfield 50, 3) := by decide +kernel
theorem dX8_loopByKeeping_18 : decode cX8_loopByKeeping 18 = .ok (.arraylength, 1) := by decide +kernel
theorem dX8_loopByKeeping_19 : decode cX8_loopByKeeping 19 = .ok (.if_icmp .ge 52, 3) := by decide +kernel
theorem dX8_loopByKeeping_22 : decode cX8_loopByKeeping 22 = .ok (.iload_n 1, 1) := by decide +kernel
theorem dX8_loopByKeeping_23 : decode cX8_loopByKeeping 23 = .ok (.aload_n 0, 1) := by decide +kernel
theorem dX8_loopByKeeping_24 : decode cX8_loopByKeeping 24 = .ok (.getfield 54, 3) := by decide +kernel
theorem dX8_loopByKeeping_27 : decode cX8_loopByKeeping 27 = .ok (.arraylength, 1) := by decide +kernel
theorem dX8_loopByKeeping_28 : decode cX8_loopByKeeping 28 = .ok (.if_icmp .ge 43, 3) := by decide +kernel
theorem dX8_loopByKeeping_31 : decode cX8_loopByKeeping 31 = .ok (.aload_n 0, 1) := by decide +kernel
theorem dX8_loopByKeeping_32 : decode cX8_loopByKeeping 32 = .ok (.getfield 50, 3) := by decide +kernel
theorem dX8_loopByKeeping_35 : decode cX8_loopByKeeping 35 = .ok (.iload_n 1, 1) := by decide +kernel
theorem dX8_loopByKeeping_36 : decode cX8_loopByKeeping 36 = .ok (.aload_n 0, 1) := by decide +kernel
theorem dX8_loopByKeeping_37 : decode cX8_loopByKeeping 37 = .ok (.getfield 23, 3) := by decide +kernel
theorem dX8_loopByKeeping_40 : decode cX8_loopByKeeping 40 = .ok (.getfield 104, 3) := by decide +kernel
theorem dX8_loopByKeeping_43 : decode cX8_loopByKeeping 43 = .ok (.lastore, 1) := by decide +kernel
theorem dX8_loopByKeeping_44 : decode cX8_loopByKeeping 44 = .ok (.aload_n 0, 1) := by decide +kernel
theorem dX8_loopByKeeping_45 : decode cX8_loopByKeeping 45 = .ok (.getfield 54, 3) := by decide +kernel
theorem dX8_loopByKeeping_48 : decode cX8_loopByKeeping 48 = .ok (.iload_n 1, 1) := by decide +kernel
theorem dX8_loopByKeeping_49 : decode cX8_loopByKeeping 49 = .ok (.aload_n 0, 1) := by decide +kernel
theorem dX8_loopByKeeping_50 : decode cX8_loopByKeeping 50 = .ok (.getfield 23, 3) := by decide +kernel
theorem dX8_loopByKeeping_53 : decode cX8_loopByKeeping 53 = .ok (.invokevirtual 285, 3) := by decide +kernel
theorem dX8_loopByKeeping_56 : decode cX8_loopByKeeping 56 = .ok (.lastore, 1) := by decide +kernel
theorem dX8_loopByKeeping_57 : decode cX8_loopByKeeping 57 = .ok (.aload_n 0, 1) := by decide +kernel
theorem dX8_loopByKeeping_58 : decode cX8_loopByKeeping 58 = .ok (.getfield 23, 3) := by decide +kernel
theorem dX8_loopByKeeping_61 : decode cX8_loopByKeeping 61 = .ok (.invokestatic 282, 3) := by decide +kernel
theorem dX8_loopByKeeping_64 : decode cX8_loopByKeeping 64 = .ok (.pop, 1) := by decide +kernel
theorem dX8_loopByKeeping_65 : decode cX8_loopByKeeping 65 = .ok (.iinc 1 1, 3) := by decide +kernel
theorem dX8_loopByKeeping_68 : decode cX8_loopByKeeping 68 = .ok (.goto (-55), 3) := by decide +kernel
theorem dX8_loopByKeeping_71 : decode cX8_loopByKeeping 71 = .ok (.iconst 1, 1) := by decide +kernel
theorem dX8_loopByKeeping_72 : decode cX8_loopByKeeping 72 = .ok (.istore_n 1, 1) := by decide +kernel
theorem dX8_loopByKeeping_73 : decode cX8_loopByKeeping 73 = .ok (.iload_n 1, 1) := by decide +kernel
theorem dX8_loopByKeeping_74 : decode cX8_loopByKeeping 74 = .ok (.bipush 120, 2) := by decide +kernel
theorem dX8_loopByKeeping_76 : decode cX8_loopByKeeping 76 = .ok (.if_icmp .gt 24, 3) := by decide +kernel
theorem dX8_loopByKeeping_79 : decode cX8_loopByKeeping 79 = .ok (.aload_n 0, 1) := by decide +kernel
theorem dX8_loopByKeeping_80 : decode cX8_loopByKeeping 80 = .ok (.bipush 120, 2) := by decide +kernel
theorem dX8_loopByKeeping_82 : decode cX8_loopByKeeping 82 = .ok (.bipush 120, 2) := by decide +kernel
theorem dX8_loopByKeeping_84 : decode cX8_loopByKeeping 84 = .ok (.iload_n 1, 1) := by decide +kernel
theorem dX8_loopByKeeping_85 : decode cX8_loopByKeeping 85 = .ok (.iadd, 1) := by decide +kernel
theorem dX8_loopByKeeping_86 : decode cX8_loopByKeeping 86 = .ok (.invokevirtual 289, 3) := by decide +kernel
theorem dX8_loopByKeeping_89 : decode cX8_loopByKeeping 89 = .ok (.ifCond .eq 5, 3) := by decide +kernel
theorem dX8_loopByKeeping_92 : decode cX8_loopByKeeping 92 = .ok (.iload_n 1, 1) := by decide +kernel
theorem dX8_loopByKeeping_93 : decode cX8_loopByKeeping 93 = .ok (.ireturn, 1) := by decide +kernel
theorem dX8_loopByKeeping_94 : decode cX8_loopByKeeping 94 = .ok (.iinc 1 1, 3) := by decide +kernel
theorem dX8_loopByKeeping_97 : decode cX8_loopByKeeping 97 = .ok (.goto (-24), 3) := by decide +kernel
theorem dX8_loopByKeeping_100 : decode cX8_loopByKeeping 100 = .ok (.iconst (-1), 1) := by decide +kernel
theorem dX8_loopByKeeping_101 : decode cX8_loopByKeeping 101 = .ok (.ireturn, 1) := by decide +kernel
set_option maxRecDepth 20000 in
theorem ggX8_fewestBySpreading_X8_checkRobot : GoodIn wsX8_fewestBySpreading wsX8_checkRobot := goodIn_ca (goodIn_r _ [8, 9, 10] (by decide +kernel) (by decide +kernel)) (goodIn_sub (fun _ h => List.mem_cons_of_mem _ (List.mem_append_right _ h)) (by decide +kernel))
set_option maxRecDepth 20000 in
theorem gX8_fewestBySpreading_X8_checkRobot : GoodIn wsX8_fewestBySpreading (va_wsS RX8 137 yX8_checkRobot wsX8_checkRobot) := goodIn_app (goodIn_of _ (by decide +kernel)) ggX8_fewestBySpreading_X8_checkRobot
set_option maxRecDepth 20000 in
theorem ggX8_fewestBySpreading_X8_checkCell : GoodIn wsX8_fewestBySpreading wsX8_checkCell := goodIn_ca (goodIn_r _ [13, 9, 10] (by decide +kernel) (by decide +kernel)) (goodIn_sub (fun _ h => List.mem_cons_of_mem _ (List.mem_append_right _ h)) (by decide +kernel))
set_option maxRecDepth 20000 in
theorem gX8_fewestBySpreading_X8_checkCell : GoodIn wsX8_fewestBySpreading (va_wsS RX8 97 yX8_checkCell wsX8_checkCell) := goodIn_app (goodIn_of _ (by decide +kernel)) ggX8_fewestBySpreading_X8_checkCell
set_option maxRecDepth 20000 in
theorem ggX8_fewestBySpreading_X1_robot : GoodIn wsX8_fewestBySpreading wsX1_robot := goodIn_r _ [18, 19, 20, 94, 95, 96, 97, 98, 99, 100, 101, 102, 103, 104, 105] (by decide +kernel) (by decide +kernel)
set_option maxRecDepth 20000 in
theorem gX8_fewestBySpreading_X1_robot : GoodIn wsX8_fewestBySpreading (wsV RX8 140 RX1 yX1_robot wsX1_robot) := goodIn_app (goodIn_of _ (by decide +kernel)) ggX8_fewestBySpreading_X1_robot
set_option maxRecDepth 20000 in
theorem ggX8_fewestBySpreading_X0_standOf : GoodIn wsX8_fewestBySpreading wsX0_standOf := goodIn_r _ [24] (by decide +kernel) (by decide +kernel)
set_option maxRecDepth 20000 in
theorem gX8_fewestBySpreading_X0_standOf : GoodIn wsX8_fewestBySpreading (va_wsS RX8 292 yX0_standOf wsX0_standOf) := goodIn_app (goodIn_of _ (by decide +kernel)) ggX8_fewestBySpreading_X0_standOf
set_option maxRecDepth 20000 in
theorem ggX8_fewestBySpreading_X0_spread : GoodIn wsX8_fewestBySpreading wsX0_spread := goodIn_r _ [28, 29, 30, 31, 32, 33, 23, 34, 35, 36, 37, 38, 39, 40, 41, 42, 43, 44, 45, 46, 47, 48, 49, 50, 51, 52, 17, 53, 54, 55, 56, 57, 58, 59, 22, 24, 60, 61, 62, 63, 64, 65, 66, 67, 68, 69, 70, 71, 72, 73, 74, 106, 107, 94, 95, 96, 97, 98, 99, 100, 101, 102, 103, 104, 105] (by decide +kernel) (by decide +kernel)
set_option maxRecDepth 20000 in
theorem gX8_fewestBySpreading_X0_spread : GoodIn wsX8_fewestBySpreading (wsV RX8 296 RX0 yX0_spread wsX0_spread) := goodIn_app (goodIn_of _ (by decide +kernel)) ggX8_fewestBySpreading_X0_spread
theorem dX8_fewestBySpreading_0 : decode cX8_fewestBySpreading 0 = .ok (.iload_n 1, 1) := by decide +kernel
theorem dX8_fewestBySpreading_1 : decode cX8_fewestBySpreading 1 = .ok (.invokestatic 137, 3) := by decide +kernel
theorem dX8_fewestBySpreading_4 : decode cX8_fewestBySpreading 4 = .ok (.iload_n 2, 1) := by decide +kernel
theorem dX8_fewestBySpreading_5 : decode cX8_fewestBySpreading 5 = .ok (.invokestatic 97, 3) := by decide +kernel
theorem dX8_fewestBySpreading_8 : decode cX8_fewestBySpreading 8 = .ok (.aload_n 0, 1) := by decide +kernel
theorem dX8_fewestBySpreading_9 : decode cX8_fewestBySpreading 9 = .ok (.getfield 19, 3) := by decide +kernel
theorem dX8_fewestBySpreading_12 : decode cX8_fewestBySpreading 12 = .ok (.iload_n 1, 1) := by decide +kernel
theorem dX8_fewestBySpreading_13 : decode cX8_fewestBySpreading 13 = .ok (.invokevirtual 140, 3) := by decide +kernel
theorem dX8_fewestBySpreading_16 : decode cX8_fewestBySpreading 16 = .ok (.astore_n 3, 1) := by decide +kernel
theorem dX8_fewestBySpreading_17 : decode cX8_fewestBySpreading 17 = .ok (.aload_n 0, 1) := by decide +kernel
theorem dX8_fewestBySpreading_18 : decode cX8_fewestBySpreading 18 = .ok (.getfield 46, 3) := by decide +kernel
theorem dX8_fewestBySpreading_21 : decode cX8_fewestBySpreading 21 = .ok (.aload_n 0, 1) := by decide +kernel
theorem dX8_fewestBySpreading_22 : decode cX8_fewestBySpreading 22 = .ok (.getfield 19, 3) := by decide +kernel
theorem dX8_fewestBySpreading_25 : decode cX8_fewestBySpreading 25 = .ok (.aload_n 3, 1) := by decide +kernel
theorem dX8_fewestBySpreading_26 : decode cX8_fewestBySpreading 26 = .ok (.getfield 144, 3) := by decide +kernel
theorem dX8_fewestBySpreading_29 : decode cX8_fewestBySpreading 29 = .ok (.aload_n 3, 1) := by decide +kernel
theorem dX8_fewestBySpreading_30 : decode cX8_fewestBySpreading 30 = .ok (.getfield 149, 3) := by decide +kernel
theorem dX8_fewestBySpreading_33 : decode cX8_fewestBySpreading 33 = .ok (.invokestatic 292, 3) := by decide +kernel
theorem dX8_fewestBySpreading_36 : decode cX8_fewestBySpreading 36 = .ok (.iload_n 2, 1) := by decide +kernel
theorem dX8_fewestBySpreading_37 : decode cX8_fewestBySpreading 37 = .ok (.invokevirtual 296, 3) := by decide +kernel
theorem dX8_fewestBySpreading_40 : decode cX8_fewestBySpreading 40 = .ok (.ireturn, 1) := by decide +kernel
set_option maxRecDepth 20000 in
theorem ggX8_fewestBySweeping_X8_checkRobot : GoodIn wsX8_fewestBySweeping wsX8_checkRobot := goodIn_ca (goodIn_r _ [8, 9, 10] (by decide +kernel) (by decide +kernel)) (goodIn_sub (fun _ h => List.mem_cons_of_mem _ (List.mem_append_right _ h)) (by decide +kernel))
set_option maxRecDepth 20000 in
theorem gX8_fewestBySweeping_X8_checkRobot : GoodIn wsX8_fewestBySweeping (va_wsS RX8 137 yX8_checkRobot wsX8_checkRobot) := goodIn_app (goodIn_of _ (by decide +kernel)) ggX8_fewestBySweeping_X8_checkRobot
set_option maxRecDepth 20000 in
theorem ggX8_fewestBySweeping_X8_checkCell : GoodIn wsX8_fewestBySweeping wsX8_checkCell := goodIn_ca (goodIn_r _ [13, 9, 10] (by decide +kernel) (by decide +kernel)) (goodIn_sub (fun _ h => List.mem_cons_of_mem _ (List.mem_append_right _ h)) (by decide +kernel))
set_option maxRecDepth 20000 in
theorem gX8_fewestBySweeping_X8_checkCell : GoodIn wsX8_fewestBySweeping (va_wsS RX8 97 yX8_checkCell wsX8_checkCell) := goodIn_app (goodIn_of _ (by decide +kernel)) ggX8_fewestBySweeping_X8_checkCell
set_option maxRecDepth 20000 in
theorem ggX8_fewestBySweeping_X1_robot : GoodIn wsX8_fewestBySweeping wsX1_robot := goodIn_r _ [18, 19, 20, 97, 98, 99, 100, 101, 102, 103, 104, 105, 106, 107, 108] (by decide +kernel) (by decide +kernel)
set_option maxRecDepth 20000 in
theorem gX8_fewestBySweeping_X1_robot : GoodIn wsX8_fewestBySweeping (wsV RX8 140 RX1 yX1_robot wsX1_robot) := goodIn_app (goodIn_of _ (by decide +kernel)) ggX8_fewestBySweeping_X1_robot
set_option maxRecDepth 20000 in
theorem ggX8_fewestBySweeping_X0_standOf : GoodIn wsX8_fewestBySweeping wsX0_standOf := goodIn_r _ [24] (by decide +kernel) (by decide +kernel)
set_option maxRecDepth 20000 in
theorem gX8_fewestBySweeping_X0_standOf : GoodIn wsX8_fewestBySweeping (va_wsS RX8 292 yX0_standOf wsX0_standOf) := goodIn_app (goodIn_of _ (by decide +kernel)) ggX8_fewestBySweeping_X0_standOf
set_option maxRecDepth 20000 in
theorem ggX8_fewestBySweeping_X0_sweep : GoodIn wsX8_fewestBySweeping wsX0_sweep := goodIn_r _ [28, 29, 30, 31, 23, 32, 33, 34, 35, 36, 37, 38, 39, 40, 41, 42, 43, 44, 45, 46, 47, 48, 49, 50, 51, 52, 53, 54, 55, 17, 56, 57, 58, 59, 60, 61, 62, 22, 24, 63, 64, 65, 66, 67, 68, 69, 70, 71, 72, 73, 74, 75, 76, 77, 109, 110, 97, 98, 99, 100, 101, 102, 103, 104, 105, 106, 107, 108] (by decide +kernel) (by decide +kernel)
set_option maxRecDepth 20000 in
theorem gX8_fewestBySweeping_X0_sweep : GoodIn wsX8_fewestBySweeping (wsV RX8 300 RX0 yX0_sweep wsX0_sweep) := goodIn_app (goodIn_of _ (by decide +kernel)) ggX8_fewestBySweeping_X0_sweep
theorem dX8_fewestBySweeping_0 : decode cX8_fewestBySweeping 0 = .ok (.iload_n 1, 1) := by decide +kernel
theorem dX8_fewestBySweeping_1 : decode cX8_fewestBySweeping 1 = .ok (.invokestatic 137, 3) := by decide +kernel
theorem dX8_fewestBySweeping_4 : decode cX8_fewestBySweeping 4 = .ok (.iload_n 2, 1) := by decide +kernel
theorem dX8_fewestBySweeping_5 : decode cX8_fewestBySweeping 5 = .ok (.invokestatic 97, 3) := by decide +kernel
theorem dX8_fewestBySweeping_8 : decode cX8_fewestBySweeping 8 = .ok (.aload_n 0, 1) := by decide +kernel
theorem dX8_fewestBySweeping_9 : decode cX8_fewestBySweeping 9 = .ok (.getfield 19, 3) := by decide +kernel
theorem dX8_fewestBySweeping_12 : decode cX8_fewestBySweeping 12 = .ok (.iload_n 1, 1) := by decide +kernel
theorem dX8_fewestBySweeping_13 : decode cX8_fewestBySweeping 13 = .ok (.invokevirtual 140, 3) := by decide +kernel
theorem dX8_fewestBySweeping_16 : decode cX8_fewestBySweeping 16 = .ok (.astore_n 3, 1) := by decide +kernel
theorem dX8_fewestBySweeping_17 : decode cX8_fewestBySweeping 17 = .ok (.aload_n 0, 1) := by decide +kernel
theorem dX8_fewestBySweeping_18 : decode cX8_fewestBySweeping 18 = .ok (.getfield 46, 3) := by decide +kernel
theorem dX8_fewestBySweeping_21 : decode cX8_fewestBySweeping 21 = .ok (.aload_n 0, 1) := by decide +kernel
theorem dX8_fewestBySweeping_22 : decode cX8_fewestBySweeping 22 = .ok (.getfield 19, 3) := by decide +kernel
theorem dX8_fewestBySweeping_25 : decode cX8_fewestBySweeping 25 = .ok (.aload_n 3, 1) := by decide +kernel
theorem dX8_fewestBySweeping_26 : decode cX8_fewestBySweeping 26 = .ok (.getfield 144, 3) := by decide +kernel
theorem dX8_fewestBySweeping_29 : decode cX8_fewestBySweeping 29 = .ok (.aload_n 3, 1) := by decide +kernel
theorem dX8_fewestBySweeping_30 : decode cX8_fewestBySweeping 30 = .ok (.getfield 149, 3) := by decide +kernel
theorem dX8_fewestBySweeping_33 : decode cX8_fewestBySweeping 33 = .ok (.invokestatic 292, 3) := by decide +kernel
theorem dX8_fewestBySweeping_36 : decode cX8_fewestBySweeping 36 = .ok (.iload_n 2, 1) := by decide +kernel
theorem dX8_fewestBySweeping_37 : decode cX8_fewestBySweeping 37 = .ok (.invokevirtual 300, 3) := by decide +kernel
theorem dX8_fewestBySweeping_40 : decode cX8_fewestBySweeping 40 = .ok (.ireturn, 1) := by decide +kernel
set_option maxRecDepth 20000 in
theorem ggX8_simulate_X1_copyFrom : GoodIn wsX8_simulate wsX1_copyFrom := goodIn_r _ [14, 15, 16, 17, 18, 19, 20, 21, 22, 23, 24, 25, 26, 27, 28, 29, 30, 31, 32, 33, 34, 35, 36, 37, 38, 39, 40, 41, 254, 255, 256, 257, 258, 259, 260, 261, 262, 263, 264, 265, 266, 267, 268, 269, 270, 271, 272, 273, 274, 275] (by decide +kernel) (by decide +kernel)
set_option maxRecDepth 20000 in
theorem gX8_simulate_X1_copyFrom : GoodIn wsX8_simulate (wsV RX8 279 RX1 yX1_copyFrom wsX1_copyFrom) := goodIn_app (goodIn_of _ (by decide +kernel)) ggX8_simulate_X1_copyFrom
set_option maxRecDepth 20000 in
theorem ggX8_simulate_X8_makeTurn : GoodIn wsX8_simulate wsX8_makeTurn := goodIn_r _ [46, 3, 47, 48, 49, 13, 50, 15, 20, 21, 51, 52, 53, 54, 55, 56, 57, 58, 19, 17, 59, 18, 60, 61, 62, 63, 64, 65, 66, 67, 68, 69, 70, 22, 71, 72, 73, 74, 16, 75, 76, 77, 78, 79, 80, 81, 82, 23, 83, 84, 85, 86, 87, 88, 89, 90, 91, 92, 93, 94, 95, 96, 97, 98, 99, 100, 101, 102, 103, 104, 105, 106, 107, 108, 109, 110, 111, 112, 113, 114, 115, 116, 117, 118, 119, 120, 121, 122, 123, 124, 125, 126, 127, 128, 129, 130, 30, 131, 40, 41, 132, 133, 134, 135, 39, 245, 246, 247, 248, 249, 250, 251, 252, 253, 254, 255, 256, 257, 258, 259, 260, 261, 262, 263, 264, 265, 266, 267, 268, 269, 270, 271, 272, 273, 274, 275] (by decide +kernel) (by decide +kernel)
set_option maxRecDepth 20000 in
theorem gX8_simulate_X8_makeTurn : GoodIn wsX8_simulate (wsV RX8 309 RX8 yX8_makeTurn wsX8_makeTurn) := goodIn_app (goodIn_of _ (by decide +kernel)) ggX8_simulate_X8_makeTurn
set_option maxRecDepth 20000 in
theorem ggX8_simulate_X6_makeSome : GoodIn wsX8_simulate wsX6_makeSome := goodIn_r _ [139, 140, 141, 138, 142, 143, 144, 145, 146, 147, 148, 149, 150, 151, 152, 30, 153, 33, 154, 155, 156, 157, 40, 39, 158, 159, 160, 161, 41, 162, 163, 62, 164, 165, 166, 167, 168, 56, 57, 13, 58, 19, 17, 59, 18, 60, 61, 63, 169, 170, 171, 172, 173, 92, 93, 94, 15, 174, 65, 66, 175, 176, 177, 178, 179, 180, 181, 182, 183, 184, 185, 186, 187, 188, 189, 190, 191, 192, 193, 194, 195, 196, 197, 198, 199, 100, 101, 102, 103, 104, 105, 200, 201, 202, 203, 204, 205, 206, 207, 208, 209, 210, 211, 212, 213, 214, 215, 216, 217, 218, 219, 220, 221, 222, 223, 224, 225, 226, 227, 228, 229, 230, 231, 232, 233, 234, 235, 236, 237, 238, 239, 91, 55, 64, 240, 241, 242, 243, 244, 72, 73, 74, 22, 16, 254, 255, 256, 257, 258, 259, 260, 261, 262, 263, 264, 265, 266, 267, 268, 269, 270, 271, 272, 273, 274, 275] (by decide +kernel) (by decide +kernel)
set_option maxRecDepth 20000 in
theorem gX8_simulate_X6_makeSome : GoodIn wsX8_simulate (va_wsS RX8 239 yX6_makeSome wsX6_makeSome) := goodIn_app (goodIn_of _ (by decide +kernel)) ggX8_simulate_X6_makeSome
theorem dX8_simulate_0 : decode cX8_simulate 0 = .ok (.iload_n 3, 1) := by decide +kernel
theorem dX8_simulate_1 : decode cX8_simulate 1 = .ok (.iconst 1, 1) := by decide +kernel
theorem dX8_simulate_2 : decode cX8_simulate 2 = .ok (.if_icmp .lt 9, 3) := by decide +kernel
theorem dX8_simulate_5 : decode cX8_simulate 5 = .ok (.iload_n 3, 1) := by decide +kernel
theorem dX8_simulate_6 : decode cX8_simulate 6 = .ok (.bipush 60, 2) := by decide +kernel
theorem dX8_simulate_8 : decode cX8_simulate 8 = .ok (.if_icmp .le 14, 3) := by decide +kernel
theorem dX8_simulate_11 : decode cX8_simulate 11 = .ok (.new 57, 3) := by decide +kernel
theorem dX8_simulate_14 : decode cX8_simulate 14 = .ok (.dup, 1) := by decide +kernel
theorem dX8_simulate_15 : decode cX8_simulate 15 = .ok (.ldc_w 303, 3) := by decide +kernel
theorem dX8_simulate_18 : decode cX8_simulate 18 = .ok (.invokespecial 61, 3) := by decide +kernel
theorem dX8_simulate_21 : decode cX8_simulate 21 = .ok (.athrow, 1) := by decide +kernel
theorem dX8_simulate_22 : decode cX8_simulate 22 = .ok (.aload_n 0, 1) := by decide +kernel
theorem dX8_simulate_23 : decode cX8_simulate 23 = .ok (.getfield 23, 3) := by decide +kernel
theorem dX8_simulate_26 : decode cX8_simulate 26 = .ok (.aload_n 0, 1) := by decide +kernel
theorem dX8_simulate_27 : decode cX8_simulate 27 = .ok (.getfield 19, 3) := by decide +kernel
theorem dX8_simulate_30 : decode cX8_simulate 30 = .ok (.invokevirtual 279, 3) := by decide +kernel
theorem dX8_simulate_33 : decode cX8_simulate 33 = .ok (.lload_n 1, 1) := by decide +kernel
theorem dX8_simulate_34 : decode cX8_simulate 34 = .ok (.lstore 4, 2) := by decide +kernel
theorem dX8_simulate_36 : decode cX8_simulate 36 = .ok (.iconst 0, 1) := by decide +kernel
theorem dX8_simulate_37 : decode cX8_simulate 37 = .ok (.istore 6, 2) := by decide +kernel
theorem dX8_simulate_39 : decode cX8_simulate 39 = .ok (.iconst 0, 1) := by decide +kernel
theorem dX8_simulate_40 : decode cX8_simulate 40 = .ok (.istore 7, 2) := by decide +kernel
theorem dX8_simulate_42 : decode cX8_simulate 42 = .ok (.iload 7, 2) := by decide +kernel
theorem dX8_simulate_44 : decode cX8_simulate 44 = .ok (.iload_n 3, 1) := by decide +kernel
theorem dX8_simulate_45 : decode cX8_simulate 45 = .ok (.if_icmp .ge 43, 3) := by decide +kernel
theorem dX8_simulate_48 : decode cX8_simulate 48 = .ok (.lload 4, 2) := by decide +kernel
theorem dX8_simulate_50 : decode cX8_simulate 50 = .ok (.ldc2_w 305, 3) := by decide +kernel
theorem dX8_simulate_53 : decode cX8_simulate 53 = .ok (.lmul, 1) := by decide +kernel
theorem dX8_simulate_54 : decode cX8_simulate 54 = .ok (.ldc2_w 307, 3) := by decide +kernel
theorem dX8_simulate_57 : decode cX8_simulate 57 = .ok (.ladd, 1) := by decide +kernel
theorem dX8_simulate_58 : decode cX8_simulate 58 = .ok (.lstore 4, 2) := by decide +kernel
theorem dX8_simulate_60 : decode cX8_simulate 60 = .ok (.iload 6, 2) := by decide +kernel
theorem dX8_simulate_62 : decode cX8_simulate 62 = .ok (.aload_n 0, 1) := by decide +kernel
theorem dX8_simulate_63 : decode cX8_simulate 63 = .ok (.getfield 23, 3) := by decide +kernel
theorem dX8_simulate_66 : decode cX8_simulate 66 = .ok (.aload_n 0, 1) := by decide +kernel
theorem dX8_simulate_67 : decode cX8_simulate 67 = .ok (.lload 4, 2) := by decide +kernel
theorem dX8_simulate_69 : decode cX8_simulate 69 = .ok (.bipush 33, 2) := by decide +kernel
theorem dX8_simulate_71 : decode cX8_simulate 71 = .ok (.lushr, 1) := by decide +kernel
theorem dX8_simulate_72 : decode cX8_simulate 72 = .ok (.l2i, 1) := by decide +kernel
theorem dX8_simulate_73 : decode cX8_simulate 73 = .ok (.invokevirtual 309, 3) := by decide +kernel
theorem dX8_simulate_76 : decode cX8_simulate 76 = .ok (.invokestatic 239, 3) := by decide +kernel
theorem dX8_simulate_79 : decode cX8_simulate 79 = .ok (.iadd, 1) := by decide +kernel
theorem dX8_simulate_80 : decode cX8_simulate 80 = .ok (.istore 6, 2) := by decide +kernel
theorem dX8_simulate_82 : decode cX8_simulate 82 = .ok (.iinc 7 1, 3) := by decide +kernel
theorem dX8_simulate_85 : decode cX8_simulate 85 = .ok (.goto (-43), 3) := by decide +kernel
theorem dX8_simulate_88 : decode cX8_simulate 88 = .ok (.sipush 10000, 3) := by decide +kernel
theorem dX8_simulate_91 : decode cX8_simulate 91 = .ok (.iload 6, 2) := by decide +kernel
theorem dX8_simulate_93 : decode cX8_simulate 93 = .ok (.imul, 1) := by decide +kernel
theorem dX8_simulate_94 : decode cX8_simulate 94 = .ok (.bipush 100, 2) := by decide +kernel
theorem dX8_simulate_96 : decode cX8_simulate 96 = .ok (.aload_n 0, 1) := by decide +kernel
theorem dX8_simulate_97 : decode cX8_simulate 97 = .ok (.getfield 23, 3) := by decide +kernel
theorem dX8_simulate_100 : decode cX8_simulate 100 = .ok (.getfield 264, 3) := by decide +kernel
theorem dX8_simulate_103 : decode cX8_simulate 103 = .ok (.getfield 144, 3) := by decide +kernel
theorem dX8_simulate_106 : decode cX8_simulate 106 = .ok (.imul, 1) := by decide +kernel
theorem dX8_simulate_107 : decode cX8_simulate 107 = .ok (.iadd, 1) := by decide +kernel
theorem dX8_simulate_108 : decode cX8_simulate 108 = .ok (.aload_n 0, 1) := by decide +kernel
theorem dX8_simulate_109 : decode cX8_simulate 109 = .ok (.getfield 23, 3) := by decide +kernel
theorem dX8_simulate_112 : decode cX8_simulate 112 = .ok (.getfield 272, 3) := by decide +kernel
theorem dX8_simulate_115 : decode cX8_simulate 115 = .ok (.getfield 144, 3) := by decide +kernel
theorem dX8_simulate_118 : decode cX8_simulate 118 = .ok (.iadd, 1) := by decide +kernel
theorem dX8_simulate_119 : decode cX8_simulate 119 = .ok (.ireturn, 1) := by decide +kernel
set_option maxRecDepth 20000 in
theorem ggX8_save_X8_checkSlot : GoodIn wsX8_save wsX8_checkSlot := goodIn_ca (goodIn_r _ [8, 9, 10] (by decide +kernel) (by decide +kernel)) (goodIn_sub (fun _ h => List.mem_cons_of_mem _ (List.mem_append_right _ h)) (by decide +kernel))
set_option maxRecDepth 20000 in
theorem gX8_save_X8_checkSlot : GoodIn wsX8_save (va_wsS RX8 312 yX8_checkSlot wsX8_checkSlot) := goodIn_app (goodIn_of _ (by decide +kernel)) ggX8_save_X8_checkSlot
set_option maxRecDepth 20000 in
theorem ggX8_save_X8_slotOf : GoodIn wsX8_save wsX8_slotOf := goodIn_r _ [14, 15, 16, 51, 52, 53, 54, 55, 56, 57, 58, 59] (by decide +kernel) (by decide +kernel)
set_option maxRecDepth 20000 in
theorem gX8_save_X8_slotOf : GoodIn wsX8_save (wsV RX8 315 RX8 yX8_slotOf wsX8_slotOf) := goodIn_app (goodIn_of _ (by decide +kernel)) ggX8_save_X8_slotOf
set_option maxRecDepth 20000 in
theorem ggX8_save_X1_copyFrom : GoodIn wsX8_save wsX1_copyFrom := goodIn_r _ [21, 22, 23, 24, 25, 26, 27, 28, 29, 30, 31, 32, 33, 34, 35, 36, 37, 38, 39, 40, 41, 42, 43, 44, 45, 46, 47, 48, 60, 61, 62, 63, 64, 65, 66, 67, 68, 69, 70, 71, 72, 73, 74, 75, 76, 77, 78, 79, 80, 81] (by decide +kernel) (by decide +kernel)
set_option maxRecDepth 20000 in
theorem gX8_save_X1_copyFrom : GoodIn wsX8_save (wsV RX8 279 RX1 yX1_copyFrom wsX1_copyFrom) := goodIn_app (goodIn_of _ (by decide +kernel)) ggX8_save_X1_copyFrom
theorem dX8_save_0 : decode cX8_save 0 = .ok (.iload_n 1, 1) := by decide +kernel
theorem dX8_save_1 : decode cX8_save 1 = .ok (.invokestatic 312, 3) := by decide +kernel
theorem dX8_save_4 : decode cX8_save 4 = .ok (.aload_n 0, 1) := by decide +kernel
theorem dX8_save_5 : decode cX8_save 5 = .ok (.iload_n 1, 1) := by decide +kernel
theorem dX8_save_6 : decode cX8_save 6 = .ok (.invokevirtual 315, 3) := by decide +kernel
theorem dX8_save_9 : decode cX8_save 9 = .ok (.astore_n 2, 1) := by decide +kernel
theorem dX8_save_10 : decode cX8_save 10 = .ok (.aload_n 2, 1) := by decide +kernel
theorem dX8_save_11 : decode cX8_save 11 = .ok (.getfield 319, 3) := by decide +kernel
theorem dX8_save_14 : decode cX8_save 14 = .ok (.aload_n 0, 1) := by decide +kernel
theorem dX8_save_15 : decode cX8_save 15 = .ok (.getfield 19, 3) := by decide +kernel
theorem dX8_save_18 : decode cX8_save 18 = .ok (.invokevirtual 279, 3) := by decide +kernel
theorem dX8_save_21 : decode cX8_save 21 = .ok (.aload_n 2, 1) := by decide +kernel
theorem dX8_save_22 : decode cX8_save 22 = .ok (.iconst 1, 1) := by decide +kernel
theorem dX8_save_23 : decode cX8_save 23 = .ok (.putfield 89, 3) := by decide +kernel
theorem dX8_save_26 : decode cX8_save 26 = .ok (.aload_n 0, 1) := by decide +kernel
theorem dX8_save_27 : decode cX8_save 27 = .ok (.getfield 19, 3) := by decide +kernel
theorem dX8_save_30 : decode cX8_save 30 = .ok (.getfield 167, 3) := by decide +kernel
theorem dX8_save_33 : decode cX8_save 33 = .ok (.ireturn, 1) := by decide +kernel
set_option maxRecDepth 20000 in
theorem ggX8_restore_X8_checkSlot : GoodIn wsX8_restore wsX8_checkSlot := goodIn_ca (goodIn_r _ [12, 13, 14] (by decide +kernel) (by decide +kernel)) (goodIn_sub (fun _ h => List.mem_cons_of_mem _ (List.mem_append_right _ h)) (by decide +kernel))
set_option maxRecDepth 20000 in
theorem gX8_restore_X8_checkSlot : GoodIn wsX8_restore (va_wsS RX8 312 yX8_checkSlot wsX8_checkSlot) := goodIn_app (goodIn_of _ (by decide +kernel)) ggX8_restore_X8_checkSlot
set_option maxRecDepth 20000 in
theorem ggX8_restore_X8_slotOf : GoodIn wsX8_restore wsX8_slotOf := goodIn_r _ [18, 19, 20, 55, 56, 57, 58, 59, 60, 61, 62, 63] (by decide +kernel) (by decide +kernel)
set_option maxRecDepth 20000 in
theorem gX8_restore_X8_slotOf : GoodIn wsX8_restore (wsV RX8 315 RX8 yX8_slotOf wsX8_slotOf) := goodIn_app (goodIn_of _ (by decide +kernel)) ggX8_restore_X8_slotOf
set_option maxRecDepth 20000 in
theorem ggX8_restore_X1_copyFrom : GoodIn wsX8_restore wsX1_copyFrom := goodIn_r _ [25, 26, 27, 28, 29, 30, 31, 32, 33, 34, 35, 36, 37, 38, 39, 40, 41, 42, 43, 44, 45, 46, 47, 48, 49, 50, 51, 52, 67, 68, 69, 70, 71, 72, 73, 74, 75, 76, 77, 78, 79, 80, 81, 82, 83, 84, 85, 86, 87, 88] (by decide +kernel) (by decide +kernel)
set_option maxRecDepth 20000 in
theorem gX8_restore_X1_copyFrom : GoodIn wsX8_restore (wsV RX8 279 RX1 yX1_copyFrom wsX1_copyFrom) := goodIn_app (goodIn_of _ (by decide +kernel)) ggX8_restore_X1_copyFrom
theorem dX8_restore_0 : decode cX8_restore 0 = .ok (.iload_n 1, 1) := by decide +kernel
theorem dX8_restore_1 : decode cX8_restore 1 = .ok (.invokestatic 312, 3) := by decide +kernel
theorem dX8_restore_4 : decode cX8_restore 4 = .ok (.aload_n 0, 1) := by decide +kernel
theorem dX8_restore_5 : decode cX8_restore 5 = .ok (.iload_n 1, 1) := by decide +kernel
theorem dX8_restore_6 : decode cX8_restore 6 = .ok (.invokevirtual 315, 3) := by decide +kernel
theorem dX8_restore_9 : decode cX8_restore 9 = .ok (.astore_n 2, 1) := by decide +kernel
theorem dX8_restore_10 : decode cX8_restore 10 = .ok (.aload_n 2, 1) := by decide +kernel
theorem dX8_restore_11 : decode cX8_restore 11 = .ok (.getfield 89, 3) := by decide +kernel
theorem dX8_restore_14 : decode cX8_restore 14 = .ok (.ifCond .ne 14, 3) := by decide +kernel
theorem dX8_restore_17 : decode cX8_restore 17 = .ok (.new 68, 3) := by decide +kernel
theorem dX8_restore_20 : decode cX8_restore 20 = .ok (.dup, 1) := by decide +kernel
theorem dX8_restore_21 : decode cX8_restore 21 = .ok (.ldc_w 320, 3) := by decide +kernel
theorem dX8_restore_24 : decode cX8_restore 24 = .ok (.invokespecial 72, 3) := by decide +kernel
theorem dX8_restore_27 : decode cX8_restore 27 = .ok (.athrow, 1) := by decide +kernel
theorem dX8_restore_28 : decode cX8_restore 28 = .ok (.aload_n 0, 1) := by decide +kernel
theorem dX8_restore_29 : decode cX8_restore 29 = .ok (.getfield 19, 3) := by decide +kernel
theorem dX8_restore_32 : decode cX8_restore 32 = .ok (.aload_n 2, 1) := by decide +kernel
theorem dX8_restore_33 : decode cX8_restore 33 = .ok (.getfield 319, 3) := by decide +kernel
theorem dX8_restore_36 : decode cX8_restore 36 = .ok (.invokevirtual 279, 3) := by decide +kernel
theorem dX8_restore_39 : decode cX8_restore 39 = .ok (.aload_n 0, 1) := by decide +kernel
theorem dX8_restore_40 : decode cX8_restore 40 = .ok (.getfield 29, 3) := by decide +kernel
theorem dX8_restore_43 : decode cX8_restore 43 = .ok (.iconst 0, 1) := by decide +kernel
theorem dX8_restore_44 : decode cX8_restore 44 = .ok (.putfield 86, 3) := by decide +kernel
theorem dX8_restore_47 : decode cX8_restore 47 = .ok (.aload_n 0, 1) := by decide +kernel
theorem dX8_restore_48 : decode cX8_restore 48 = .ok (.getfield 19, 3) := by decide +kernel
theorem dX8_restore_51 : decode cX8_restore 51 = .ok (.getfield 167, 3) := by decide +kernel
theorem dX8_restore_54 : decode cX8_restore 54 = .ok (.ireturn, 1) := by decide +kernel
theorem dX8_checkCell_0 : decode cX8_checkCell 0 = .ok (.iload_n 0, 1) := by decide +kernel
theorem dX8_checkCell_1 : decode cX8_checkCell 1 = .ok (.ifCond .lt 9, 3) := by decide +kernel
theorem dX8_checkCell_4 : decode cX8_checkCell 4 = .ok (.iload_n 0, 1) := by decide +kernel
theorem dX8_checkCell_5 : decode cX8_checkCell 5 = .ok (.bipush 36, 2) := by decide +kernel
theorem dX8_checkCell_7 : decode cX8_checkCell 7 = .ok (.if_icmp .lt 14, 3) := by decide +kernel
theorem dX8_checkCell_10 : decode cX8_checkCell 10 = .ok (.new 132, 3) := by decide +kernel
theorem dX8_checkCell_13 : decode cX8_checkCell 13 = .ok (.dup, 1) := by decide +kernel
theorem dX8_checkCell_14 : decode cX8_checkCell 14 = .ok (.ldc_w 322, 3) := by decide +kernel
theorem dX8_checkCell_17 : decode cX8_checkCell 17 = .ok (.invokespecial 136, 3) := by decide +kernel
theorem dX8_checkCell_20 : decode cX8_checkCell 20 = .ok (.athrow, 1) := by decide +kernel
theorem dX8_checkCell_21 : decode cX8_checkCell 21 = .ok (.return_, 1) := by decide +kernel
theorem dX8_checkRobot_0 : decode cX8_checkRobot 0 = .ok (.iload_n 0, 1) := by decide +kernel
theorem dX8_checkRobot_1 : decode cX8_checkRobot 1 = .ok (.ifCond .lt 8, 3) := by decide +kernel
theorem dX8_checkRobot_4 : decode cX8_checkRobot 4 = .ok (.iload_n 0, 1) := by decide +kernel
theorem dX8_checkRobot_5 : decode cX8_checkRobot 5 = .ok (.iconst 2, 1) := by decide +kernel
theorem dX8_checkRobot_6 : decode cX8_checkRobot 6 = .ok (.if_icmp .lt 14, 3) := by decide +kernel
theorem dX8_checkRobot_9 : decode cX8_checkRobot 9 = .ok (.new 132, 3) := by decide +kernel
theorem dX8_checkRobot_12 : decode cX8_checkRobot 12 = .ok (.dup, 1) := by decide +kernel
theorem dX8_checkRobot_13 : decode cX8_checkRobot 13 = .ok (.ldc_w 324, 3) := by decide +kernel
theorem dX8_checkRobot_16 : decode cX8_checkRobot 16 = .ok (.invokespecial 136, 3) := by decide +kernel
theorem dX8_checkRobot_19 : decode cX8_checkRobot 19 = .ok (.athrow, 1) := by decide +kernel
theorem dX8_checkRobot_20 : decode cX8_checkRobot 20 = .ok (.return_, 1) := by decide +kernel
theorem dX8_checkSlot_0 : decode cX8_checkSlot 0 = .ok (.iload_n 0, 1) := by decide +kernel
theorem dX8_checkSlot_1 : decode cX8_checkSlot 1 = .ok (.ifCond .eq 19, 3) := by decide +kernel
theorem dX8_checkSlot_4 : decode cX8_checkSlot 4 = .ok (.iload_n 0, 1) := by decide +kernel
theorem dX8_checkSlot_5 : decode cX8_checkSlot 5 = .ok (.iconst 1, 1) := by decide +kernel
theorem dX8_checkSlot_6 : decode cX8_checkSlot 6 = .ok (.if_icmp .eq 14, 3) := by decide +kernel
theorem dX8_checkSlot_9 : decode cX8_checkSlot 9 = .ok (.new 132, 3) := by decide +kernel
theorem dX8_checkSlot_12 : decode cX8_checkSlot 12 = .ok (.dup, 1) := by decide +kernel
theorem dX8_checkSlot_13 : decode cX8_checkSlot 13 = .ok (.ldc_w 326, 3) := by decide +kernel
theorem dX8_checkSlot_16 : decode cX8_checkSlot 16 = .ok (.invokespecial 136, 3) := by decide +kernel
theorem dX8_checkSlot_19 : decode cX8_checkSlot 19 = .ok (.athrow, 1) := by decide +kernel
theorem dX8_checkSlot_20 : decode cX8_checkSlot 20 = .ok (.return_, 1) := by decide +kernel
theorem dX8_slotOf_0 : decode cX8_slotOf 0 = .ok (.iload_n 1, 1) := by decide +kernel
theorem dX8_slotOf_1 : decode cX8_slotOf 1 = .ok (.ifCond .ne 10, 3) := by decide +kernel
theorem dX8_slotOf_4 : decode cX8_slotOf 4 = .ok (.aload_n 0, 1) := by decide +kernel
theorem dX8_slotOf_5 : decode cX8_slotOf 5 = .ok (.getfield 36, 3) := by decide +kernel
theorem dX8_slotOf_8 : decode cX8_slotOf 8 = .ok (.goto 7, 3) := by decide +kernel
theorem dX8_slotOf_11 : decode cX8_slotOf 11 = .ok (.aload_n 0, 1) := by decide +kernel
theorem dX8_slotOf_12 : decode cX8_slotOf 12 = .ok (.getfield 40, 3) := by decide +kernel
theorem dX8_slotOf_15 : decode cX8_slotOf 15 = .ok (.areturn, 1) := by decide +kernel
theorem dX8_keptAlike_0 : decode cX8_keptAlike 0 = .ok (.aload_n 0, 1) := by decide +kernel
theorem dX8_keptAlike_1 : decode cX8_keptAlike 1 = .ok (.getfield 50, 3) := by decide +kernel
theorem dX8_keptAlike_4 : decode cX8_keptAlike 4 = .ok (.arraylength, 1) := by decide +kernel
theorem dX8_keptAlike_5 : decode cX8_keptAlike 5 = .ok (.aload_n 0, 1) := by decide +kernel
theorem dX8_keptAlike_6 : decode cX8_keptAlike 6 = .ok (.getfield 54, 3) := by decide +kernel
theorem dX8_keptAlike_9 : decode cX8_keptAlike 9 = .ok (.arraylength, 1) := by decide +kernel
theorem dX8_keptAlike_10 : decode cX8_keptAlike 10 = .ok (.invokestatic 328, 3) := by decide +kernel
theorem dX8_keptAlike_13 : decode cX8_keptAlike 13 = .ok (.istore_n 3, 1) := by decide +kernel
theorem dX8_keptAlike_14 : decode cX8_keptAlike 14 = .ok (.iload_n 1, 1) := by decide +kernel
theorem dX8_keptAlike_15 : decode cX8_keptAlike 15 = .ok (.ifCond .lt 17, 3) := by decide +kernel
theorem dX8_keptAlike_18 : decode cX8_keptAlike 18 = .ok (.iload_n 1, 1) := by decide +kernel
theorem dX8_keptAlike_19 : decode cX8_keptAlike 19 = .ok (.iload_n 3, 1) := by decide +kernel
theorem dX8_keptAlike_20 : decode cX8_keptAlike 20 = .ok (.if_icmp .ge 12, 3) := by decide +kernel
theorem dX8_keptAlike_23 : decode cX8_keptAlike 23 = .ok (.iload_n 2, 1) := by decide +kernel
theorem dX8_keptAlike_24 : decode cX8_keptAlike 24 = .ok (.ifCond .lt 8, 3) := by decide +kernel
theorem dX8_keptAlike_27 : decode cX8_keptAlike 27 = .ok (.iload_n 2, 1) := by decide +kernel
theorem dX8_keptAlike_28 : decode cX8_keptAlike 28 = .ok (.iload_n 3, 1) := by decide +kernel
theorem dX8_keptAlike_29 : decode cX8_keptAlike 29 = .ok (.if_icmp .lt 5, 3) := by decide +kernel
theorem dX8_keptAlike_32 : decode cX8_keptAlike 32 = .ok (.iconst 0, 1) := by decide +kernel
theorem dX8_keptAlike_33 : decode cX8_keptAlike 33 = .ok (.ireturn, 1) := by decide +kernel
theorem dX8_keptAlike_34 : decode cX8_keptAlike 34 = .ok (.aload_n 0, 1) := by decide +kernel
theorem dX8_keptAlike_35 : decode cX8_keptAlike 35 = .ok (.getfield 50, 3) := by decide +kernel
theorem dX8_keptAlike_38 : decode cX8_keptAlike 38 = .ok (.iload_n 1, 1) := by decide +kernel
theorem dX8_keptAlike_39 : decode cX8_keptAlike 39 = .ok (.laload, 1) := by decide +kernel
theorem dX8_keptAlike_40 : decode cX8_keptAlike 40 = .ok (.aload_n 0, 1) := by decide +kernel
theorem dX8_keptAlike_41 : decode cX8_keptAlike 41 = .ok (.getfield 50, 3) := by decide +kernel
theorem dX8_keptAlike_44 : decode cX8_keptAlike 44 = .ok (.iload_n 2, 1) := by decide +kernel
theorem dX8_keptAlike_45 : decode cX8_keptAlike 45 = .ok (.laload, 1) := by decide +kernel
theorem dX8_keptAlike_46 : decode cX8_keptAlike 46 = .ok (.lcmp, 1) := by decide +kernel
theorem dX8_keptAlike_47 : decode cX8_keptAlike 47 = .ok (.ifCond .ne 23, 3) := by decide +kernel
theorem dX8_keptAlike_50 : decode cX8_keptAlike 50 = .ok (.aload_n 0, 1) := by decide +kernel
theorem dX8_keptAlike_51 : decode cX8_keptAlike 51 = .ok (.getfield 54, 3) := by decide +kernel
theorem dX8_keptAlike_54 : decode cX8_keptAlike 54 = .ok (.iload_n 1, 1) := by decide +kernel
theorem dX8_keptAlike_55 : decode cX8_keptAlike 55 = .ok (.laload, 1) := by decide +kernel
theorem dX8_keptAlike_56 : decode cX8_keptAlike 56 = .ok (.aload_n 0, 1) := by decide +kernel
theorem dX8_keptAlike_57 : decode cX8_keptAlike 57 = .ok (.getfield 54, 3) := by decide +kernel
theorem dX8_keptAlike_60 : decode cX8_keptAlike 60 = .ok (.iload_n 2, 1) := by decide +kernel
theorem dX8_keptAlike_61 : decode cX8_keptAlike 61 = .ok (.laload, 1) := by decide +kernel
theorem dX8_keptAlike_62 : decode cX8_keptAlike 62 = .ok (.lcmp, 1) := by decide +kernel
theorem dX8_keptAlike_63 : decode cX8_keptAlike 63 = .ok (.ifCond .ne 7, 3) := by decide +kernel
theorem dX8_keptAlike_66 : decode cX8_keptAlike 66 = .ok (.iconst 1, 1) := by decide +kernel
theorem dX8_keptAlike_67 : decode cX8_keptAlike 67 = .ok (.goto 4, 3) := by decide +kernel
theorem dX8_keptAlike_70 : decode cX8_keptAlike 70 = .ok (.iconst 0, 1) := by decide +kernel
theorem dX8_keptAlike_71 : decode cX8_keptAlike 71 = .ok (.ireturn, 1) := by decide +kernel
set_option maxRecDepth 20000 in
theorem ggX8_makeTurn_X1_giveKind : GoodIn wsX8_makeTurn wsX1_giveKind := goodIn_r _ [6, 7, 8, 9, 10, 11, 12, 5, 13, 14, 15, 16, 17, 18, 19, 20, 21, 22, 23, 24, 25, 26, 27, 28, 29, 30, 31, 32, 33, 34, 35, 36, 37, 38, 39, 40, 41, 42, 114, 115, 116, 117, 118, 119, 120, 121, 122, 123, 124, 125, 126, 127, 128, 129, 130, 131, 132, 133, 134, 135] (by decide +kernel) (by decide +kernel)
set_option maxRecDepth 20000 in
theorem gX8_makeTurn_X1_giveKind : GoodIn wsX8_makeTurn (wsV RX8 191 RX1 yX1_giveKind wsX1_giveKind) := goodIn_app (goodIn_of _ (by decide +kernel)) ggX8_makeTurn_X1_giveKind
set_option maxRecDepth 20000 in
theorem ggX8_makeTurn_X1_layCrate : GoodIn wsX8_makeTurn wsX1_layCrate := goodIn_r _ [46, 18, 47, 48, 49, 50, 5, 51, 52, 53, 54, 55, 56, 57, 58, 59, 7, 14, 15, 16, 17, 19, 20, 21, 22, 23, 24, 25, 26, 27, 28, 60, 61, 62, 63, 64, 65, 66, 67, 68, 69, 70, 114, 115, 116, 117, 118, 119, 120, 121, 122, 123, 124, 125, 126, 127, 128, 129, 130, 131, 132, 133, 134, 135] (by decide +kernel) (by decide +kernel)
set_option maxRecDepth 20000 in
theorem gX8_makeTurn_X1_layCrate : GoodIn wsX8_makeTurn (wsV RX8 200 RX1 yX1_layCrate wsX1_layCrate) := goodIn_app (goodIn_of _ (by decide +kernel)) ggX8_makeTurn_X1_layCrate
set_option maxRecDepth 20000 in
theorem ggX8_makeTurn_X1_markCheckpoint : GoodIn wsX8_makeTurn wsX1_markCheckpoint := goodIn_r _ [74, 33, 38, 75, 76, 77, 5, 78, 52, 53, 54, 55, 56, 57, 58, 59, 7, 29, 30, 31, 32, 34, 35, 36, 37, 114, 115, 116, 117, 118, 119, 120, 121, 122, 123, 124, 125] (by decide +kernel) (by decide +kernel)
set_option maxRecDepth 20000 in
theorem gX8_makeTurn_X1_markCheckpoint : GoodIn wsX8_makeTurn (wsV RX8 213 RX1 yX1_markCheckpoint wsX1_markCheckpoint) := goodIn_app (goodIn_of _ (by decide +kernel)) ggX8_makeTurn_X1_markCheckpoint
set_option maxRecDepth 20000 in
theorem ggX8_makeTurn_X1_placeRobot : GoodIn wsX8_makeTurn wsX1_placeRobot := goodIn_r _ [82, 20, 83, 84, 85, 86, 5, 87, 18, 52, 53, 54, 55, 56, 57, 58, 59, 7, 26, 27, 24, 28, 88, 89, 90, 91, 19, 21, 126, 127, 128, 129, 130, 131, 132, 133, 134, 135, 114, 115, 116, 117, 118, 119, 120, 121, 122, 123, 124, 125] (by decide +kernel) (by decide +kernel)
set_option maxRecDepth 20000 in
theorem gX8_makeTurn_X1_placeRobot : GoodIn wsX8_makeTurn (wsV RX8 223 RX1 yX1_placeRobot wsX1_placeRobot) := goodIn_app (goodIn_of _ (by decide +kernel)) ggX8_makeTurn_X1_placeRobot
set_option maxRecDepth 20000 in
theorem ggX8_makeTurn_X1_robot : GoodIn wsX8_makeTurn wsX1_robot := goodIn_r _ [91, 19, 21, 114, 115, 116, 117, 118, 119, 120, 121, 122, 123, 124, 125] (by decide +kernel) (by decide +kernel)
set_option maxRecDepth 20000 in
theorem gX8_makeTurn_X1_robot : GoodIn wsX8_makeTurn (wsV RX8 140 RX1 yX1_robot wsX1_robot) := goodIn_app (goodIn_of _ (by decide +kernel)) ggX8_makeTurn_X1_robot
set_option maxRecDepth 20000 in
theorem ggX8_makeTurn_X4_learn : GoodIn wsX8_makeTurn wsX4_learn := goodIn_r _ [97, 98, 99, 126, 127, 128, 129, 130, 131, 132, 133, 134, 135] (by decide +kernel) (by decide +kernel)
set_option maxRecDepth 20000 in
theorem gX8_makeTurn_X4_learn : GoodIn wsX8_makeTurn (wsV RX8 231 RX4 yX4_learn wsX4_learn) := goodIn_app (goodIn_of _ (by decide +kernel)) ggX8_makeTurn_X4_learn
set_option maxRecDepth 20000 in
theorem ggX8_makeTurn_X4_forgetProgram : GoodIn wsX8_makeTurn wsX4_forgetProgram := goodIn_r _ [103, 104, 98, 126, 127, 128, 129, 130, 131, 132, 133, 134, 135] (by decide +kernel) (by decide +kernel)
set_option maxRecDepth 20000 in
theorem gX8_makeTurn_X4_forgetProgram : GoodIn wsX8_makeTurn (wsV RX8 234 RX4 yX4_forgetProgram wsX4_forgetProgram) := goodIn_app (goodIn_of _ (by decide +kernel)) ggX8_makeTurn_X4_forgetProgram
theorem dX8_makeTurn_0 : decode cX8_makeTurn 0 = .ok (.iload_n 1, 1) := by decide +kernel
theorem dX8_makeTurn_1 : decode cX8_makeTurn 1 = .ok (.bipush 16, 2) := by decide +kernel
theorem dX8_makeTurn_3 : decode cX8_makeTurn 3 = .ok (.idiv, 1) := by decide +kernel
theorem dX8_makeTurn_4 : decode cX8_makeTurn 4 = .ok (.istore_n 2, 1) := by decide +kernel
theorem dX8_makeTurn_5 : decode cX8_makeTurn 5 = .ok (.iload_n 1, 1) := by decide +kernel
theorem dX8_makeTurn_6 : decode cX8_makeTurn 6 = .ok (.bipush 16, 2) := by decide +kernel
theorem dX8_makeTurn_8 : decode cX8_makeTurn 8 = .ok (.irem, 1) := by decide +kernel
theorem dX8_makeTurn_9 : decode cX8_makeTurn 9 = .ok (.tableswitch 183 0 11 #[63, 63, 63, 84, 84, 98, 112, 138, 138, 138, 138, 160], 63) := by decide +kernel
theorem dX8_makeTurn_72 : decode cX8_makeTurn 72 = .ok (.aload_n 0, 1) := by decide +kernel
theorem dX8_makeTurn_73 : decode cX8_makeTurn 73 = .ok (.getfield 23, 3) := by decide +kernel
theorem dX8_makeTurn_76 : decode cX8_makeTurn 76 = .ok (.iload_n 2, 1) := by decide +kernel
theorem dX8_makeTurn_77 : decode cX8_makeTurn 77 = .ok (.bipush 36, 2) := by decide +kernel
theorem dX8_makeTurn_79 : decode cX8_makeTurn 79 = .ok (.irem, 1) := by decide +kernel
theorem dX8_makeTurn_80 : decode cX8_makeTurn 80 = .ok (.iload_n 2, 1) := by decide +kernel
theorem dX8_makeTurn_81 : decode cX8_makeTurn 81 = .ok (.bipush 64, 2) := by decide +kernel
theorem dX8_makeTurn_83 : decode cX8_makeTurn 83 = .ok (.idiv, 1) := by decide +kernel
theorem dX8_makeTurn_84 : decode cX8_makeTurn 84 = .ok (.bipush 7, 2) := by decide +kernel
theorem dX8_makeTurn_86 : decode cX8_makeTurn 86 = .ok (.irem, 1) := by decide +kernel
theorem dX8_makeTurn_87 : decode cX8_makeTurn 87 = .ok (.invokevirtual 191, 3) := by decide +kernel
theorem dX8_makeTurn_90 : decode cX8_makeTurn 90 = .ok (.pop, 1) := by decide +kernel
theorem dX8_makeTurn_91 : decode cX8_makeTurn 91 = .ok (.iconst 0, 1) := by decide +kernel
theorem dX8_makeTurn_92 : decode cX8_makeTurn 92 = .ok (.ireturn, 1) := by decide +kernel
theorem dX8_makeTurn_93 : decode cX8_makeTurn 93 = .ok (.aload_n 0, 1) := by decide +kernel
theorem dX8_makeTurn_94 : decode cX8_makeTurn 94 = .ok (.getfield 23, 3) := by decide +kernel
theorem dX8_makeTurn_97 : decode cX8_makeTurn 97 = .ok (.iload_n 2, 1) := by decide +kernel
theorem dX8_makeTurn_98 : decode cX8_makeTurn 98 = .ok (.bipush 36, 2) := by decide +kernel
theorem dX8_makeTurn_100 : decode cX8_makeTurn 100 = .ok (.irem, 1) := by decide +kernel
theorem dX8_makeTurn_101 : decode cX8_makeTurn 101 = .ok (.invokevirtual 200, 3) := by decide +kernel
theorem dX8_makeTurn_104 : decode cX8_makeTurn 104 = .ok (.pop, 1) := by decide +kernel
theorem dX8_makeTurn_105 : decode cX8_makeTurn 105 = .ok (.iconst 0, 1) := by decide +kernel
theorem dX8_makeTurn_106 : decode cX8_makeTurn 106 = .ok (.ireturn, 1) := by decide +kernel
theorem dX8_makeTurn_107 : decode cX8_makeTurn 107 = .ok (.aload_n 0, 1) := by decide +kernel
theorem dX8_makeTurn_108 : decode cX8_makeTurn 108 = .ok (.getfield 23, 3) := by decide +kernel
theorem dX8_makeTurn_111 : decode cX8_makeTurn 111 = .ok (.iload_n 2, 1) := by decide +kernel
theorem dX8_makeTurn_112 : decode cX8_makeTurn 112 = .ok (.bipush 36, 2) := by decide +kernel
theorem dX8_makeTurn_114 : decode cX8_makeTurn 114 = .ok (.irem, 1) := by decide +kernel
theorem dX8_makeTurn_115 : decode cX8_makeTurn 115 = .ok (.invokevirtual 213, 3) := by decide +kernel
theorem dX8_makeTurn_118 : decode cX8_makeTurn 118 = .ok (.pop, 1) := by decide +kernel
theorem dX8_makeTurn_119 : decode cX8_makeTurn 119 = .ok (.iconst 0, 1) := by decide +kernel
theorem dX8_makeTurn_120 : decode cX8_makeTurn 120 = .ok (.ireturn, 1) := by decide +kernel
theorem dX8_makeTurn_121 : decode cX8_makeTurn 121 = .ok (.aload_n 0, 1) := by decide +kernel
theorem dX8_makeTurn_122 : decode cX8_makeTurn 122 = .ok (.getfield 23, 3) := by decide +kernel
theorem dX8_makeTurn_125 : decode cX8_makeTurn 125 = .ok (.iload_n 2, 1) := by decide +kernel
theorem dX8_makeTurn_126 : decode cX8_makeTurn 126 = .ok (.iconst 2, 1) := by decide +kernel
theorem dX8_makeTurn_127 : decode cX8_makeTurn 127 = .ok (.irem, 1) := by decide +kernel
theorem dX8_makeTurn_128 : decode cX8_makeTurn 128 = .ok (.iload_n 2, 1) := by decide +kernel
theorem dX8_makeTurn_129 : decode cX8_makeTurn 129 = .ok (.iconst 2, 1) := by decide +kernel
theorem dX8_makeTurn_130 : decode cX8_makeTurn 130 = .ok (.idiv, 1) := by decide +kernel
theorem dX8_makeTurn_131 : decode cX8_makeTurn 131 = .ok (.bipush 36, 2) := by decide +kernel
theorem dX8_makeTurn_133 : decode cX8_makeTurn 133 = .ok (.irem, 1) := by decide +kernel
theorem dX8_makeTurn_134 : decode cX8_makeTurn 134 = .ok (.iload_n 2, 1) := by decide +kernel
theorem dX8_makeTurn_135 : decode cX8_makeTurn 135 = .ok (.sipush 128, 3) := by decide +kernel
theorem dX8_makeTurn_138 : decode cX8_makeTurn 138 = .ok (.idiv, 1) := by decide +kernel
theorem dX8_makeTurn_139 : decode cX8_makeTurn 139 = .ok (.iconst 4, 1) := by decide +kernel
theorem dX8_makeTurn_140 : decode cX8_makeTurn 140 = .ok (.irem, 1) := by decide +kernel
theorem dX8_makeTurn_141 : decode cX8_makeTurn 141 = .ok (.invokevirtual 223, 3) := by decide +kernel
theorem dX8_makeTurn_144 : decode cX8_makeTurn 144 = .ok (.pop, 1) := by decide +kernel
theorem dX8_makeTurn_145 : decode cX8_makeTurn 145 = .ok (.iconst 0, 1) := by decide +kernel
theorem dX8_makeTurn_146 : decode cX8_makeTurn 146 = .ok (.ireturn, 1) := by decide +kernel
theorem dX8_makeTurn_147 : decode cX8_makeTurn 147 = .ok (.aload_n 0, 1) := by decide +kernel
theorem dX8_makeTurn_148 : decode cX8_makeTurn 148 = .ok (.getfield 23, 3) := by decide +kernel
theorem dX8_makeTurn_151 : decode cX8_makeTurn 151 = .ok (.iload_n 2, 1) := by decide +kernel
theorem dX8_makeTurn_152 : decode cX8_makeTurn 152 = .ok (.iconst 2, 1) := by decide +kernel
theorem dX8_makeTurn_153 : decode cX8_makeTurn 153 = .ok (.irem, 1) := by decide +kernel
theorem dX8_makeTurn_154 : decode cX8_makeTurn 154 = .ok (.invokevirtual 140, 3) := by decide +kernel
theorem dX8_makeTurn_157 : decode cX8_makeTurn 157 = .ok (.iload_n 2, 1) := by decide +kernel
theorem dX8_makeTurn_158 : decode cX8_makeTurn 158 = .ok (.iconst 2, 1) := by decide +kernel
theorem dX8_makeTurn_159 : decode cX8_makeTurn 159 = .ok (.idiv, 1) := by decide +kernel
theorem dX8_makeTurn_160 : decode cX8_makeTurn 160 = .ok (.bipush 6, 2) := by decide +kernel
theorem dX8_makeTurn_162 : decode cX8_makeTurn 162 = .ok (.irem, 1) := by decide +kernel
theorem dX8_makeTurn_163 : decode cX8_makeTurn 163 = .ok (.invokevirtual 231, 3) := by decide +kernel
theorem dX8_makeTurn_166 : decode cX8_makeTurn 166 = .ok (.pop, 1) := by decide +kernel
theorem dX8_makeTurn_167 : decode cX8_makeTurn 167 = .ok (.iconst 0, 1) := by decide +kernel
theorem dX8_makeTurn_168 : decode cX8_makeTurn 168 = .ok (.ireturn, 1) := by decide +kernel
theorem dX8_makeTurn_169 : decode cX8_makeTurn 169 = .ok (.iload_n 2, 1) := by decide +kernel
theorem dX8_makeTurn_170 : decode cX8_makeTurn 170 = .ok (.iconst 2, 1) := by decide +kernel
theorem dX8_makeTurn_171 : decode cX8_makeTurn 171 = .ok (.idiv, 1) := by decide +kernel
theorem dX8_makeTurn_172 : decode cX8_makeTurn 172 = .ok (.iconst 4, 1) := by decide +kernel
theorem dX8_makeTurn_173 : decode cX8_makeTurn 173 = .ok (.irem, 1) := by decide +kernel
theorem dX8_makeTurn_174 : decode cX8_makeTurn 174 = .ok (.ifCond .ne 16, 3) := by decide +kernel
theorem dX8_makeTurn_177 : decode cX8_makeTurn 177 = .ok (.aload_n 0, 1) := by decide +kernel
theorem dX8_makeTurn_178 : decode cX8_makeTurn 178 = .ok (.getfield 23, 3) := by decide +kernel
theorem dX8_makeTurn_181 : decode cX8_makeTurn 181 = .ok (.iload_n 2, 1) := by decide +kernel
theorem dX8_makeTurn_182 : decode cX8_makeTurn 182 = .ok (.iconst 2, 1) := by decide +kernel
theorem dX8_makeTurn_183 : decode cX8_makeTurn 183 = .ok (.irem, 1) := by decide +kernel
theorem dX8_makeTurn_184 : decode cX8_makeTurn 184 = .ok (.invokevirtual 140, 3) := by decide +kernel
theorem dX8_makeTurn_187 : decode cX8_makeTurn 187 = .ok (.invokevirtual 234, 3) := by decide +kernel
theorem dX8_makeTurn_190 : decode cX8_makeTurn 190 = .ok (.iconst 0, 1) := by decide +kernel
theorem dX8_makeTurn_191 : decode cX8_makeTurn 191 = .ok (.ireturn, 1) := by decide +kernel
theorem dX8_makeTurn_192 : decode cX8_makeTurn 192 = .ok (.iconst 1, 1) := by decide +kernel
theorem dX8_makeTurn_193 : decode cX8_makeTurn 193 = .ok (.iload_n 2, 1) := by decide +kernel
theorem dX8_makeTurn_194 : decode cX8_makeTurn 194 = .ok (.iconst 4, 1) := by decide +kernel
theorem dX8_makeTurn_195 : decode cX8_makeTurn 195 = .ok (.irem, 1) := by decide +kernel
theorem dX8_makeTurn_196 : decode cX8_makeTurn 196 = .ok (.iadd, 1) := by decide +kernel
theorem dX8_makeTurn_197 : decode cX8_makeTurn 197 = .ok (.ireturn, 1) := by decide +kernel
theorem dJ9_min_7cf53_0 : decode cJ9_min_7cf53 0 = .ok (.iload_n 0, 1) := by decide +kernel
theorem dJ9_min_7cf53_1 : decode cJ9_min_7cf53 1 = .ok (.iload_n 1, 1) := by decide +kernel
theorem dJ9_min_7cf53_2 : decode cJ9_min_7cf53 2 = .ok (.if_icmp .gt 7, 3) := by decide +kernel
theorem dJ9_min_7cf53_5 : decode cJ9_min_7cf53 5 = .ok (.iload_n 0, 1) := by decide +kernel
theorem dJ9_min_7cf53_6 : decode cJ9_min_7cf53 6 = .ok (.goto 4, 3) := by decide +kernel
theorem dJ9_min_7cf53_9 : decode cJ9_min_7cf53 9 = .ok (.iload_n 1, 1) := by decide +kernel
theorem dJ9_min_7cf53_10 : decode cJ9_min_7cf53 10 = .ok (.ireturn, 1) := by decide +kernel
