theorem dX6_clear_13 : decode cX6_clear 13 = .ok (.invokestatic 24, 3) := by decide +kernel
theorem dX6_clear_16 : decode cX6_clear 16 = .ok (.return_, 1) := by decide +kernel
theorem dX6_mask_0 : decode cX6_mask 0 = .ok (.aload_n 0, 1) := by decide +kernel
theorem dX6_mask_1 : decode cX6_mask 1 = .ok (.getfield 12, 3) := by decide +kernel
theorem dX6_mask_4 : decode cX6_mask 4 = .ok (.iload_n 1, 1) := by decide +kernel
theorem dX6_mask_5 : decode cX6_mask 5 = .ok (.iaload, 1) := by decide +kernel
theorem dX6_mask_6 : decode cX6_mask 6 = .ok (.ireturn, 1) := by decide +kernel
theorem dX6_keep_0 : decode cX6_keep 0 = .ok (.aload_n 0, 1) := by decide +kernel
theorem dX6_keep_1 : decode cX6_keep 1 = .ok (.getfield 12, 3) := by decide +kernel
theorem dX6_keep_4 : decode cX6_keep 4 = .ok (.iload_n 1, 1) := by decide +kernel
theorem dX6_keep_5 : decode cX6_keep 5 = .ok (.iload_n 2, 1) := by decide +kernel
theorem dX6_keep_6 : decode cX6_keep 6 = .ok (.iastore, 1) := by decide +kernel
theorem dX6_keep_7 : decode cX6_keep 7 = .ok (.return_, 1) := by decide +kernel
theorem dX6_enter_0 : decode cX6_enter 0 = .ok (.iload_n 1, 1) := by decide +kernel
theorem dX6_enter_1 : decode cX6_enter 1 = .ok (.bipush 24, 2) := by decide +kernel
theorem dX6_enter_3 : decode cX6_enter 3 = .ok (.imul, 1) := by decide +kernel
theorem dX6_enter_4 : decode cX6_enter 4 = .ok (.iload_n 2, 1) := by decide +kernel
theorem dX6_enter_5 : decode cX6_enter 5 = .ok (.iadd, 1) := by decide +kernel
theorem dX6_enter_6 : decode cX6_enter 6 = .ok (.bipush 32, 2) := by decide +kernel
theorem dX6_enter_8 : decode cX6_enter 8 = .ok (.imul, 1) := by decide +kernel
theorem dX6_enter_9 : decode cX6_enter 9 = .ok (.iload_n 3, 1) := by decide +kernel
theorem dX6_enter_10 : decode cX6_enter 10 = .ok (.iadd, 1) := by decide +kernel
theorem dX6_enter_11 : decode cX6_enter 11 = .ok (.istore 5, 2) := by decide +kernel
theorem dX6_enter_13 : decode cX6_enter 13 = .ok (.iload 4, 2) := by decide +kernel
theorem dX6_enter_15 : decode cX6_enter 15 = .ok (.aload_n 0, 1) := by decide +kernel
theorem dX6_enter_16 : decode cX6_enter 16 = .ok (.getfield 18, 3) := by decide +kernel
theorem dX6_enter_19 : decode cX6_enter 19 = .ok (.iload 5, 2) := by decide +kernel
theorem dX6_enter_21 : decode cX6_enter 21 = .ok (.iaload, 1) := by decide +kernel
theorem dX6_enter_22 : decode cX6_enter 22 = .ok (.iconst (-1), 1) := by decide +kernel
theorem dX6_enter_23 : decode cX6_enter 23 = .ok (.ixor, 1) := by decide +kernel
theorem dX6_enter_24 : decode cX6_enter 24 = .ok (.iand, 1) := by decide +kernel
theorem dX6_enter_25 : decode cX6_enter 25 = .ok (.istore 6, 2) := by decide +kernel
theorem dX6_enter_27 : decode cX6_enter 27 = .ok (.aload_n 0, 1) := by decide +kernel
theorem dX6_enter_28 : decode cX6_enter 28 = .ok (.getfield 18, 3) := by decide +kernel
theorem dX6_enter_31 : decode cX6_enter 31 = .ok (.iload 5, 2) := by decide +kernel
theorem dX6_enter_33 : decode cX6_enter 33 = .ok (.dup2, 1) := by decide +kernel
theorem dX6_enter_34 : decode cX6_enter 34 = .ok (.iaload, 1) := by decide +kernel
theorem dX6_enter_35 : decode cX6_enter 35 = .ok (.iload 6, 2) := by decide +kernel
theorem dX6_enter_37 : decode cX6_enter 37 = .ok (.ior, 1) := by decide +kernel
theorem dX6_enter_38 : decode cX6_enter 38 = .ok (.iastore, 1) := by decide +kernel
theorem dX6_enter_39 : decode cX6_enter 39 = .ok (.iload 6, 2) := by decide +kernel
theorem dX6_enter_41 : decode cX6_enter 41 = .ok (.ireturn, 1) := by decide +kernel
theorem dX6_give_0 : decode cX6_give 0 = .ok (.iload_n 1, 1) := by decide +kernel
theorem dX6_give_1 : decode cX6_give 1 = .ok (.bipush 24, 2) := by decide +kernel
theorem dX6_give_3 : decode cX6_give 3 = .ok (.imul, 1) := by decide +kernel
theorem dX6_give_4 : decode cX6_give 4 = .ok (.iload_n 2, 1) := by decide +kernel
theorem dX6_give_5 : decode cX6_give 5 = .ok (.iadd, 1) := by decide +kernel
theorem dX6_give_6 : decode cX6_give 6 = .ok (.istore 4, 2) := by decide +kernel
theorem dX6_give_8 : decode cX6_give 8 = .ok (.iload_n 3, 1) := by decide +kernel
theorem dX6_give_9 : decode cX6_give 9 = .ok (.aload_n 0, 1) := by decide +kernel
theorem dX6_give_10 : decode cX6_give 10 = .ok (.getfield 21, 3) := by decide +kernel
theorem dX6_give_13 : decode cX6_give 13 = .ok (.iload 4, 2) := by decide +kernel
theorem dX6_give_15 : decode cX6_give 15 = .ok (.iaload, 1) := by decide +kernel
theorem dX6_give_16 : decode cX6_give 16 = .ok (.iconst (-1), 1) := by decide +kernel
theorem dX6_give_17 : decode cX6_give 17 = .ok (.ixor, 1) := by decide +kernel
theorem dX6_give_18 : decode cX6_give 18 = .ok (.iand, 1) := by decide +kernel
theorem dX6_give_19 : decode cX6_give 19 = .ok (.istore 5, 2) := by decide +kernel
theorem dX6_give_21 : decode cX6_give 21 = .ok (.aload_n 0, 1) := by decide +kernel
theorem dX6_give_22 : decode cX6_give 22 = .ok (.getfield 21, 3) := by decide +kernel
theorem dX6_give_25 : decode cX6_give 25 = .ok (.iload 4, 2) := by decide +kernel
theorem dX6_give_27 : decode cX6_give 27 = .ok (.dup2, 1) := by decide +kernel
theorem dX6_give_28 : decode cX6_give 28 = .ok (.iaload, 1) := by decide +kernel
theorem dX6_give_29 : decode cX6_give 29 = .ok (.iload 5, 2) := by decide +kernel
theorem dX6_give_31 : decode cX6_give 31 = .ok (.ior, 1) := by decide +kernel
theorem dX6_give_32 : decode cX6_give 32 = .ok (.iastore, 1) := by decide +kernel
theorem dX6_give_33 : decode cX6_give 33 = .ok (.iload 5, 2) := by decide +kernel
theorem dX6_give_35 : decode cX6_give 35 = .ok (.ireturn, 1) := by decide +kernel
theorem dX7_init_0 : decode cX7_init 0 = .ok (.aload_n 0, 1) := by decide +kernel
theorem dX7_init_1 : decode cX7_init 1 = .ok (.invokespecial 3, 3) := by decide +kernel
theorem dX7_init_4 : decode cX7_init 4 = .ok (.aload_n 0, 1) := by decide +kernel
theorem dX7_init_5 : decode cX7_init 5 = .ok (.bipush 80, 2) := by decide +kernel
theorem dX7_init_7 : decode cX7_init 7 = .ok (.newarray .int, 2) := by decide +kernel
theorem dX7_init_9 : decode cX7_init 9 = .ok (.putfield 9, 3) := by decide +kernel
theorem dX7_init_12 : decode cX7_init 12 = .ok (.aload_n 0, 1) := by decide +kernel
theorem dX7_init_13 : decode cX7_init 13 = .ok (.iconst 0, 1) := by decide +kernel
theorem dX7_init_14 : decode cX7_init 14 = .ok (.putfield 15, 3) := by decide +kernel
theorem dX7_init_17 : decode cX7_init 17 = .ok (.return_, 1) := by decide +kernel
theorem dX7_size_0 : decode cX7_size 0 = .ok (.aload_n 0, 1) := by decide +kernel
theorem dX7_size_1 : decode cX7_size 1 = .ok (.getfield 15, 3) := by decide +kernel
theorem dX7_size_4 : decode cX7_size 4 = .ok (.ireturn, 1) := by decide +kernel
theorem dX7_hasRoom_0 : decode cX7_hasRoom 0 = .ok (.aload_n 0, 1) := by decide +kernel
theorem dX7_hasRoom_1 : decode cX7_hasRoom 1 = .ok (.getfield 15, 3) := by decide +kernel
theorem dX7_hasRoom_4 : decode cX7_hasRoom 4 = .ok (.iload_n 1, 1) := by decide +kernel
theorem dX7_hasRoom_5 : decode cX7_hasRoom 5 = .ok (.iadd, 1) := by decide +kernel
theorem dX7_hasRoom_6 : decode cX7_hasRoom 6 = .ok (.bipush 80, 2) := by decide +kernel
theorem dX7_hasRoom_8 : decode cX7_hasRoom 8 = .ok (.if_icmp .gt 7, 3) := by decide +kernel
theorem dX7_hasRoom_11 : decode cX7_hasRoom 11 = .ok (.iconst 1, 1) := by decide +kernel
theorem dX7_hasRoom_12 : decode cX7_hasRoom 12 = .ok (.goto 4, 3) := by decide +kernel
theorem dX7_hasRoom_15 : decode cX7_hasRoom 15 = .ok (.iconst 0, 1) := by decide +kernel
theorem dX7_hasRoom_16 : decode cX7_hasRoom 16 = .ok (.ireturn, 1) := by decide +kernel
theorem dX7_addWord_0 : decode cX7_addWord 0 = .ok (.bipush 24, 2) := by decide +kernel
theorem dX7_addWord_2 : decode cX7_addWord 2 = .ok (.istore_n 2, 1) := by decide +kernel
theorem dX7_addWord_3 : decode cX7_addWord 3 = .ok (.iload_n 2, 1) := by decide +kernel
theorem dX7_addWord_4 : decode cX7_addWord 4 = .ok (.ifCond .lt 44, 3) := by decide +kernel
theorem dX7_addWord_7 : decode cX7_addWord 7 = .ok (.aload_n 0, 1) := by decide +kernel
theorem dX7_addWord_8 : decode cX7_addWord 8 = .ok (.getfield 15, 3) := by decide +kernel
theorem dX7_addWord_11 : decode cX7_addWord 11 = .ok (.bipush 80, 2) := by decide +kernel
theorem dX7_addWord_13 : decode cX7_addWord 13 = .ok (.if_icmp .ge 35, 3) := by decide +kernel
theorem dX7_addWord_16 : decode cX7_addWord 16 = .ok (.aload_n 0, 1) := by decide +kernel
theorem dX7_addWord_17 : decode cX7_addWord 17 = .ok (.getfield 9, 3) := by decide +kernel
theorem dX7_addWord_20 : decode cX7_addWord 20 = .ok (.aload_n 0, 1) := by decide +kernel
theorem dX7_addWord_21 : decode cX7_addWord 21 = .ok (.getfield 15, 3) := by decide +kernel
theorem dX7_addWord_24 : decode cX7_addWord 24 = .ok (.iload_n 1, 1) := by decide +kernel
theorem dX7_addWord_25 : decode cX7_addWord 25 = .ok (.iload_n 2, 1) := by decide +kernel
theorem dX7_addWord_26 : decode cX7_addWord 26 = .ok (.iushr, 1) := by decide +kernel
theorem dX7_addWord_27 : decode cX7_addWord 27 = .ok (.sipush 255, 3) := by decide +kernel
theorem dX7_addWord_30 : decode cX7_addWord 30 = .ok (.iand, 1) := by decide +kernel
theorem dX7_addWord_31 : decode cX7_addWord 31 = .ok (.iastore, 1) := by decide +kernel
theorem dX7_addWord_32 : decode cX7_addWord 32 = .ok (.aload_n 0, 1) := by decide +kernel
theorem dX7_addWord_33 : decode cX7_addWord 33 = .ok (.dup, 1) := by decide +kernel
theorem dX7_addWord_34 : decode cX7_addWord 34 = .ok (.getfield 15, 3) := by decide +kernel
theorem dX7_addWord_37 : decode cX7_addWord 37 = .ok (.iconst 1, 1) := by decide +kernel
theorem dX7_addWord_38 : decode cX7_addWord 38 = .ok (.iadd, 1) := by decide +kernel
theorem dX7_addWord_39 : decode cX7_addWord 39 = .ok (.putfield 15, 3) := by decide +kernel
theorem dX7_addWord_42 : decode cX7_addWord 42 = .ok (.iinc 2 (-8), 3) := by decide +kernel
theorem dX7_addWord_45 : decode cX7_addWord 45 = .ok (.goto (-42), 3) := by decide +kernel
theorem dX7_addWord_48 : decode cX7_addWord 48 = .ok (.return_, 1) := by decide +kernel
theorem dX7_valueAt_0 : decode cX7_valueAt 0 = .ok (.iload_n 1, 1) := by decide +kernel
theorem dX7_valueAt_1 : decode cX7_valueAt 1 = .ok (.ifCond .lt 23, 3) := by decide +kernel
theorem dX7_valueAt_4 : decode cX7_valueAt 4 = .ok (.iload_n 1, 1) := by decide +kernel
theorem dX7_valueAt_5 : decode cX7_valueAt 5 = .ok (.aload_n 0, 1) := by decide +kernel
theorem dX7_valueAt_6 : decode cX7_valueAt 6 = .ok (.getfield 15, 3) := by decide +kernel
theorem dX7_valueAt_9 : decode cX7_valueAt 9 = .ok (.if_icmp .ge 15, 3) := by decide +kernel
theorem dX7_valueAt_12 : decode cX7_valueAt 12 = .ok (.aload_n 0, 1) := by decide +kernel
theorem dX7_valueAt_13 : decode cX7_valueAt 13 = .ok (.getfield 9, 3) := by decide +kernel
theorem dX7_valueAt_16 : decode cX7_valueAt 16 = .ok (.iload_n 1, 1) := by decide +kernel
theorem dX7_valueAt_17 : decode cX7_valueAt 17 = .ok (.iaload, 1) := by decide +kernel
theorem dX7_valueAt_18 : decode cX7_valueAt 18 = .ok (.bipush 31, 2) := by decide +kernel
theorem dX7_valueAt_20 : decode cX7_valueAt 20 = .ok (.iand, 1) := by decide +kernel
theorem dX7_valueAt_21 : decode cX7_valueAt 21 = .ok (.goto 4, 3) := by decide +kernel
theorem dX7_valueAt_24 : decode cX7_valueAt 24 = .ok (.iconst 0, 1) := by decide +kernel
theorem dX7_valueAt_25 : decode cX7_valueAt 25 = .ok (.ireturn, 1) := by decide +kernel
theorem dX7_empty_0 : decode cX7_empty 0 = .ok (.aload_n 0, 1) := by decide +kernel
theorem dX7_empty_1 : decode cX7_empty 1 = .ok (.iconst 0, 1) := by decide +kernel
theorem dX7_empty_2 : decode cX7_empty 2 = .ok (.putfield 15, 3) := by decide +kernel
theorem dX7_empty_5 : decode cX7_empty 5 = .ok (.return_, 1) := by decide +kernel
set_option maxRecDepth 20000 in
theorem ggX8_init_X7_init : GoodIn wsX8_init wsX7_init := goodIn_r _ [34, 35, 2, 3, 18, 36, 37, 105, 106] (by decide +kernel) (by decide +kernel)
set_option maxRecDepth 20000 in
theorem gX8_init_X7_init : GoodIn wsX8_init (wsX7_init) := ggX8_init_X7_init
set_option maxRecDepth 20000 in
theorem ggX8_init_X3_init : GoodIn wsX8_init wsX3_init := goodIn_r _ [40, 41, 2, 3, 18, 42, 43, 107, 108, 109, 110, 111, 112] (by decide +kernel) (by decide +kernel)
set_option maxRecDepth 20000 in
theorem gX8_init_X3_init : GoodIn wsX8_init (wsX3_init) := ggX8_init_X3_init
set_option maxRecDepth 20000 in
theorem ggX8_init_X2_init : GoodIn wsX8_init wsX2_init := goodIn_r _ [46, 47, 2, 3, 18, 48, 49, 50, 51, 52, 53, 113, 114, 115, 116, 117, 118] (by decide +kernel) (by decide +kernel)
set_option maxRecDepth 20000 in
theorem gX8_init_X2_init : GoodIn wsX8_init (wsX2_init) := ggX8_init_X2_init
set_option maxRecDepth 20000 in
theorem ggX8_init_X6_init : GoodIn wsX8_init wsX6_init := goodIn_r _ [56, 57, 2, 3, 58, 18, 59, 60, 61, 119, 120, 121] (by decide +kernel) (by decide +kernel)
set_option maxRecDepth 20000 in
theorem gX8_init_X6_init : GoodIn wsX8_init (wsX6_init) := ggX8_init_X6_init
set_option maxRecDepth 20000 in
theorem ggX8_init_X1_init : GoodIn wsX8_init wsX1_init := goodIn_r _ [64, 65, 2, 3, 18, 66, 67, 68, 69, 70, 122, 123, 124, 125, 126] (by decide +kernel) (by decide +kernel)
set_option maxRecDepth 20000 in
theorem gX8_init_X1_init : GoodIn wsX8_init (wsX1_init) := ggX8_init_X1_init
set_option maxRecDepth 20000 in
theorem ggX8_init_X4_init : GoodIn wsX8_init wsX4_init := goodIn_r _ [73, 74, 2, 3, 75, 18, 76, 77, 78, 79, 80, 81, 82, 83, 84, 85, 86, 87, 88, 89, 130, 131, 132, 133, 134, 135, 136, 137, 138, 139, 140, 141, 142, 143, 144] (by decide +kernel) (by decide +kernel)
set_option maxRecDepth 20000 in
theorem gX8_init_X4_init : GoodIn wsX8_init (wsX4_init) := ggX8_init_X4_init
set_option maxRecDepth 20000 in
theorem ggX8_init_X5_init : GoodIn wsX8_init wsX5_init := goodIn_r _ [92, 93, 2, 3, 94, 79, 80, 95, 96, 97, 98, 86, 87, 88, 18, 89, 144, 127, 128, 129] (by decide +kernel) (by decide +kernel)
set_option maxRecDepth 20000 in
theorem gX8_init_X5_init : GoodIn wsX8_init (wsX5_init) := ggX8_init_X5_init
theorem dX8_init_0 : decode cX8_init 0 = .ok (.aload_n 0, 1) := by decide +kernel
theorem dX8_init_1 : decode cX8_init 1 = .ok (.invokespecial 3, 3) := by decide +kernel
theorem dX8_init_4 : decode cX8_init 4 = .ok (.aload_n 0, 1) := by decide +kernel
theorem dX8_init_5 : decode cX8_init 5 = .ok (.iconst 4, 1) := by decide +kernel
theorem dX8_init_6 : decode cX8_init 6 = .ok (.anewarray 9, 3) := by decide +kernel
theorem dX8_init_9 : decode cX8_init 9 = .ok (.putfield 11, 3) := by decide +kernel
theorem dX8_init_12 : decode cX8_init 12 = .ok (.aload_n 0, 1) := by decide +kernel
theorem dX8_init_13 : decode cX8_init 13 = .ok (.new 15, 3) := by decide +kernel
theorem dX8_init_16 : decode cX8_init 16 = .ok (.dup, 1) := by decide +kernel
theorem dX8_init_17 : decode cX8_init 17 = .ok (.invokespecial 17, 3) := by decide +kernel
theorem dX8_init_20 : decode cX8_init 20 = .ok (.putfield 18, 3) := by decide +kernel
theorem dX8_init_23 : decode cX8_init 23 = .ok (.aload_n 0, 1) := by decide +kernel
theorem dX8_init_24 : decode cX8_init 24 = .ok (.new 22, 3) := by decide +kernel
theorem dX8_init_27 : decode cX8_init 27 = .ok (.dup, 1) := by decide +kernel
theorem dX8_init_28 : decode cX8_init 28 = .ok (.invokespecial 24, 3) := by decide +kernel
theorem dX8_init_31 : decode cX8_init 31 = .ok (.putfield 25, 3) := by decide +kernel
theorem dX8_init_34 : decode cX8_init 34 = .ok (.aload_n 0, 1) := by decide +kernel
theorem dX8_init_35 : decode cX8_init 35 = .ok (.new 29, 3) := by decide +kernel
theorem dX8_init_38 : decode cX8_init 38 = .ok (.dup, 1) := by decide +kernel
theorem dX8_init_39 : decode cX8_init 39 = .ok (.invokespecial 31, 3) := by decide +kernel
theorem dX8_init_42 : decode cX8_init 42 = .ok (.putfield 32, 3) := by decide +kernel
theorem dX8_init_45 : decode cX8_init 45 = .ok (.aload_n 0, 1) := by decide +kernel
theorem dX8_init_46 : decode cX8_init 46 = .ok (.bipush 32, 2) := by decide +kernel
theorem dX8_init_48 : decode cX8_init 48 = .ok (.newarray .int, 2) := by decide +kernel
theorem dX8_init_50 : decode cX8_init 50 = .ok (.putfield 36, 3) := by decide +kernel
theorem dX8_init_53 : decode cX8_init 53 = .ok (.aload_n 0, 1) := by decide +kernel
theorem dX8_init_54 : decode cX8_init 54 = .ok (.bipush 32, 2) := by decide +kernel
theorem dX8_init_56 : decode cX8_init 56 = .ok (.newarray .int, 2) := by decide +kernel
theorem dX8_init_58 : decode cX8_init 58 = .ok (.putfield 40, 3) := by decide +kernel
theorem dX8_init_61 : decode cX8_init 61 = .ok (.new 43, 3) := by decide +kernel
theorem dX8_init_64 : decode cX8_init 64 = .ok (.dup, 1) := by decide +kernel
theorem dX8_init_65 : decode cX8_init 65 = .ok (.invokespecial 45, 3) := by decide +kernel
theorem dX8_init_68 : decode cX8_init 68 = .ok (.astore_n 1, 1) := by decide +kernel
theorem dX8_init_69 : decode cX8_init 69 = .ok (.iconst 0, 1) := by decide +kernel
theorem dX8_init_70 : decode cX8_init 70 = .ok (.istore_n 2, 1) := by decide +kernel
theorem dX8_init_71 : decode cX8_init 71 = .ok (.iload_n 2, 1) := by decide +kernel
theorem dX8_init_72 : decode cX8_init 72 = .ok (.iconst 4, 1) := by decide +kernel
theorem dX8_init_73 : decode cX8_init 73 = .ok (.if_icmp .ge 40, 3) := by decide +kernel
theorem dX8_init_76 : decode cX8_init 76 = .ok (.new 46, 3) := by decide +kernel
theorem dX8_init_79 : decode cX8_init 79 = .ok (.dup, 1) := by decide +kernel
theorem dX8_init_80 : decode cX8_init 80 = .ok (.invokespecial 48, 3) := by decide +kernel
theorem dX8_init_83 : decode cX8_init 83 = .ok (.astore_n 3, 1) := by decide +kernel
theorem dX8_init_84 : decode cX8_init 84 = .ok (.aload_n 0, 1) := by decide +kernel
theorem dX8_init_85 : decode cX8_init 85 = .ok (.getfield 11, 3) := by decide +kernel
theorem dX8_init_88 : decode cX8_init 88 = .ok (.iload_n 2, 1) := by decide +kernel
theorem dX8_init_89 : decode cX8_init 89 = .ok (.new 9, 3) := by decide +kernel
theorem dX8_init_92 : decode cX8_init 92 = .ok (.dup, 1) := by decide +kernel
theorem dX8_init_93 : decode cX8_init 93 = .ok (.aload_n 3, 1) := by decide +kernel
theorem dX8_init_94 : decode cX8_init 94 = .ok (.new 49, 3) := by decide +kernel
theorem dX8_init_97 : decode cX8_init 97 = .ok (.dup, 1) := by decide +kernel
theorem dX8_init_98 : decode cX8_init 98 = .ok (.aload_n 3, 1) := by decide +kernel
theorem dX8_init_99 : decode cX8_init 99 = .ok (.aload_n 1, 1) := by decide +kernel
theorem dX8_init_100 : decode cX8_init 100 = .ok (.invokespecial 51, 3) := by decide +kernel
theorem dX8_init_103 : decode cX8_init 103 = .ok (.invokespecial 54, 3) := by decide +kernel
theorem dX8_init_106 : decode cX8_init 106 = .ok (.aastore, 1) := by decide +kernel
theorem dX8_init_107 : decode cX8_init 107 = .ok (.iinc 2 1, 3) := by decide +kernel
theorem dX8_init_110 : decode cX8_init 110 = .ok (.goto (-39), 3) := by decide +kernel
theorem dX8_init_113 : decode cX8_init 113 = .ok (.return_, 1) := by decide +kernel
set_option maxRecDepth 20000 in
theorem ggX8_code_X8_isProgram : GoodIn wsX8_code wsX8_isProgram := goodIn_r _ [5] (by decide +kernel) (by decide +kernel)
set_option maxRecDepth 20000 in
theorem gX8_code_X8_isProgram : GoodIn wsX8_code (va_wsS RX8 57 yX8_isProgram wsX8_isProgram) := goodIn_app (goodIn_of _ (by decide +kernel)) ggX8_code_X8_isProgram
set_option maxRecDepth 20000 in
theorem ggX8_code_X8_isInstruction : GoodIn wsX8_code wsX8_isInstruction := goodIn_r _ [8, 9, 10, 4, 11] (by decide +kernel) (by decide +kernel)
set_option maxRecDepth 20000 in
theorem gX8_code_X8_isInstruction : GoodIn wsX8_code (va_wsS RX8 61 yX8_isInstruction wsX8_isInstruction) := goodIn_app (goodIn_of _ (by decide +kernel)) ggX8_code_X8_isInstruction
set_option maxRecDepth 20000 in
theorem ggX8_code_X5_append : GoodIn wsX8_code wsX5_append := goodIn_r _ [16, 17, 18, 19, 20, 21, 22, 23, 24, 25, 26, 27, 28, 29, 30, 15, 31, 32, 33, 34, 35, 36, 37, 38, 39, 40, 41, 42, 43, 44, 45, 46, 47, 48, 49, 50, 57, 58, 59, 60, 61, 62, 63, 64, 65, 66, 67, 68, 69, 70, 71, 72, 73, 74, 75, 76, 77, 78] (by decide +kernel) (by decide +kernel)
set_option maxRecDepth 20000 in
theorem gX8_code_X5_append : GoodIn wsX8_code (wsV RX8 65 RX5 yX5_append wsX5_append) := goodIn_app (goodIn_of _ (by decide +kernel)) ggX8_code_X5_append
theorem dX8_code_0 : decode cX8_code 0 = .ok (.iload_n 1, 1) := by decide +kernel
theorem dX8_code_1 : decode cX8_code 1 = .ok (.invokestatic 57, 3) := by decide +kernel
theorem dX8_code_4 : decode cX8_code 4 = .ok (.ifCond .eq 15, 3) := by decide +kernel
theorem dX8_code_7 : decode cX8_code 7 = .ok (.iload_n 2, 1) := by decide +kernel
theorem dX8_code_8 : decode cX8_code 8 = .ok (.iload_n 3, 1) := by decide +kernel
theorem dX8_code_9 : decode cX8_code 9 = .ok (.iload 4, 2) := by decide +kernel
theorem dX8_code_11 : decode cX8_code 11 = .ok (.iload 5, 2) := by decide +kernel
theorem dX8_code_13 : decode cX8_code 13 = .ok (.invokestatic 61, 3) := by decide +kernel
theorem dX8_code_16 : decode cX8_code 16 = .ok (.ifCond .ne 5, 3) := by decide +kernel
theorem dX8_code_19 : decode cX8_code 19 = .ok (.iconst (-1), 1) := by decide +kernel
theorem dX8_code_20 : decode cX8_code 20 = .ok (.ireturn, 1) := by decide +kernel
theorem dX8_code_21 : decode cX8_code 21 = .ok (.aload_n 0, 1) := by decide +kernel
theorem dX8_code_22 : decode cX8_code 22 = .ok (.getfield 11, 3) := by decide +kernel
theorem dX8_code_25 : decode cX8_code 25 = .ok (.iload_n 1, 1) := by decide +kernel
theorem dX8_code_26 : decode cX8_code 26 = .ok (.aaload, 1) := by decide +kernel
theorem dX8_code_27 : decode cX8_code 27 = .ok (.iload_n 2, 1) := by decide +kernel
theorem dX8_code_28 : decode cX8_code 28 = .ok (.iload_n 3, 1) := by decide +kernel
theorem dX8_code_29 : decode cX8_code 29 = .ok (.iload 4, 2) := by decide +kernel
theorem dX8_code_31 : decode cX8_code 31 = .ok (.iload 5, 2) := by decide +kernel
theorem dX8_code_33 : decode cX8_code 33 = .ok (.invokevirtual 65, 3) := by decide +kernel
theorem dX8_code_36 : decode cX8_code 36 = .ok (.ireturn, 1) := by decide +kernel
set_option maxRecDepth 20000 in
theorem ggX8_change_X8_isProgram : GoodIn wsX8_change wsX8_isProgram := goodIn_r _ [5] (by decide +kernel) (by decide +kernel)
set_option maxRecDepth 20000 in
theorem gX8_change_X8_isProgram : GoodIn wsX8_change (va_wsS RX8 57 yX8_isProgram wsX8_isProgram) := goodIn_app (goodIn_of _ (by decide +kernel)) ggX8_change_X8_isProgram
set_option maxRecDepth 20000 in
theorem ggX8_change_X8_isInstruction : GoodIn wsX8_change wsX8_isInstruction := goodIn_r _ [8, 9, 10, 4, 11] (by decide +kernel) (by decide +kernel)
set_option maxRecDepth 20000 in
theorem gX8_change_X8_isInstruction : GoodIn wsX8_change (va_wsS RX8 61 yX8_isInstruction wsX8_isInstruction) := goodIn_app (goodIn_of _ (by decide +kernel)) ggX8_change_X8_isInstruction
set_option maxRecDepth 20000 in
theorem ggX8_change_X5_replace : GoodIn wsX8_change wsX5_replace := goodIn_r _ [16, 17, 18, 19, 20, 21, 22, 23, 24, 25, 26, 27, 28, 29, 30, 31, 32, 33, 34, 35, 36, 37, 38, 45, 46, 47, 48, 49, 50, 51, 52, 53, 54, 55, 56, 57, 58, 59, 60, 61, 62, 63, 64, 65, 66] (by decide +kernel) (by decide +kernel)
set_option maxRecDepth 20000 in
theorem gX8_change_X5_replace : GoodIn wsX8_change (wsV RX8 69 RX5 yX5_replace wsX5_replace) := goodIn_app (goodIn_of _ (by decide +kernel)) ggX8_change_X5_replace
theorem dX8_change_0 : decode cX8_change 0 = .ok (.iload_n 1, 1) := by decide +kernel
theorem dX8_change_1 : decode cX8_change 1 = .ok (.invokestatic 57, 3) := by decide +kernel
theorem dX8_change_4 : decode cX8_change 4 = .ok (.ifCond .eq 16, 3) := by decide +kernel
theorem dX8_change_7 : decode cX8_change 7 = .ok (.iload_n 3, 1) := by decide +kernel
theorem dX8_change_8 : decode cX8_change 8 = .ok (.iload 4, 2) := by decide +kernel
theorem dX8_change_10 : decode cX8_change 10 = .ok (.iload 5, 2) := by decide +kernel
theorem dX8_change_12 : decode cX8_change 12 = .ok (.iload 6, 2) := by decide +kernel
theorem dX8_change_14 : decode cX8_change 14 = .ok (.invokestatic 61, 3) := by decide +kernel
theorem dX8_change_17 : decode cX8_change 17 = .ok (.ifCond .ne 5, 3) := by decide +kernel
theorem dX8_change_20 : decode cX8_change 20 = .ok (.iconst 0, 1) := by decide +kernel
theorem dX8_change_21 : decode cX8_change 21 = .ok (.ireturn, 1) := by decide +kernel
theorem dX8_change_22 : decode cX8_change 22 = .ok (.aload_n 0, 1) := by decide +kernel
theorem dX8_change_23 : decode cX8_change 23 = .ok (.getfield 11, 3) := by decide +kernel
theorem dX8_change_26 : decode cX8_change 26 = .ok (.iload_n 1, 1) := by decide +kernel
theorem dX8_change_27 : decode cX8_change 27 = .ok (.aaload, 1) := by decide +kernel
theorem dX8_change_28 : decode cX8_change 28 = .ok (.iload_n 2, 1) := by decide +kernel
theorem dX8_change_29 : decode cX8_change 29 = .ok (.iload_n 3, 1) := by decide +kernel
theorem dX8_change_30 : decode cX8_change 30 = .ok (.iload 4, 2) := by decide +kernel
theorem dX8_change_32 : decode cX8_change 32 = .ok (.iload 5, 2) := by decide +kernel
theorem dX8_change_34 : decode cX8_change 34 = .ok (.iload 6, 2) := by decide +kernel
theorem dX8_change_36 : decode cX8_change 36 = .ok (.invokevirtual 69, 3) := by decide +kernel
theorem dX8_change_39 : decode cX8_change 39 = .ok (.ireturn, 1) := by decide +kernel
set_option maxRecDepth 20000 in
theorem ggX8_copy_X8_isProgram : GoodIn wsX8_copy wsX8_isProgram := goodIn_r _ [5] (by decide +kernel) (by decide +kernel)
set_option maxRecDepth 20000 in
theorem gX8_copy_X8_isProgram : GoodIn wsX8_copy (va_wsS RX8 57 yX8_isProgram wsX8_isProgram) := goodIn_app (goodIn_of _ (by decide +kernel)) ggX8_copy_X8_isProgram
set_option maxRecDepth 20000 in
theorem ggX8_copy_X5_takeCodeOf : GoodIn wsX8_copy wsX5_takeCodeOf := goodIn_r _ [10, 11, 12, 13, 14, 15, 16, 17, 18, 19, 20, 21, 22, 23, 24, 25, 26, 27, 28, 29, 30, 31, 32, 39, 40, 41, 42, 43, 44, 45, 46, 47, 48, 49, 50, 51, 52, 53, 54, 55, 56, 57, 58, 59, 60] (by decide +kernel) (by decide +kernel)
set_option maxRecDepth 20000 in
theorem gX8_copy_X5_takeCodeOf : GoodIn wsX8_copy (wsV RX8 73 RX5 yX5_takeCodeOf wsX5_takeCodeOf) := goodIn_app (goodIn_of _ (by decide +kernel)) ggX8_copy_X5_takeCodeOf
theorem dX8_copy_0 : decode cX8_copy 0 = .ok (.iload_n 1, 1) := by decide +kernel
theorem dX8_copy_1 : decode cX8_copy 1 = .ok (.invokestatic 57, 3) := by decide +kernel
theorem dX8_copy_4 : decode cX8_copy 4 = .ok (.ifCond .eq 15, 3) := by decide +kernel
theorem dX8_copy_7 : decode cX8_copy 7 = .ok (.iload_n 2, 1) := by decide +kernel
theorem dX8_copy_8 : decode cX8_copy 8 = .ok (.invokestatic 57, 3) := by decide +kernel
theorem dX8_copy_11 : decode cX8_copy 11 = .ok (.ifCond .eq 8, 3) := by decide +kernel
theorem dX8_copy_14 : decode cX8_copy 14 = .ok (.iload_n 1, 1) := by decide +kernel
theorem dX8_copy_15 : decode cX8_copy 15 = .ok (.iload_n 2, 1) := by decide +kernel
theorem dX8_copy_16 : decode cX8_copy 16 = .ok (.if_icmp .ne 5, 3) := by decide +kernel
theorem dX8_copy_19 : decode cX8_copy 19 = .ok (.iconst 0, 1) := by decide +kernel
theorem dX8_copy_20 : decode cX8_copy 20 = .ok (.ireturn, 1) := by decide +kernel
theorem dX8_copy_21 : decode cX8_copy 21 = .ok (.aload_n 0, 1) := by decide +kernel
theorem dX8_copy_22 : decode cX8_copy 22 = .ok (.getfield 11, 3) := by decide +kernel
theorem dX8_copy_25 : decode cX8_copy 25 = .ok (.iload_n 1, 1) := by decide +kernel
theorem dX8_copy_26 : decode cX8_copy 26 = .ok (.aaload, 1) := by decide +kernel
theorem dX8_copy_27 : decode cX8_copy 27 = .ok (.aload_n 0, 1) := by decide +kernel
theorem dX8_copy_28 : decode cX8_copy 28 = .ok (.getfield 11, 3) := by decide +kernel
theorem dX8_copy_31 : decode cX8_copy 31 = .ok (.iload_n 2, 1) := by decide +kernel
theorem dX8_copy_32 : decode cX8_copy 32 = .ok (.aaload, 1) := by decide +kernel
theorem dX8_copy_33 : decode cX8_copy 33 = .ok (.invokevirtual 73, 3) := by decide +kernel
theorem dX8_copy_36 : decode cX8_copy 36 = .ok (.iconst 1, 1) := by decide +kernel
theorem dX8_copy_37 : decode cX8_copy 37 = .ok (.ireturn, 1) := by decide +kernel
set_option maxRecDepth 20000 in
theorem ggX8_needed_X8_isProgram : GoodIn wsX8_needed wsX8_isProgram := goodIn_r _ [5] (by decide +kernel) (by decide +kernel)
set_option maxRecDepth 20000 in
theorem gX8_needed_X8_isProgram : GoodIn wsX8_needed (va_wsS RX8 57 yX8_isProgram wsX8_isProgram) := goodIn_app (goodIn_of _ (by decide +kernel)) ggX8_needed_X8_isProgram
set_option maxRecDepth 20000 in
theorem ggX8_needed_X8_isPhase : GoodIn wsX8_needed wsX8_isPhase := goodIn_r _ [8] (by decide +kernel) (by decide +kernel)
set_option maxRecDepth 20000 in
theorem gX8_needed_X8_isPhase : GoodIn wsX8_needed (va_wsS RX8 77 yX8_isPhase wsX8_isPhase) := goodIn_app (goodIn_of _ (by decide +kernel)) ggX8_needed_X8_isPhase
set_option maxRecDepth 20000 in
theorem ggX8_needed_X8_isValue : GoodIn wsX8_needed wsX8_isValue := goodIn_r _ [11] (by decide +kernel) (by decide +kernel)
set_option maxRecDepth 20000 in
theorem gX8_needed_X8_isValue : GoodIn wsX8_needed (va_wsS RX8 80 yX8_isValue wsX8_isValue) := goodIn_app (goodIn_of _ (by decide +kernel)) ggX8_needed_X8_isValue
set_option maxRecDepth 20000 in
theorem ggX8_needed_X5_paths : GoodIn wsX8_needed wsX5_paths := goodIn_r _ [16, 17, 169, 170, 171] (by decide +kernel) (by decide +kernel)
set_option maxRecDepth 20000 in
theorem gX8_needed_X5_paths : GoodIn wsX8_needed (wsV RX8 83 RX5 yX5_paths wsX5_paths) := goodIn_app (goodIn_of _ (by decide +kernel)) ggX8_needed_X5_paths
set_option maxRecDepth 20000 in
theorem ggX8_needed_X4_searched : GoodIn wsX8_needed wsX4_searched := goodIn_r _ [22, 23, 24, 25, 26, 27, 28, 29, 30, 31, 32, 33, 34, 35, 36, 37, 38, 39, 40, 41, 42, 43, 44, 45, 46, 47, 48, 49, 50, 21, 51, 52, 53, 54, 55, 56, 57, 58, 59, 60, 61, 62, 63, 64, 65, 66, 67, 68, 69, 70, 71, 72, 73, 4, 74, 75, 76, 77, 78, 79, 80, 81, 82, 83, 84, 85, 86, 87, 88, 89, 90, 91, 92, 93, 94, 95, 96, 97, 98, 99, 100, 101, 102, 103, 104, 105, 106, 107, 108, 109, 110, 111, 112, 113, 114, 115, 116, 117, 118, 119, 120, 121, 122, 123, 124, 125, 126, 127, 128, 129, 130, 131, 132, 133, 134, 135, 136, 137, 138, 139, 140, 141, 142, 143, 144, 145, 146, 147, 148, 149, 150, 151, 152, 153, 154, 155, 156, 157, 172, 173, 174, 175, 176, 177, 178, 179, 180, 181, 182, 183, 184, 185, 186, 187, 188, 189, 190, 191, 192, 193, 194] (by decide +kernel) (by decide +kernel)
set_option maxRecDepth 20000 in
theorem gX8_needed_X4_searched : GoodIn wsX8_needed (wsV RX8 87 RX4 yX4_searched wsX4_searched) := goodIn_app (goodIn_of _ (by decide +kernel)) ggX8_needed_X4_searched
set_option maxRecDepth 20000 in
theorem ggX8_needed_X4_calls : GoodIn wsX8_needed wsX4_calls := goodIn_r _ [161, 25, 172, 173, 174, 175, 176, 177, 178, 179, 180, 181, 182, 183, 184, 185] (by decide +kernel) (by decide +kernel)
set_option maxRecDepth 20000 in
theorem gX8_needed_X4_calls : GoodIn wsX8_needed (wsV RX8 90 RX4 yX4_calls wsX4_calls) := goodIn_app (goodIn_of _ (by decide +kernel)) ggX8_needed_X4_calls
set_option maxRecDepth 20000 in
theorem ggX8_needed_X0_arguments : GoodIn wsX8_needed wsX0_arguments := goodIn_r _ [135, 46, 189] (by decide +kernel) (by decide +kernel)
set_option maxRecDepth 20000 in
theorem gX8_needed_X0_arguments : GoodIn wsX8_needed (wsV RX8 94 RX0 yX0_arguments wsX0_arguments) := goodIn_app (goodIn_of _ (by decide +kernel)) ggX8_needed_X0_arguments
theorem dX8_needed_0 : decode cX8_needed 0 = .ok (.iload_n 1, 1) := by decide +kernel
theorem dX8_needed_1 : decode cX8_needed 1 = .ok (.invokestatic 57, 3) := by decide +kernel
theorem dX8_needed_4 : decode cX8_needed 4 = .ok (.ifCond .eq 17, 3) := by decide +kernel
theorem dX8_needed_7 : decode cX8_needed 7 = .ok (.iload_n 2, 1) := by decide +kernel
theorem dX8_needed_8 : decode cX8_needed 8 = .ok (.invokestatic 77, 3) := by decide +kernel
theorem dX8_needed_11 : decode cX8_needed 11 = .ok (.ifCond .eq 10, 3) := by decide +kernel
theorem dX8_needed_14 : decode cX8_needed 14 = .ok (.iload_n 3, 1) := by decide +kernel
theorem dX8_needed_15 : decode cX8_needed 15 = .ok (.invokestatic 80, 3) := by decide +kernel
theorem dX8_needed_18 : decode cX8_needed 18 = .ok (.ifCond .ne 5, 3) := by decide +kernel
theorem dX8_needed_21 : decode cX8_needed 21 = .ok (.iconst 0, 1) := by decide +kernel
theorem dX8_needed_22 : decode cX8_needed 22 = .ok (.ireturn, 1) := by decide +kernel
theorem dX8_needed_23 : decode cX8_needed 23 = .ok (.aload_n 0, 1) := by decide +kernel
theorem dX8_needed_24 : decode cX8_needed 24 = .ok (.getfield 11, 3) := by decide +kernel
theorem dX8_needed_27 : decode cX8_needed 27 = .ok (.iload_n 1, 1) := by decide +kernel
theorem dX8_needed_28 : decode cX8_needed 28 = .ok (.aaload, 1) := by decide +kernel
theorem dX8_needed_29 : decode cX8_needed 29 = .ok (.invokevirtual 83, 3) := by decide +kernel
theorem dX8_needed_32 : decode cX8_needed 32 = .ok (.invokevirtual 87, 3) := by decide +kernel
theorem dX8_needed_35 : decode cX8_needed 35 = .ok (.invokevirtual 90, 3) := by decide +kernel
theorem dX8_needed_38 : decode cX8_needed 38 = .ok (.iload_n 2, 1) := by decide +kernel
theorem dX8_needed_39 : decode cX8_needed 39 = .ok (.iload_n 3, 1) := by decide +kernel
theorem dX8_needed_40 : decode cX8_needed 40 = .ok (.invokevirtual 94, 3) := by decide +kernel
theorem dX8_needed_43 : decode cX8_needed 43 = .ok (.ireturn, 1) := by decide +kernel
set_option maxRecDepth 20000 in
theorem ggX8_spans_X8_isProgram : GoodIn wsX8_spans wsX8_isProgram := goodIn_r _ [5] (by decide +kernel) (by decide +kernel)
set_option maxRecDepth 20000 in
theorem gX8_spans_X8_isProgram : GoodIn wsX8_spans (va_wsS RX8 57 yX8_isProgram wsX8_isProgram) := goodIn_app (goodIn_of _ (by decide +kernel)) ggX8_spans_X8_isProgram
set_option maxRecDepth 20000 in
theorem ggX8_spans_X8_isPhase : GoodIn wsX8_spans wsX8_isPhase := goodIn_r _ [8] (by decide +kernel) (by decide +kernel)
set_option maxRecDepth 20000 in
theorem gX8_spans_X8_isPhase : GoodIn wsX8_spans (va_wsS RX8 77 yX8_isPhase wsX8_isPhase) := goodIn_app (goodIn_of _ (by decide +kernel)) ggX8_spans_X8_isPhase
set_option maxRecDepth 20000 in
theorem ggX8_spans_X5_paths : GoodIn wsX8_spans wsX5_paths := goodIn_r _ [13, 14, 180, 181, 182] (by decide +kernel) (by decide +kernel)
set_option maxRecDepth 20000 in
theorem gX8_spans_X5_paths : GoodIn wsX8_spans (wsV RX8 83 RX5 yX5_paths wsX5_paths) := goodIn_app (goodIn_of _ (by decide +kernel)) ggX8_spans_X5_paths
set_option maxRecDepth 20000 in
theorem ggX8_spans_X4_searched : GoodIn wsX8_spans wsX4_searched := goodIn_r _ [19, 20, 21, 22, 23, 24, 25, 26, 27, 28, 29, 30, 31, 32, 33, 34, 35, 36, 37, 38, 39, 40, 41, 42, 43, 44, 45, 46, 47, 18, 48, 49, 50, 51, 52, 53, 54, 55, 56, 57, 58, 59, 60, 61, 62, 63, 64, 65, 66, 67, 68, 69, 70, 4, 71, 72, 73, 74, 75, 76, 77, 78, 79, 80, 81, 82, 83, 84, 85, 86, 87, 88, 89, 90, 91, 92, 93, 94, 95, 96, 97, 98, 99, 100, 101, 102, 103, 104, 105, 106, 107, 108, 109, 110, 111, 112, 113, 114, 115, 116, 117, 118, 119, 120, 121, 122, 123, 124, 125, 126, 127, 128, 129, 130, 131, 132, 133, 134, 135, 136, 137, 138, 139, 140, 141, 142, 143, 144, 145, 146, 147, 148, 149, 150, 151, 152, 153, 154, 183, 184, 185, 186, 187, 188, 189, 190, 191, 192, 193, 194, 195, 196, 197, 198, 199, 200, 201, 202, 203, 204, 205] (by decide +kernel) (by decide +kernel)
set_option maxRecDepth 20000 in
theorem gX8_spans_X4_searched : GoodIn wsX8_spans (wsV RX8 87 RX4 yX4_searched wsX4_searched) := goodIn_app (goodIn_of _ (by decide +kernel)) ggX8_spans_X4_searched
set_option maxRecDepth 20000 in
theorem ggX8_spans_X4_calls : GoodIn wsX8_spans wsX4_calls := goodIn_r _ [158, 22, 183, 184, 185, 186, 187, 188, 189, 190, 191, 192, 193, 194, 195, 196] (by decide +kernel) (by decide +kernel)
set_option maxRecDepth 20000 in
theorem gX8_spans_X4_calls : GoodIn wsX8_spans (wsV RX8 90 RX4 yX4_calls wsX4_calls) := goodIn_app (goodIn_of _ (by decide +kernel)) ggX8_spans_X4_calls
set_option maxRecDepth 20000 in
theorem ggX8_spans_X0_spansIn : GoodIn wsX8_spans wsX0_spansIn := goodIn_r _ [162, 163, 130, 131, 41, 132, 43, 164, 165, 166, 167, 168, 169, 170, 171, 172, 173, 200] (by decide +kernel) (by decide +kernel)
set_option maxRecDepth 20000 in
theorem gX8_spans_X0_spansIn : GoodIn wsX8_spans (wsV RX8 100 RX0 yX0_spansIn wsX0_spansIn) := goodIn_app (goodIn_of _ (by decide +kernel)) ggX8_spans_X0_spansIn
theorem dX8_spans_0 : decode cX8_spans 0 = .ok (.iload_n 1, 1) := by decide +kernel
theorem dX8_spans_1 : decode cX8_spans 1 = .ok (.invokestatic 57, 3) := by decide +kernel
theorem dX8_spans_4 : decode cX8_spans 4 = .ok (.ifCond .eq 10, 3) := by decide +kernel
theorem dX8_spans_7 : decode cX8_spans 7 = .ok (.iload_n 2, 1) := by decide +kernel
theorem dX8_spans_8 : decode cX8_spans 8 = .ok (.invokestatic 77, 3) := by decide +kernel
theorem dX8_spans_11 : decode cX8_spans 11 = .ok (.ifCond .ne 5, 3) := by decide +kernel
theorem dX8_spans_14 : decode cX8_spans 14 = .ok (.iconst (-1), 1) := by decide +kernel
theorem dX8_spans_15 : decode cX8_spans 15 = .ok (.ireturn, 1) := by decide +kernel
theorem dX8_spans_16 : decode cX8_spans 16 = .ok (.aload_n 0, 1) := by decide +kernel
theorem dX8_spans_17 : decode cX8_spans 17 = .ok (.getfield 11, 3) := by decide +kernel
theorem dX8_spans_20 : decode cX8_spans 20 = .ok (.iload_n 1, 1) := by decide +kernel
theorem dX8_spans_21 : decode cX8_spans 21 = .ok (.aaload, 1) := by decide +kernel
theorem dX8_spans_22 : decode cX8_spans 22 = .ok (.invokevirtual 83, 3) := by decide +kernel
theorem dX8_spans_25 : decode cX8_spans 25 = .ok (.invokevirtual 87, 3) := by decide +kernel
theorem dX8_spans_28 : decode cX8_spans 28 = .ok (.invokevirtual 90, 3) := by decide +kernel
theorem dX8_spans_31 : decode cX8_spans 31 = .ok (.iload_n 2, 1) := by decide +kernel
theorem dX8_spans_32 : decode cX8_spans 32 = .ok (.invokevirtual 100, 3) := by decide +kernel
theorem dX8_spans_35 : decode cX8_spans 35 = .ok (.ireturn, 1) := by decide +kernel
set_option maxRecDepth 20000 in
theorem ggX8_span_X8_isProgram : GoodIn wsX8_span wsX8_isProgram := goodIn_r _ [5] (by decide +kernel) (by decide +kernel)
set_option maxRecDepth 20000 in
theorem gX8_span_X8_isProgram : GoodIn wsX8_span (va_wsS RX8 57 yX8_isProgram wsX8_isProgram) := goodIn_app (goodIn_of _ (by decide +kernel)) ggX8_span_X8_isProgram
set_option maxRecDepth 20000 in
theorem ggX8_span_X8_isPhase : GoodIn wsX8_span wsX8_isPhase := goodIn_r _ [8] (by decide +kernel) (by decide +kernel)
set_option maxRecDepth 20000 in
theorem gX8_span_X8_isPhase : GoodIn wsX8_span (va_wsS RX8 77 yX8_isPhase wsX8_isPhase) := goodIn_app (goodIn_of _ (by decide +kernel)) ggX8_span_X8_isPhase
set_option maxRecDepth 20000 in
theorem ggX8_span_X5_paths : GoodIn wsX8_span wsX5_paths := goodIn_r _ [13, 14, 186, 187, 188] (by decide +kernel) (by decide +kernel)
set_option maxRecDepth 20000 in
theorem gX8_span_X5_paths : GoodIn wsX8_span (wsV RX8 83 RX5 yX5_paths wsX5_paths) := goodIn_app (goodIn_of _ (by decide +kernel)) ggX8_span_X5_paths
set_option maxRecDepth 20000 in
theorem ggX8_span_X4_searched : GoodIn wsX8_span wsX4_searched := goodIn_r _ [19, 20, 21, 22, 23, 24, 25, 26, 27, 28, 29, 30, 31, 32, 33, 34, 35, 36, 37, 38, 39, 40, 41, 42, 43, 44, 45, 46, 47, 18, 48, 49, 50, 51, 52, 53, 54, 55, 56, 57, 58, 59, 60, 61, 62, 63, 64, 65, 66, 67, 68, 69, 70, 4, 71, 72, 73, 74, 75, 76, 77, 78, 79, 80, 81, 82, 83, 84, 85, 86, 87, 88, 89, 90, 91, 92, 93, 94, 95, 96, 97, 98, 99, 100, 101, 102, 103, 104, 105, 106, 107, 108, 109, 110, 111, 112, 113, 114, 115, 116, 117, 118, 119, 120, 121, 122, 123, 124, 125, 126, 127, 128, 129, 130, 131, 132, 133, 134, 135, 136, 137, 138, 139, 140, 141, 142, 143, 144, 145, 146, 147, 148, 149, 150, 151, 152, 153, 154, 189, 190, 191, 192, 193, 194, 195, 196, 197, 198, 199, 200, 201, 202, 203, 204, 205, 206, 207, 208, 209, 210, 211] (by decide +kernel) (by decide +kernel)
set_option maxRecDepth 20000 in
theorem gX8_span_X4_searched : GoodIn wsX8_span (wsV RX8 87 RX4 yX4_searched wsX4_searched) := goodIn_app (goodIn_of _ (by decide +kernel)) ggX8_span_X4_searched
set_option maxRecDepth 20000 in
theorem ggX8_span_X4_calls : GoodIn wsX8_span wsX4_calls := goodIn_r _ [158, 22, 189, 190, 191, 192, 193, 194, 195, 196, 197, 198, 199, 200, 201, 202] (by decide +kernel) (by decide +kernel)
set_option maxRecDepth 20000 in
theorem gX8_span_X4_calls : GoodIn wsX8_span (wsV RX8 90 RX4 yX4_calls wsX4_calls) := goodIn_app (goodIn_of _ (by decide +kernel)) ggX8_span_X4_calls
set_option maxRecDepth 20000 in
theorem ggX8_span_X0_spanPart : GoodIn wsX8_span wsX0_spanPart := goodIn_r _ [162, 163, 130, 131, 41, 132, 43, 164, 165, 166, 167, 168, 169, 170, 171, 172, 173, 174, 175, 176, 177, 178, 179, 70, 4, 71, 206] (by decide +kernel) (by decide +kernel)
set_option maxRecDepth 20000 in
theorem gX8_span_X0_spanPart : GoodIn wsX8_span (wsV RX8 104 RX0 yX0_spanPart wsX0_spanPart) := goodIn_app (goodIn_of _ (by decide +kernel)) ggX8_span_X0_spanPart
theorem dX8_span_0 : decode cX8_span 0 = .ok (.iload_n 1, 1) := by decide +kernel
theorem dX8_span_1 : decode cX8_span 1 = .ok (.invokestatic 57, 3) := by decide +kernel
theorem dX8_span_4 : decode cX8_span 4 = .ok (.ifCond .eq 14, 3) := by decide +kernel
theorem dX8_span_7 : decode cX8_span 7 = .ok (.iload_n 2, 1) := by decide +kernel
theorem dX8_span_8 : decode cX8_span 8 = .ok (.invokestatic 77, 3) := by decide +kernel
theorem dX8_span_11 : decode cX8_span 11 = .ok (.ifCond .eq 7, 3) := by decide +kernel
theorem dX8_span_14 : decode cX8_span 14 = .ok (.iload_n 3, 1) := by decide +kernel
theorem dX8_span_15 : decode cX8_span 15 = .ok (.ifCond .ge 5, 3) := by decide +kernel
theorem dX8_span_18 : decode cX8_span 18 = .ok (.iconst (-1), 1) := by decide +kernel
theorem dX8_span_19 : decode cX8_span 19 = .ok (.ireturn, 1) := by decide +kernel
theorem dX8_span_20 : decode cX8_span 20 = .ok (.aload_n 0, 1) := by decide +kernel
theorem dX8_span_21 : decode cX8_span 21 = .ok (.getfield 11, 3) := by decide +kernel
theorem dX8_span_24 : decode cX8_span 24 = .ok (.iload_n 1, 1) := by decide +kernel
theorem dX8_span_25 : decode cX8_span 25 = .ok (.aaload, 1) := by decide +kernel
theorem dX8_span_26 : decode cX8_span 26 = .ok (.invokevirtual 83, 3) := by decide +kernel
theorem dX8_span_29 : decode cX8_span 29 = .ok (.invokevirtual 87, 3) := by decide +kernel
theorem dX8_span_32 : decode cX8_span 32 = .ok (.invokevirtual 90, 3) := by decide +kernel
theorem dX8_span_35 : decode cX8_span 35 = .ok (.iload_n 2, 1) := by decide +kernel
theorem dX8_span_36 : decode cX8_span 36 = .ok (.iload_n 3, 1) := by decide +kernel
theorem dX8_span_37 : decode cX8_span 37 = .ok (.iload 4, 2) := by decide +kernel
theorem dX8_span_39 : decode cX8_span 39 = .ok (.invokevirtual 104, 3) := by decide +kernel
theorem dX8_span_42 : decode cX8_span 42 = .ok (.ireturn, 1) := by decide +kernel
set_option maxRecDepth 20000 in
theorem ggX8_steps_X8_isProgram : GoodIn wsX8_steps wsX8_isProgram := goodIn_r _ [5] (by decide +kernel) (by decide +kernel)
set_option maxRecDepth 20000 in
theorem gX8_steps_X8_isProgram : GoodIn wsX8_steps (va_wsS RX8 57 yX8_isProgram wsX8_isProgram) := goodIn_app (goodIn_of _ (by decide +kernel)) ggX8_steps_X8_isProgram
set_option maxRecDepth 20000 in
theorem ggX8_steps_X8_isPhase : GoodIn wsX8_steps wsX8_isPhase := goodIn_r _ [8] (by decide +kernel) (by decide +kernel)
set_option maxRecDepth 20000 in
theorem gX8_steps_X8_isPhase : GoodIn wsX8_steps (va_wsS RX8 77 yX8_isPhase wsX8_isPhase) := goodIn_app (goodIn_of _ (by decide +kernel)) ggX8_steps_X8_isPhase
set_option maxRecDepth 20000 in
theorem ggX8_steps_X8_isValue : GoodIn wsX8_steps wsX8_isValue := goodIn_r _ [11] (by decide +kernel) (by decide +kernel)
set_option maxRecDepth 20000 in
theorem gX8_steps_X8_isValue : GoodIn wsX8_steps (va_wsS RX8 80 yX8_isValue wsX8_isValue) := goodIn_app (goodIn_of _ (by decide +kernel)) ggX8_steps_X8_isValue
set_option maxRecDepth 20000 in
theorem ggX8_steps_X5_paths : GoodIn wsX8_steps wsX5_paths := goodIn_r _ [16, 17, 172, 173, 174] (by decide +kernel) (by decide +kernel)
set_option maxRecDepth 20000 in
theorem gX8_steps_X5_paths : GoodIn wsX8_steps (wsV RX8 83 RX5 yX5_paths wsX5_paths) := goodIn_app (goodIn_of _ (by decide +kernel)) ggX8_steps_X5_paths
set_option maxRecDepth 20000 in
theorem ggX8_steps_X4_searched : GoodIn wsX8_steps wsX4_searched := goodIn_r _ [22, 23, 24, 25, 26, 27, 28, 29, 30, 31, 32, 33, 34, 35, 36, 37, 38, 39, 40, 41, 42, 43, 44, 45, 46, 47, 48, 49, 50, 21, 51, 52, 53, 54, 55, 56, 57, 58, 59, 60, 61, 62, 63, 64, 65, 66, 67, 68, 69, 70, 71, 72, 73, 4, 74, 75, 76, 77, 78, 79, 80, 81, 82, 83, 84, 85, 86, 87, 88, 89, 90, 91, 92, 93, 94, 95, 96, 97, 98, 99, 100, 101, 102, 103, 104, 105, 106, 107, 108, 109, 110, 111, 112, 113, 114, 115, 116, 117, 118, 119, 120, 121, 122, 123, 124, 125, 126, 127, 128, 129, 130, 131, 132, 133, 134, 135, 136, 137, 138, 139, 140, 141, 142, 143, 144, 145, 146, 147, 148, 149, 150, 151, 152, 153, 154, 155, 156, 157, 175, 176, 177, 178, 179, 180, 181, 182, 183, 184, 185, 186, 187, 188, 189, 190, 191, 192, 193, 194, 195, 196, 197] (by decide +kernel) (by decide +kernel)
set_option maxRecDepth 20000 in
theorem gX8_steps_X4_searched : GoodIn wsX8_steps (wsV RX8 87 RX4 yX4_searched wsX4_searched) := goodIn_app (goodIn_of _ (by decide +kernel)) ggX8_steps_X4_searched
set_option maxRecDepth 20000 in
theorem ggX8_steps_X4_lengthTo : GoodIn wsX8_steps wsX4_lengthTo := goodIn_r _ [161, 25, 131, 29, 132, 133, 134, 44, 135, 46, 73, 4, 74, 136, 137, 21, 138, 162, 163, 164, 165, 53, 175, 176, 177, 178, 179, 180, 181, 182, 183, 184, 185, 186, 187, 188, 192] (by decide +kernel) (by decide +kernel)
set_option maxRecDepth 20000 in
theorem gX8_steps_X4_lengthTo : GoodIn wsX8_steps (wsV RX8 108 RX4 yX4_lengthTo wsX4_lengthTo) := goodIn_app (goodIn_of _ (by decide +kernel)) ggX8_steps_X4_lengthTo
theorem dX8_steps_0 : decode cX8_steps 0 = .ok (.iload_n 1, 1) := by decide +kernel
theorem dX8_steps_1 : decode cX8_steps 1 = .ok (.invokestatic 57, 3) := by decide +kernel
theorem dX8_steps_4 : decode cX8_steps 4 = .ok (.ifCond .eq 25, 3) := by decide +kernel
theorem dX8_steps_7 : decode cX8_steps 7 = .ok (.iload_n 2, 1) := by decide +kernel
theorem dX8_steps_8 : decode cX8_steps 8 = .ok (.invokestatic 77, 3) := by decide +kernel
theorem dX8_steps_11 : decode cX8_steps 11 = .ok (.ifCond .eq 18, 3) := by decide +kernel
theorem dX8_steps_14 : decode cX8_steps 14 = .ok (.iload_n 3, 1) := by decide +kernel
theorem dX8_steps_15 : decode cX8_steps 15 = .ok (.invokestatic 80, 3) := by decide +kernel
theorem dX8_steps_18 : decode cX8_steps 18 = .ok (.ifCond .eq 11, 3) := by decide +kernel
theorem dX8_steps_21 : decode cX8_steps 21 = .ok (.iload 4, 2) := by decide +kernel
theorem dX8_steps_23 : decode cX8_steps 23 = .ok (.invokestatic 80, 3) := by decide +kernel
theorem dX8_steps_26 : decode cX8_steps 26 = .ok (.ifCond .ne 5, 3) := by decide +kernel
theorem dX8_steps_29 : decode cX8_steps 29 = .ok (.iconst (-1), 1) := by decide +kernel
theorem dX8_steps_30 : decode cX8_steps 30 = .ok (.ireturn, 1) := by decide +kernel
theorem dX8_steps_31 : decode cX8_steps 31 = .ok (.aload_n 0, 1) := by decide +kernel
theorem dX8_steps_32 : decode cX8_steps 32 = .ok (.getfield 11, 3) := by decide +kernel
theorem dX8_steps_35 : decode cX8_steps 35 = .ok (.iload_n 1, 1) := by decide +kernel
theorem dX8_steps_36 : decode cX8_steps 36 = .ok (.aaload, 1) := by decide +kernel
theorem dX8_steps_37 : decode cX8_steps 37 = .ok (.invokevirtual 83, 3) := by decide +kernel
theorem dX8_steps_40 : decode cX8_steps 40 = .ok (.invokevirtual 87, 3) := by decide +kernel
theorem dX8_steps_43 : decode cX8_steps 43 = .ok (.iload_n 2, 1) := by decide +kernel
theorem dX8_steps_44 : decode cX8_steps 44 = .ok (.iload_n 3, 1) := by decide +kernel
theorem dX8_steps_45 : decode cX8_steps 45 = .ok (.iload 4, 2) := by decide +kernel
theorem dX8_steps_47 : decode cX8_steps 47 = .ok (.invokevirtual 108, 3) := by decide +kernel
theorem dX8_steps_50 : decode cX8_steps 50 = .ok (.ireturn, 1) := by decide +kernel
set_option maxRecDepth 20000 in
theorem ggX8_way_X8_isProgram : GoodIn wsX8_way wsX8_isProgram := goodIn_r _ [5] (by decide +kernel) (by decide +kernel)
set_option maxRecDepth 20000 in
theorem gX8_way_X8_isProgram : GoodIn wsX8_way (va_wsS RX8 57 yX8_isProgram wsX8_isProgram) := goodIn_app (goodIn_of _ (by decide +kernel)) ggX8_way_X8_isProgram
set_option maxRecDepth 20000 in
theorem ggX8_way_X8_isPhase : GoodIn wsX8_way wsX8_isPhase := goodIn_r _ [8] (by decide +kernel) (by decide +kernel)
set_option maxRecDepth 20000 in
theorem gX8_way_X8_isPhase : GoodIn wsX8_way (va_wsS RX8 77 yX8_isPhase wsX8_isPhase) := goodIn_app (goodIn_of _ (by decide +kernel)) ggX8_way_X8_isPhase
set_option maxRecDepth 20000 in
theorem ggX8_way_X8_isValue : GoodIn wsX8_way wsX8_isValue := goodIn_r _ [11] (by decide +kernel) (by decide +kernel)
set_option maxRecDepth 20000 in
theorem gX8_way_X8_isValue : GoodIn wsX8_way (va_wsS RX8 80 yX8_isValue wsX8_isValue) := goodIn_app (goodIn_of _ (by decide +kernel)) ggX8_way_X8_isValue
set_option maxRecDepth 20000 in
theorem ggX8_way_X5_paths : GoodIn wsX8_way wsX5_paths := goodIn_r _ [16, 17, 176, 177, 178] (by decide +kernel) (by decide +kernel)
set_option maxRecDepth 20000 in
theorem gX8_way_X5_paths : GoodIn wsX8_way (wsV RX8 83 RX5 yX5_paths wsX5_paths) := goodIn_app (goodIn_of _ (by decide +kernel)) ggX8_way_X5_paths
set_option maxRecDepth 20000 in
theorem ggX8_way_X4_searched : GoodIn wsX8_way wsX4_searched := goodIn_r _ [22, 23, 24, 25, 26, 27, 28, 29, 30, 31, 32, 33, 34, 35, 36, 37, 38, 39, 40, 41, 42, 43, 44, 45, 46, 47, 48, 49, 50, 21, 51, 52, 53, 54, 55, 56, 57, 58, 59, 60, 61, 62, 63, 64, 65, 66, 67, 68, 69, 70, 71, 72, 73, 4, 74, 75, 76, 77, 78, 79, 80, 81, 82, 83, 84, 85, 86, 87, 88, 89, 90, 91, 92, 93, 94, 95, 96, 97, 98, 99, 100, 101, 102, 103, 104, 105, 106, 107, 108, 109, 110, 111, 112, 113, 114, 115, 116, 117, 118, 119, 120, 121, 122, 123, 124, 125, 126, 127, 128, 129, 130, 131, 132, 133, 134, 135, 136, 137, 138, 139, 140, 141, 142, 143, 144, 145, 146, 147, 148, 149, 150, 151, 152, 153, 154, 155, 156, 157, 179, 180, 181, 182, 183, 184, 185, 186, 187, 188, 189, 190, 191, 192, 193, 194, 195, 196, 197, 198, 199, 200, 201] (by decide +kernel) (by decide +kernel)
set_option maxRecDepth 20000 in
theorem gX8_way_X4_searched : GoodIn wsX8_way (wsV RX8 87 RX4 yX4_searched wsX4_searched) := goodIn_app (goodIn_of _ (by decide +kernel)) ggX8_way_X4_searched
set_option maxRecDepth 20000 in
theorem ggX8_way_X4_instructionTo : GoodIn wsX8_way wsX4_instructionTo := goodIn_r _ [161, 131, 53, 162, 163, 164, 21, 165, 25, 29, 132, 133, 134, 44, 135, 46, 73, 4, 74, 136, 137, 138, 166, 167, 168, 169, 179, 180, 181, 182, 183, 184, 185, 186, 187, 188, 189, 190, 191, 192, 196] (by decide +kernel) (by decide +kernel)
set_option maxRecDepth 20000 in
theorem gX8_way_X4_instructionTo : GoodIn wsX8_way (wsV RX8 111 RX4 yX4_instructionTo wsX4_instructionTo) := goodIn_app (goodIn_of _ (by decide +kernel)) ggX8_way_X4_instructionTo
theorem dX8_way_0 : decode cX8_way 0 = .ok (.iload_n 1, 1) := by decide +kernel
theorem dX8_way_1 : decode cX8_way 1 = .ok (.invokestatic 57, 3) := by decide +kernel
theorem dX8_way_4 : decode cX8_way 4 = .ok (.ifCond .eq 25, 3) := by decide +kernel
theorem dX8_way_7 : decode cX8_way 7 = .ok (.iload_n 2, 1) := by decide +kernel
theorem dX8_way_8 : decode cX8_way 8 = .ok (.invokestatic 77, 3) := by decide +kernel
theorem dX8_way_11 : decode cX8_way 11 = .ok (.ifCond .eq 18, 3) := by decide +kernel
theorem dX8_way_14 : decode cX8_way 14 = .ok (.iload_n 3, 1) := by decide +kernel
theorem dX8_way_15 : decode cX8_way 15 = .ok (.invokestatic 80, 3) := by decide +kernel
theorem dX8_way_18 : decode cX8_way 18 = .ok (.ifCond .eq 11, 3) := by decide +kernel
theorem dX8_way_21 : decode cX8_way 21 = .ok (.iload 4, 2) := by decide +kernel
theorem dX8_way_23 : decode cX8_way 23 = .ok (.invokestatic 80, 3) := by decide +kernel
theorem dX8_way_26 : decode cX8_way 26 = .ok (.ifCond .ne 5, 3) := by decide +kernel
theorem dX8_way_29 : decode cX8_way 29 = .ok (.iconst (-1), 1) := by decide +kernel
theorem dX8_way_30 : decode cX8_way 30 = .ok (.ireturn, 1) := by decide +kernel
theorem dX8_way_31 : decode cX8_way 31 = .ok (.aload_n 0, 1) := by decide +kernel
theorem dX8_way_32 : decode cX8_way 32 = .ok (.getfield 11, 3) := by decide +kernel
theorem dX8_way_35 : decode cX8_way 35 = .ok (.iload_n 1, 1) := by decide +kernel
theorem dX8_way_36 : decode cX8_way 36 = .ok (.aaload, 1) := by decide +kernel
theorem dX8_way_37 : decode cX8_way 37 = .ok (.invokevirtual 83, 3) := by decide +kernel
theorem dX8_way_40 : decode cX8_way 40 = .ok (.invokevirtual 87, 3) := by decide +kernel
theorem dX8_way_43 : decode cX8_way 43 = .ok (.iload_n 2, 1) := by decide +kernel
theorem dX8_way_44 : decode cX8_way 44 = .ok (.iload_n 3, 1) := by decide +kernel
theorem dX8_way_45 : decode cX8_way 45 = .ok (.iload 4, 2) := by decide +kernel
theorem dX8_way_47 : decode cX8_way 47 = .ok (.iload 5, 2) := by decide +kernel
theorem dX8_way_49 : decode cX8_way 49 = .ok (.invokevirtual 111, 3) := by decide +kernel
theorem dX8_way_52 : decode cX8_way 52 = .ok (.ireturn, 1) := by decide +kernel
set_option maxRecDepth 20000 in
theorem ggX8_feed_X7_hasRoom : GoodIn wsX8_feed wsX7_hasRoom := goodIn_r _ [6, 7, 23, 24] (by decide +kernel) (by decide +kernel)
set_option maxRecDepth 20000 in
theorem gX8_feed_X7_hasRoom : GoodIn wsX8_feed (wsV RX8 114 RX7 yX7_hasRoom wsX7_hasRoom) := goodIn_app (goodIn_of _ (by decide +kernel)) ggX8_feed_X7_hasRoom
set_option maxRecDepth 20000 in
theorem ggX8_feed_X7_addWord : GoodIn wsX8_feed wsX7_addWord := goodIn_r _ [11, 7, 12, 23, 24] (by decide +kernel) (by decide +kernel)
set_option maxRecDepth 20000 in
theorem gX8_feed_X7_addWord : GoodIn wsX8_feed (wsV RX8 117 RX7 yX7_addWord wsX7_addWord) := goodIn_app (goodIn_of _ (by decide +kernel)) ggX8_feed_X7_addWord
set_option maxRecDepth 20000 in
theorem ggX8_feed_X7_size : GoodIn wsX8_feed wsX7_size := goodIn_r _ [16, 7, 23, 24] (by decide +kernel) (by decide +kernel)
set_option maxRecDepth 20000 in
theorem gX8_feed_X7_size : GoodIn wsX8_feed (wsV RX8 121 RX7 yX7_size wsX7_size) := goodIn_app (goodIn_of _ (by decide +kernel)) ggX8_feed_X7_size
theorem dX8_feed_0 : decode cX8_feed 0 = .ok (.aload_n 0, 1) := by decide +kernel
theorem dX8_feed_1 : decode cX8_feed 1 = .ok (.getfield 18, 3) := by decide +kernel
theorem dX8_feed_4 : decode cX8_feed 4 = .ok (.bipush 20, 2) := by decide +kernel
theorem dX8_feed_6 : decode cX8_feed 6 = .ok (.invokevirtual 114, 3) := by decide +kernel
theorem dX8_feed_9 : decode cX8_feed 9 = .ok (.ifCond .ne 5, 3) := by decide +kernel
theorem dX8_feed_12 : decode cX8_feed 12 = .ok (.iconst (-1), 1) := by decide +kernel
theorem dX8_feed_13 : decode cX8_feed 13 = .ok (.ireturn, 1) := by decide +kernel
theorem dX8_feed_14 : decode cX8_feed 14 = .ok (.aload_n 0, 1) := by decide +kernel
theorem dX8_feed_15 : decode cX8_feed 15 = .ok (.getfield 18, 3) := by decide +kernel
theorem dX8_feed_18 : decode cX8_feed 18 = .ok (.iload_n 1, 1) := by decide +kernel
theorem dX8_feed_19 : decode cX8_feed 19 = .ok (.invokevirtual 117, 3) := by decide +kernel
theorem dX8_feed_22 : decode cX8_feed 22 = .ok (.aload_n 0, 1) := by decide +kernel
theorem dX8_feed_23 : decode cX8_feed 23 = .ok (.getfield 18, 3) := by decide +kernel
theorem dX8_feed_26 : decode cX8_feed 26 = .ok (.iload_n 2, 1) := by decide +kernel
theorem dX8_feed_27 : decode cX8_feed 27 = .ok (.invokevirtual 117, 3) := by decide +kernel
theorem dX8_feed_30 : decode cX8_feed 30 = .ok (.aload_n 0, 1) := by decide +kernel
theorem dX8_feed_31 : decode cX8_feed 31 = .ok (.getfield 18, 3) := by decide +kernel
theorem dX8_feed_34 : decode cX8_feed 34 = .ok (.iload_n 3, 1) := by decide +kernel
theorem dX8_feed_35 : decode cX8_feed 35 = .ok (.invokevirtual 117, 3) := by decide +kernel
theorem dX8_feed_38 : decode cX8_feed 38 = .ok (.aload_n 0, 1) := by decide +kernel
theorem dX8_feed_39 : decode cX8_feed 39 = .ok (.getfield 18, 3) := by decide +kernel
theorem dX8_feed_42 : decode cX8_feed 42 = .ok (.iload 4, 2) := by decide +kernel
theorem dX8_feed_44 : decode cX8_feed 44 = .ok (.invokevirtual 117, 3) := by decide +kernel
theorem dX8_feed_47 : decode cX8_feed 47 = .ok (.aload_n 0, 1) := by decide +kernel
theorem dX8_feed_48 : decode cX8_feed 48 = .ok (.getfield 18, 3) := by decide +kernel
theorem dX8_feed_51 : decode cX8_feed 51 = .ok (.iload 5, 2) := by decide +kernel
theorem dX8_feed_53 : decode cX8_feed 53 = .ok (.invokevirtual 117, 3) := by decide +kernel
theorem dX8_feed_56 : decode cX8_feed 56 = .ok (.aload_n 0, 1) := by decide +kernel
theorem dX8_feed_57 : decode cX8_feed 57 = .ok (.getfield 18, 3) := by decide +kernel
theorem dX8_feed_60 : decode cX8_feed 60 = .ok (.invokevirtual 121, 3) := by decide +kernel
theorem dX8_feed_63 : decode cX8_feed 63 = .ok (.ireturn, 1) := by decide +kernel
set_option maxRecDepth 20000 in
theorem ggX8_run_X8_isProgram : GoodIn wsX8_run wsX8_isProgram := goodIn_r _ [7] (by decide +kernel) (by decide +kernel)
set_option maxRecDepth 20000 in
theorem gX8_run_X8_isProgram : GoodIn wsX8_run (va_wsS RX8 57 yX8_isProgram wsX8_isProgram) := goodIn_app (goodIn_of _ (by decide +kernel)) ggX8_run_X8_isProgram
set_option maxRecDepth 20000 in
theorem ggX8_run_X7_size : GoodIn wsX8_run wsX7_size := goodIn_r _ [12, 13, 103, 104] (by decide +kernel) (by decide +kernel)
set_option maxRecDepth 20000 in
theorem gX8_run_X7_size : GoodIn wsX8_run (wsV RX8 121 RX7 yX7_size wsX7_size) := goodIn_app (goodIn_of _ (by decide +kernel)) ggX8_run_X7_size
set_option maxRecDepth 20000 in
theorem ggX8_run_X5_instructions : GoodIn wsX8_run wsX5_instructions := goodIn_r _ [18, 19, 105, 106, 107] (by decide +kernel) (by decide +kernel)
set_option maxRecDepth 20000 in
theorem gX8_run_X5_instructions : GoodIn wsX8_run (wsV RX8 125 RX5 yX5_instructions wsX5_instructions) := goodIn_app (goodIn_of _ (by decide +kernel)) ggX8_run_X5_instructions
set_option maxRecDepth 20000 in
theorem ggX8_run_X5_called : GoodIn wsX8_run wsX5_called := goodIn_r _ [23, 24, 105, 106, 107] (by decide +kernel) (by decide +kernel)
set_option maxRecDepth 20000 in
theorem gX8_run_X5_called : GoodIn wsX8_run (wsV RX8 129 RX5 yX5_called wsX5_called) := goodIn_app (goodIn_of _ (by decide +kernel)) ggX8_run_X5_called
set_option maxRecDepth 20000 in
theorem ggX8_run_X3_perform : GoodIn wsX8_run wsX3_perform := goodIn_r _ [29, 30, 31, 32, 33, 34, 35, 36, 37, 38, 39, 40, 41, 42, 28, 43, 44, 45, 46, 47, 48, 49, 50, 51, 52, 53, 54, 55, 56, 57, 58, 59, 60, 61, 62, 63, 64, 65, 66, 67, 68, 69, 70, 71, 72, 73, 74, 75, 76, 77, 78, 79, 80, 81, 82, 83, 84, 85, 86, 87, 88, 89, 90, 11, 91, 13, 92, 108, 109, 110, 111, 112, 113, 114, 115, 116, 117, 118, 119, 103, 104] (by decide +kernel) (by decide +kernel)
set_option maxRecDepth 20000 in
theorem gX8_run_X3_perform : GoodIn wsX8_run (wsV RX8 132 RX3 yX3_perform wsX3_perform) := goodIn_app (goodIn_of _ (by decide +kernel)) ggX8_run_X3_perform
set_option maxRecDepth 20000 in
theorem ggX8_run_X7_empty : GoodIn wsX8_run wsX7_empty := goodIn_r _ [96, 13, 103, 104] (by decide +kernel) (by decide +kernel)
set_option maxRecDepth 20000 in
theorem gX8_run_X7_empty : GoodIn wsX8_run (wsV RX8 136 RX7 yX7_empty wsX7_empty) := goodIn_app (goodIn_of _ (by decide +kernel)) ggX8_run_X7_empty
theorem dX8_run_0 : decode cX8_run 0 = .ok (.iload_n 1, 1) := by decide +kernel
theorem dX8_run_1 : decode cX8_run 1 = .ok (.invokestatic 57, 3) := by decide +kernel
theorem dX8_run_4 : decode cX8_run 4 = .ok (.ifCond .eq 18, 3) := by decide +kernel
theorem dX8_run_7 : decode cX8_run 7 = .ok (.iload_n 2, 1) := by decide +kernel
theorem dX8_run_8 : decode cX8_run 8 = .ok (.ifCond .lt 14, 3) := by decide +kernel
theorem dX8_run_11 : decode cX8_run 11 = .ok (.iload_n 2, 1) := by decide +kernel
theorem dX8_run_12 : decode cX8_run 12 = .ok (.aload_n 0, 1) := by decide +kernel
theorem dX8_run_13 : decode cX8_run 13 = .ok (.getfield 18, 3) := by decide +kernel
theorem dX8_run_16 : decode cX8_run 16 = .ok (.invokevirtual 121, 3) := by decide +kernel
theorem dX8_run_19 : decode cX8_run 19 = .ok (.if_icmp .le 5, 3) := by decide +kernel
theorem dX8_run_22 : decode cX8_run 22 = .ok (.iconst (-1), 1) := by decide +kernel
theorem dX8_run_23 : decode cX8_run 23 = .ok (.ireturn, 1) := by decide +kernel
theorem dX8_run_24 : decode cX8_run 24 = .ok (.aload_n 0, 1) := by decide +kernel
theorem dX8_run_25 : decode cX8_run 25 = .ok (.getfield 25, 3) := by decide +kernel
theorem dX8_run_28 : decode cX8_run 28 = .ok (.aload_n 0, 1) := by decide +kernel
theorem dX8_run_29 : decode cX8_run 29 = .ok (.getfield 11, 3) := by decide +kernel
theorem dX8_run_32 : decode cX8_run 32 = .ok (.iload_n 1, 1) := by decide +kernel
theorem dX8_run_33 : decode cX8_run 33 = .ok (.aaload, 1) := by decide +kernel
theorem dX8_run_34 : decode cX8_run 34 = .ok (.invokevirtual 125, 3) := by decide +kernel
theorem dX8_run_37 : decode cX8_run 37 = .ok (.aload_n 0, 1) := by decide +kernel
theorem dX8_run_38 : decode cX8_run 38 = .ok (.getfield 18, 3) := by decide +kernel
theorem dX8_run_41 : decode cX8_run 41 = .ok (.iload_n 2, 1) := by decide +kernel
theorem dX8_run_42 : decode cX8_run 42 = .ok (.aload_n 0, 1) := by decide +kernel
theorem dX8_run_43 : decode cX8_run 43 = .ok (.getfield 11, 3) := by decide +kernel
theorem dX8_run_46 : decode cX8_run 46 = .ok (.iload_n 1, 1) := by decide +kernel
theorem dX8_run_47 : decode cX8_run 47 = .ok (.aaload, 1) := by decide +kernel
theorem dX8_run_48 : decode cX8_run 48 = .ok (.invokevirtual 129, 3) := by decide +kernel
theorem dX8_run_51 : decode cX8_run 51 = .ok (.invokevirtual 132, 3) := by decide +kernel
theorem dX8_run_54 : decode cX8_run 54 = .ok (.istore_n 3, 1) := by decide +kernel
theorem dX8_run_55 : decode cX8_run 55 = .ok (.aload_n 0, 1) := by decide +kernel
theorem dX8_run_56 : decode cX8_run 56 = .ok (.getfield 18, 3) := by decide +kernel
theorem dX8_run_59 : decode cX8_run 59 = .ok (.invokevirtual 136, 3) := by decide +kernel
theorem dX8_run_62 : decode cX8_run 62 = .ok (.iload_n 3, 1) := by decide +kernel
theorem dX8_run_63 : decode cX8_run 63 = .ok (.ireturn, 1) := by decide +kernel
set_option maxRecDepth 20000 in
theorem ggX8_ended_X3_latestEnd : GoodIn wsX8_ended wsX3_latestEnd := goodIn_r _ [6, 7, 14, 15, 16, 17, 18, 19] (by decide +kernel) (by decide +kernel)
set_option maxRecDepth 20000 in
theorem gX8_ended_X3_latestEnd : GoodIn wsX8_ended (wsV RX8 139 RX3 yX3_latestEnd wsX3_latestEnd) := goodIn_app (goodIn_of _ (by decide +kernel)) ggX8_ended_X3_latestEnd
theorem dX8_ended_0 : decode cX8_ended 0 = .ok (.aload_n 0, 1) := by decide +kernel
theorem dX8_ended_1 : decode cX8_ended 1 = .ok (.getfield 25, 3) := by decide +kernel
theorem dX8_ended_4 : decode cX8_ended 4 = .ok (.invokevirtual 139, 3) := by decide +kernel
theorem dX8_ended_7 : decode cX8_ended 7 = .ok (.ireturn, 1) := by decide +kernel
set_option maxRecDepth 20000 in
theorem ggX8_seen_X8_isProgram : GoodIn wsX8_seen wsX8_isProgram := goodIn_r _ [5] (by decide +kernel) (by decide +kernel)
set_option maxRecDepth 20000 in
theorem gX8_seen_X8_isProgram : GoodIn wsX8_seen (va_wsS RX8 57 yX8_isProgram wsX8_isProgram) := goodIn_app (goodIn_of _ (by decide +kernel)) ggX8_seen_X8_isProgram
set_option maxRecDepth 20000 in
theorem ggX8_seen_X8_isPhase : GoodIn wsX8_seen wsX8_isPhase := goodIn_r _ [8] (by decide +kernel) (by decide +kernel)
set_option maxRecDepth 20000 in
theorem gX8_seen_X8_isPhase : GoodIn wsX8_seen (va_wsS RX8 77 yX8_isPhase wsX8_isPhase) := goodIn_app (goodIn_of _ (by decide +kernel)) ggX8_seen_X8_isPhase
set_option maxRecDepth 20000 in
theorem ggX8_seen_X8_isValue : GoodIn wsX8_seen wsX8_isValue := goodIn_r _ [11] (by decide +kernel) (by decide +kernel)
set_option maxRecDepth 20000 in
theorem gX8_seen_X8_isValue : GoodIn wsX8_seen (va_wsS RX8 80 yX8_isValue wsX8_isValue) := goodIn_app (goodIn_of _ (by decide +kernel)) ggX8_seen_X8_isValue
set_option maxRecDepth 20000 in
theorem ggX8_seen_X5_called : GoodIn wsX8_seen wsX5_called := goodIn_r _ [16, 17, 30, 31, 32] (by decide +kernel) (by decide +kernel)
set_option maxRecDepth 20000 in
theorem gX8_seen_X5_called : GoodIn wsX8_seen (wsV RX8 129 RX5 yX5_called wsX5_called) := goodIn_app (goodIn_of _ (by decide +kernel)) ggX8_seen_X5_called
set_option maxRecDepth 20000 in
theorem ggX8_seen_X0_arguments : GoodIn wsX8_seen wsX0_arguments := goodIn_r _ [22, 23, 33] (by decide +kernel) (by decide +kernel)
set_option maxRecDepth 20000 in
theorem gX8_seen_X0_arguments : GoodIn wsX8_seen (wsV RX8 94 RX0 yX0_arguments wsX0_arguments) := goodIn_app (goodIn_of _ (by decide +kernel)) ggX8_seen_X0_arguments
theorem dX8_seen_0 : decode cX8_seen 0 = .ok (.iload_n 1, 1) := by decide +kernel
theorem dX8_seen_1 : decode cX8_seen 1 = .ok (.invokestatic 57, 3) := by decide +kernel
theorem dX8_seen_4 : decode cX8_seen 4 = .ok (.ifCond .eq 17, 3) := by decide +kernel
theorem dX8_seen_7 : decode cX8_seen 7 = .ok (.iload_n 2, 1) := by decide +kernel
theorem dX8_seen_8 : decode cX8_seen 8 = .ok (.invokestatic 77, 3) := by decide +kernel
theorem dX8_seen_11 : decode cX8_seen 11 = .ok (.ifCond .eq 10, 3) := by decide +kernel
theorem dX8_seen_14 : decode cX8_seen 14 = .ok (.iload_n 3, 1) := by decide +kernel
theorem dX8_seen_15 : decode cX8_seen 15 = .ok (.invokestatic 80, 3) := by decide +kernel
theorem dX8_seen_18 : decode cX8_seen 18 = .ok (.ifCond .ne 5, 3) := by decide +kernel
theorem dX8_seen_21 : decode cX8_seen 21 = .ok (.iconst 0, 1) := by decide +kernel
theorem dX8_seen_22 : decode cX8_seen 22 = .ok (.ireturn, 1) := by decide +kernel
theorem dX8_seen_23 : decode cX8_seen 23 = .ok (.aload_n 0, 1) := by decide +kernel
theorem dX8_seen_24 : decode cX8_seen 24 = .ok (.getfield 11, 3) := by decide +kernel
theorem dX8_seen_27 : decode cX8_seen 27 = .ok (.iload_n 1, 1) := by decide +kernel
theorem dX8_seen_28 : decode cX8_seen 28 = .ok (.aaload, 1) := by decide +kernel
theorem dX8_seen_29 : decode cX8_seen 29 = .ok (.invokevirtual 129, 3) := by decide +kernel
theorem dX8_seen_32 : decode cX8_seen 32 = .ok (.iload_n 2, 1) := by decide +kernel
theorem dX8_seen_33 : decode cX8_seen 33 = .ok (.iload_n 3, 1) := by decide +kernel
theorem dX8_seen_34 : decode cX8_seen 34 = .ok (.invokevirtual 94, 3) := by decide +kernel
theorem dX8_seen_37 : decode cX8_seen 37 = .ok (.ireturn, 1) := by decide +kernel
set_option maxRecDepth 20000 in
theorem ggX8_melted_X8_isSet : GoodIn wsX8_melted wsX8_isSet := goodIn_r _ [5] (by decide +kernel) (by decide +kernel)
set_option maxRecDepth 20000 in
theorem gX8_melted_X8_isSet : GoodIn wsX8_melted (va_wsS RX8 142 yX8_isSet wsX8_isSet) := goodIn_app (goodIn_of _ (by decide +kernel)) ggX8_melted_X8_isSet
set_option maxRecDepth 20000 in
theorem ggX8_melted_X8_isPhase : GoodIn wsX8_melted wsX8_isPhase := goodIn_r _ [8] (by decide +kernel) (by decide +kernel)
set_option maxRecDepth 20000 in
theorem gX8_melted_X8_isPhase : GoodIn wsX8_melted (va_wsS RX8 77 yX8_isPhase wsX8_isPhase) := goodIn_app (goodIn_of _ (by decide +kernel)) ggX8_melted_X8_isPhase
set_option maxRecDepth 20000 in
theorem ggX8_melted_X8_isValue : GoodIn wsX8_melted wsX8_isValue := goodIn_r _ [11] (by decide +kernel) (by decide +kernel)
set_option maxRecDepth 20000 in
theorem gX8_melted_X8_isValue : GoodIn wsX8_melted (va_wsS RX8 80 yX8_isValue wsX8_isValue) := goodIn_app (goodIn_of _ (by decide +kernel)) ggX8_melted_X8_isValue
set_option maxRecDepth 20000 in
theorem ggX8_melted_X8_holds : GoodIn wsX8_melted wsX8_holds := goodIn_r _ [14] (by decide +kernel) (by decide +kernel)
set_option maxRecDepth 20000 in
theorem gX8_melted_X8_holds : GoodIn wsX8_melted (va_wsS RX8 145 yX8_holds wsX8_holds) := goodIn_app (goodIn_of _ (by decide +kernel)) ggX8_melted_X8_holds
set_option maxRecDepth 20000 in
theorem ggX8_melted_X5_paths : GoodIn wsX8_melted wsX5_paths := goodIn_r _ [19, 20, 170, 171, 172] (by decide +kernel) (by decide +kernel)
set_option maxRecDepth 20000 in
theorem gX8_melted_X5_paths : GoodIn wsX8_melted (wsV RX8 83 RX5 yX5_paths wsX5_paths) := goodIn_app (goodIn_of _ (by decide +kernel)) ggX8_melted_X5_paths
set_option maxRecDepth 20000 in
theorem ggX8_melted_X4_searched : GoodIn wsX8_melted wsX4_searched := goodIn_r _ [25, 26, 27, 28, 29, 30, 31, 32, 33, 34, 35, 36, 37, 38, 39, 40, 41, 42, 43, 44, 45, 46, 47, 48, 49, 50, 51, 52, 53, 24, 54, 55, 56, 57, 58, 59, 60, 61, 62, 63, 64, 65, 66, 67, 68, 69, 70, 71, 72, 73, 74, 75, 13, 4, 14, 76, 77, 78, 79, 80, 81, 82, 83, 84, 85, 86, 87, 88, 89, 90, 91, 92, 93, 94, 95, 96, 97, 98, 99, 100, 101, 102, 103, 104, 105, 106, 107, 108, 109, 110, 111, 112, 113, 114, 115, 116, 117, 118, 119, 120, 121, 122, 123, 124, 125, 126, 127, 128, 129, 130, 131, 132, 133, 134, 135, 136, 137, 138, 139, 140, 141, 142, 143, 144, 145, 146, 147, 148, 149, 150, 151, 152, 153, 154, 155, 156, 157, 158, 173, 174, 175, 176, 177, 178, 179, 180, 181, 182, 183, 184, 185, 186, 187, 188, 189, 190, 191, 192, 193, 194, 195] (by decide +kernel) (by decide +kernel)
set_option maxRecDepth 20000 in
theorem gX8_melted_X4_searched : GoodIn wsX8_melted (wsV RX8 87 RX4 yX4_searched wsX4_searched) := goodIn_app (goodIn_of _ (by decide +kernel)) ggX8_melted_X4_searched
set_option maxRecDepth 20000 in
theorem ggX8_melted_X4_calls : GoodIn wsX8_melted wsX4_calls := goodIn_r _ [162, 28, 173, 174, 175, 176, 177, 178, 179, 180, 181, 182, 183, 184, 185, 186] (by decide +kernel) (by decide +kernel)
set_option maxRecDepth 20000 in
theorem gX8_melted_X4_calls : GoodIn wsX8_melted (wsV RX8 90 RX4 yX4_calls wsX4_calls) := goodIn_app (goodIn_of _ (by decide +kernel)) ggX8_melted_X4_calls
set_option maxRecDepth 20000 in
theorem ggX8_melted_X0_arguments : GoodIn wsX8_melted wsX0_arguments := goodIn_r _ [136, 49, 190] (by decide +kernel) (by decide +kernel)
set_option maxRecDepth 20000 in
theorem gX8_melted_X0_arguments : GoodIn wsX8_melted (wsV RX8 94 RX0 yX0_arguments wsX0_arguments) := goodIn_app (goodIn_of _ (by decide +kernel)) ggX8_melted_X0_arguments
theorem dX8_melted_0 : decode cX8_melted 0 = .ok (.iload_n 1, 1) := by decide +kernel
theorem dX8_melted_1 : decode cX8_melted 1 = .ok (.invokestatic 142, 3) := by decide +kernel
theorem dX8_melted_4 : decode cX8_melted 4 = .ok (.ifCond .eq 17, 3) := by decide +kernel
theorem dX8_melted_7 : decode cX8_melted 7 = .ok (.iload_n 2, 1) := by decide +kernel
theorem dX8_melted_8 : decode cX8_melted 8 = .ok (.invokestatic 77, 3) := by decide +kernel
theorem dX8_melted_11 : decode cX8_melted 11 = .ok (.ifCond .eq 10, 3) := by decide +kernel
theorem dX8_melted_14 : decode cX8_melted 14 = .ok (.iload_n 3, 1) := by decide +kernel
theorem dX8_melted_15 : decode cX8_melted 15 = .ok (.invokestatic 80, 3) := by decide +kernel
theorem dX8_melted_18 : decode cX8_melted 18 = .ok (.ifCond .ne 5, 3) := by decide +kernel
theorem dX8_melted_21 : decode cX8_melted 21 = .ok (.iconst 0, 1) := by decide +kernel
theorem dX8_melted_22 : decode cX8_melted 22 = .ok (.ireturn, 1) := by decide +kernel
theorem dX8_melted_23 : decode cX8_melted 23 = .ok (.iconst 0, 1) := by decide +kernel
theorem dX8_melted_24 : decode cX8_melted 24 = .ok (.istore 4, 2) := by decide +kernel
theorem dX8_melted_26 : decode cX8_melted 26 = .ok (.iconst 0, 1) := by decide +kernel
theorem dX8_melted_27 : decode cX8_melted 27 = .ok (.istore 5, 2) := by decide +kernel
theorem dX8_melted_29 : decode cX8_melted 29 = .ok (.iload 5, 2) := by decide +kernel
theorem dX8_melted_31 : decode cX8_melted 31 = .ok (.iconst 4, 1) := by decide +kernel
theorem dX8_melted_32 : decode cX8_melted 32 = .ok (.if_icmp .ge 44, 3) := by decide +kernel
theorem dX8_melted_35 : decode cX8_melted 35 = .ok (.iload_n 1, 1) := by decide +kernel
theorem dX8_melted_36 : decode cX8_melted 36 = .ok (.iload 5, 2) := by decide +kernel
theorem dX8_melted_38 : decode cX8_melted 38 = .ok (.invokestatic 145, 3) := by decide +kernel
theorem dX8_melted_41 : decode cX8_melted 41 = .ok (.ifCond .eq 29, 3) := by decide +kernel
theorem dX8_melted_44 : decode cX8_melted 44 = .ok (.iload 4, 2) := by decide +kernel
theorem dX8_melted_46 : decode cX8_melted 46 = .ok (.aload_n 0, 1) := by decide +kernel
theorem dX8_melted_47 : decode cX8_melted 47 = .ok (.getfield 11, 3) := by decide +kernel
theorem dX8_melted_50 : decode cX8_melted 50 = .ok (.iload 5, 2) := by decide +kernel
theorem dX8_melted_52 : decode cX8_melted 52 = .ok (.aaload, 1) := by decide +kernel
theorem dX8_melted_53 : decode cX8_melted 53 = .ok (.invokevirtual 83, 3) := by decide +kernel
theorem dX8_melted_56 : decode cX8_melted 56 = .ok (.invokevirtual 87, 3) := by decide +kernel
theorem dX8_melted_59 : decode cX8_melted 59 = .ok (.invokevirtual 90, 3) := by decide +kernel
theorem dX8_melted_62 : decode cX8_melted 62 = .ok (.iload_n 2, 1) := by decide +kernel
theorem dX8_melted_63 : decode cX8_melted 63 = .ok (.iload_n 3, 1) := by decide +kernel
theorem dX8_melted_64 : decode cX8_melted 64 = .ok (.invokevirtual 94, 3) := by decide +kernel
theorem dX8_melted_67 : decode cX8_melted 67 = .ok (.ior, 1) := by decide +kernel
theorem dX8_melted_68 : decode cX8_melted 68 = .ok (.istore 4, 2) := by decide +kernel
theorem dX8_melted_70 : decode cX8_melted 70 = .ok (.iinc 5 1, 3) := by decide +kernel
theorem dX8_melted_73 : decode cX8_melted 73 = .ok (.goto (-44), 3) := by decide +kernel
theorem dX8_melted_76 : decode cX8_melted 76 = .ok (.iload 4, 2) := by decide +kernel
theorem dX8_melted_78 : decode cX8_melted 78 = .ok (.ireturn, 1) := by decide +kernel
set_option maxRecDepth 20000 in
theorem ggX8_fresh_X8_isProgram : GoodIn wsX8_fresh wsX8_isProgram := goodIn_r _ [5] (by decide +kernel) (by decide +kernel)
set_option maxRecDepth 20000 in
theorem gX8_fresh_X8_isProgram : GoodIn wsX8_fresh (va_wsS RX8 57 yX8_isProgram wsX8_isProgram) := goodIn_app (goodIn_of _ (by decide +kernel)) ggX8_fresh_X8_isProgram
set_option maxRecDepth 20000 in
theorem ggX8_fresh_X8_isPhase : GoodIn wsX8_fresh wsX8_isPhase := goodIn_r _ [8] (by decide +kernel) (by decide +kernel)
set_option maxRecDepth 20000 in
theorem gX8_fresh_X8_isPhase : GoodIn wsX8_fresh (va_wsS RX8 77 yX8_isPhase wsX8_isPhase) := goodIn_app (goodIn_of _ (by decide +kernel)) ggX8_fresh_X8_isPhase
set_option maxRecDepth 20000 in
theorem ggX8_fresh_X8_isValue : GoodIn wsX8_fresh wsX8_isValue := goodIn_r _ [11] (by decide +kernel) (by decide +kernel)
set_option maxRecDepth 20000 in
theorem gX8_fresh_X8_isValue : GoodIn wsX8_fresh (va_wsS RX8 80 yX8_isValue wsX8_isValue) := goodIn_app (goodIn_of _ (by decide +kernel)) ggX8_fresh_X8_isValue
set_option maxRecDepth 20000 in
theorem ggX8_fresh_X5_paths : GoodIn wsX8_fresh wsX5_paths := goodIn_r _ [16, 17, 169, 170, 171] (by decide +kernel) (by decide +kernel)
set_option maxRecDepth 20000 in
theorem gX8_fresh_X5_paths : GoodIn wsX8_fresh (wsV RX8 83 RX5 yX5_paths wsX5_paths) := goodIn_app (goodIn_of _ (by decide +kernel)) ggX8_fresh_X5_paths
set_option maxRecDepth 20000 in
theorem ggX8_fresh_X4_searched : GoodIn wsX8_fresh wsX4_searched := goodIn_r _ [22, 23, 24, 25, 26, 27, 28, 29, 30, 31, 32, 33, 34, 35, 36, 37, 38, 39, 40, 41, 42, 43, 44, 45, 46, 47, 48, 49, 50, 21, 51, 52, 53, 54, 55, 56, 57, 58, 59, 60, 61, 62, 63, 64, 65, 66, 67, 68, 69, 70, 71, 72, 73, 4, 74, 75, 76, 77, 78, 79, 80, 81, 82, 83, 84, 85, 86, 87, 88, 89, 90, 91, 92, 93, 94, 95, 96, 97, 98, 99, 100, 101, 102, 103, 104, 105, 106, 107, 108, 109, 110, 111, 112, 113, 114, 115, 116, 117, 118, 119, 120, 121, 122, 123, 124, 125, 126, 127, 128, 129, 130, 131, 132, 133, 134, 135, 136, 137, 138, 139, 140, 141, 142, 143, 144, 145, 146, 147, 148, 149, 150, 151, 152, 153, 154, 155, 156, 157, 172, 173, 174, 175, 176, 177, 178, 179, 180, 181, 182, 183, 184, 185, 186, 187, 188, 189, 190, 191, 192, 193, 194] (by decide +kernel) (by decide +kernel)
set_option maxRecDepth 20000 in
theorem gX8_fresh_X4_searched : GoodIn wsX8_fresh (wsV RX8 87 RX4 yX4_searched wsX4_searched) := goodIn_app (goodIn_of _ (by decide +kernel)) ggX8_fresh_X4_searched
set_option maxRecDepth 20000 in
theorem ggX8_fresh_X4_calls : GoodIn wsX8_fresh wsX4_calls := goodIn_r _ [161, 25, 172, 173, 174, 175, 176, 177, 178, 179, 180, 181, 182, 183, 184, 185] (by decide +kernel) (by decide +kernel)
set_option maxRecDepth 20000 in
theorem gX8_fresh_X4_calls : GoodIn wsX8_fresh (wsV RX8 90 RX4 yX4_calls wsX4_calls) := goodIn_app (goodIn_of _ (by decide +kernel)) ggX8_fresh_X4_calls
set_option maxRecDepth 20000 in
theorem ggX8_fresh_X0_arguments : GoodIn wsX8_fresh wsX0_arguments := goodIn_r _ [135, 46, 189] (by decide +kernel) (by decide +kernel)
set_option maxRecDepth 20000 in
theorem gX8_fresh_X0_arguments : GoodIn wsX8_fresh (wsV RX8 94 RX0 yX0_arguments wsX0_arguments) := goodIn_app (goodIn_of _ (by decide +kernel)) ggX8_fresh_X0_arguments
theorem dX8_fresh_0 : decode cX8_fresh 0 = .ok (.iload_n 1, 1) := by decide +kernel
theorem dX8_fresh_1 : decode cX8_fresh 1 = .ok (.invokestatic 57, 3) := by decide +kernel
theorem dX8_fresh_4 : decode cX8_fresh 4 = .ok (.ifCond .eq 25, 3) := by decide +kernel
theorem dX8_fresh_7 : decode cX8_fresh 7 = .ok (.iload_n 2, 1) := by decide +kernel
theorem dX8_fresh_8 : decode cX8_fresh 8 = .ok (.invokestatic 57, 3) := by decide +kernel
theorem dX8_fresh_11 : decode cX8_fresh 11 = .ok (.ifCond .eq 18, 3) := by decide +kernel
theorem dX8_fresh_14 : decode cX8_fresh 14 = .ok (.iload_n 3, 1) := by decide +kernel
theorem dX8_fresh_15 : decode cX8_fresh 15 = .ok (.invokestatic 77, 3) := by decide +kernel
theorem dX8_fresh_18 : decode cX8_fresh 18 = .ok (.ifCond .eq 11, 3) := by decide +kernel
theorem dX8_fresh_21 : decode cX8_fresh 21 = .ok (.iload 4, 2) := by decide +kernel
theorem dX8_fresh_23 : decode cX8_fresh 23 = .ok (.invokestatic 80, 3) := by decide +kernel
theorem dX8_fresh_26 : decode cX8_fresh 26 = .ok (.ifCond .ne 5, 3) := by decide +kernel
theorem dX8_fresh_29 : decode cX8_fresh 29 = .ok (.iconst 0, 1) := by decide +kernel
theorem dX8_fresh_30 : decode cX8_fresh 30 = .ok (.ireturn, 1) := by decide +kernel
theorem dX8_fresh_31 : decode cX8_fresh 31 = .ok (.aload_n 0, 1) := by decide +kernel
theorem dX8_fresh_32 : decode cX8_fresh 32 = .ok (.getfield 11, 3) := by decide +kernel
theorem dX8_fresh_35 : decode cX8_fresh 35 = .ok (.iload_n 2, 1) := by decide +kernel
theorem dX8_fresh_36 : decode cX8_fresh 36 = .ok (.aaload, 1) := by decide +kernel
theorem dX8_fresh_37 : decode cX8_fresh 37 = .ok (.invokevirtual 83, 3) := by decide +kernel
theorem dX8_fresh_40 : decode cX8_fresh 40 = .ok (.invokevirtual 87, 3) := by decide +kernel
theorem dX8_fresh_43 : decode cX8_fresh 43 = .ok (.invokevirtual 90, 3) := by decide +kernel
theorem dX8_fresh_46 : decode cX8_fresh 46 = .ok (.iload_n 3, 1) := by decide +kernel
theorem dX8_fresh_47 : decode cX8_fresh 47 = .ok (.iload 4, 2) := by decide +kernel
theorem dX8_fresh_49 : decode cX8_fresh 49 = .ok (.invokevirtual 94, 3) := by decide +kernel
theorem dX8_fresh_52 : decode cX8_fresh 52 = .ok (.istore 5, 2) := by decide +kernel
theorem dX8_fresh_54 : decode cX8_fresh 54 = .ok (.aload_n 0, 1) := by decide +kernel
theorem dX8_fresh_55 : decode cX8_fresh 55 = .ok (.getfield 11, 3) := by decide +kernel
theorem dX8_fresh_58 : decode cX8_fresh 58 = .ok (.iload_n 1, 1) := by decide +kernel
theorem dX8_fresh_59 : decode cX8_fresh 59 = .ok (.aaload, 1) := by decide +kernel
theorem dX8_fresh_60 : decode cX8_fresh 60 = .ok (.invokevirtual 83, 3) := by decide +kernel
theorem dX8_fresh_63 : decode cX8_fresh 63 = .ok (.invokevirtual 87, 3) := by decide +kernel
theorem dX8_fresh_66 : decode cX8_fresh 66 = .ok (.invokevirtual 90, 3) := by decide +kernel
theorem dX8_fresh_69 : decode cX8_fresh 69 = .ok (.iload_n 3, 1) := by decide +kernel
theorem dX8_fresh_70 : decode cX8_fresh 70 = .ok (.iload 4, 2) := by decide +kernel
theorem dX8_fresh_72 : decode cX8_fresh 72 = .ok (.invokevirtual 94, 3) := by decide +kernel
theorem dX8_fresh_75 : decode cX8_fresh 75 = .ok (.iload 5, 2) := by decide +kernel
theorem dX8_fresh_77 : decode cX8_fresh 77 = .ok (.iconst (-1), 1) := by decide +kernel
theorem dX8_fresh_78 : decode cX8_fresh 78 = .ok (.ixor, 1) := by decide +kernel
theorem dX8_fresh_79 : decode cX8_fresh 79 = .ok (.iand, 1) := by decide +kernel
theorem dX8_fresh_80 : decode cX8_fresh 80 = .ok (.ireturn, 1) := by decide +kernel
set_option maxRecDepth 20000 in
theorem ggX8_effect_X8_isValue : GoodIn wsX8_effect wsX8_isValue := goodIn_r _ [5] (by decide +kernel) (by decide +kernel)
set_option maxRecDepth 20000 in
theorem gX8_effect_X8_isValue : GoodIn wsX8_effect (va_wsS RX8 80 yX8_isValue wsX8_isValue) := goodIn_app (goodIn_of _ (by decide +kernel)) ggX8_effect_X8_isValue
set_option maxRecDepth 20000 in
theorem ggX8_effect_X8_isPowers : GoodIn wsX8_effect wsX8_isPowers := goodIn_r _ [8] (by decide +kernel) (by decide +kernel)
set_option maxRecDepth 20000 in
theorem gX8_effect_X8_isPowers : GoodIn wsX8_effect (va_wsS RX8 149 yX8_isPowers wsX8_isPowers) := goodIn_app (goodIn_of _ (by decide +kernel)) ggX8_effect_X8_isPowers
set_option maxRecDepth 20000 in
theorem ggX8_effect_X8_side : GoodIn wsX8_effect wsX8_side := goodIn_r _ [11] (by decide +kernel) (by decide +kernel)
set_option maxRecDepth 20000 in
theorem gX8_effect_X8_side : GoodIn wsX8_effect (va_wsS RX8 152 yX8_side wsX8_side) := goodIn_app (goodIn_of _ (by decide +kernel)) ggX8_effect_X8_side
set_option maxRecDepth 20000 in
theorem ggX8_effect_X2_append : GoodIn wsX8_effect wsX2_append := goodIn_r _ [16, 17, 18, 19, 20, 21, 28, 29, 30, 31, 32, 33] (by decide +kernel) (by decide +kernel)
set_option maxRecDepth 20000 in
theorem gX8_effect_X2_append : GoodIn wsX8_effect (wsV RX8 155 RX2 yX2_append wsX2_append) := goodIn_app (goodIn_of _ (by decide +kernel)) ggX8_effect_X2_append
theorem dX8_effect_0 : decode cX8_effect 0 = .ok (.iload_n 1, 1) := by decide +kernel
theorem dX8_effect_1 : decode cX8_effect 1 = .ok (.invokestatic 80, 3) := by decide +kernel
theorem dX8_effect_4 : decode cX8_effect 4 = .ok (.ifCond .eq 22, 3) := by decide +kernel
theorem dX8_effect_7 : decode cX8_effect 7 = .ok (.iload_n 2, 1) := by decide +kernel
theorem dX8_effect_8 : decode cX8_effect 8 = .ok (.invokestatic 80, 3) := by decide +kernel
theorem dX8_effect_11 : decode cX8_effect 11 = .ok (.ifCond .eq 15, 3) := by decide +kernel
theorem dX8_effect_14 : decode cX8_effect 14 = .ok (.iload_n 3, 1) := by decide +kernel
theorem dX8_effect_15 : decode cX8_effect 15 = .ok (.invokestatic 80, 3) := by decide +kernel
theorem dX8_effect_18 : decode cX8_effect 18 = .ok (.ifCond .eq 8, 3) := by decide +kernel
theorem dX8_effect_21 : decode cX8_effect 21 = .ok (.iload_n 3, 1) := by decide +kernel
theorem dX8_effect_22 : decode cX8_effect 22 = .ok (.iload_n 2, 1) := by decide +kernel
theorem dX8_effect_23 : decode cX8_effect 23 = .ok (.if_icmp .ge 5, 3) := by decide +kernel
theorem dX8_effect_26 : decode cX8_effect 26 = .ok (.iconst (-1), 1) := by decide +kernel
theorem dX8_effect_27 : decode cX8_effect 27 = .ok (.ireturn, 1) := by decide +kernel
theorem dX8_effect_28 : decode cX8_effect 28 = .ok (.iload 4, 2) := by decide +kernel
theorem dX8_effect_30 : decode cX8_effect 30 = .ok (.invokestatic 149, 3) := by decide +kernel
theorem dX8_effect_33 : decode cX8_effect 33 = .ok (.ifCond .eq 11, 3) := by decide +kernel
theorem dX8_effect_36 : decode cX8_effect 36 = .ok (.iload 5, 2) := by decide +kernel
theorem dX8_effect_38 : decode cX8_effect 38 = .ok (.invokestatic 149, 3) := by decide +kernel
theorem dX8_effect_41 : decode cX8_effect 41 = .ok (.ifCond .ne 5, 3) := by decide +kernel
theorem dX8_effect_44 : decode cX8_effect 44 = .ok (.iconst (-1), 1) := by decide +kernel
theorem dX8_effect_45 : decode cX8_effect 45 = .ok (.ireturn, 1) := by decide +kernel
theorem dX8_effect_46 : decode cX8_effect 46 = .ok (.aload_n 0, 1) := by decide +kernel
theorem dX8_effect_47 : decode cX8_effect 47 = .ok (.getfield 32, 3) := by decide +kernel
theorem dX8_effect_50 : decode cX8_effect 50 = .ok (.iload_n 1, 1) := by decide +kernel
theorem dX8_effect_51 : decode cX8_effect 51 = .ok (.iload_n 2, 1) := by decide +kernel
theorem dX8_effect_52 : decode cX8_effect 52 = .ok (.iload_n 3, 1) := by decide +kernel
theorem dX8_effect_53 : decode cX8_effect 53 = .ok (.invokestatic 152, 3) := by decide +kernel
theorem dX8_effect_56 : decode cX8_effect 56 = .ok (.iload 4, 2) := by decide +kernel
theorem dX8_effect_58 : decode cX8_effect 58 = .ok (.iload 5, 2) := by decide +kernel
theorem dX8_effect_60 : decode cX8_effect 60 = .ok (.invokevirtual 155, 3) := by decide +kernel
theorem dX8_effect_63 : decode cX8_effect 63 = .ok (.ireturn, 1) := by decide +kernel
set_option maxRecDepth 20000 in
theorem ggX8_reach_X8_isSet : GoodIn wsX8_reach wsX8_isSet := goodIn_r _ [7] (by decide +kernel) (by decide +kernel)
set_option maxRecDepth 20000 in
theorem gX8_reach_X8_isSet : GoodIn wsX8_reach (va_wsS RX8 142 yX8_isSet wsX8_isSet) := goodIn_app (goodIn_of _ (by decide +kernel)) ggX8_reach_X8_isSet
set_option maxRecDepth 20000 in
theorem ggX8_reach_X8_gather : GoodIn wsX8_reach wsX8_gather := goodIn_r _ [11, 3, 2, 12, 13, 14, 15, 16, 17, 18, 6, 19, 20, 21, 22, 23, 24, 25, 26, 27, 28, 29, 30, 31, 32, 33, 34, 35, 36, 37, 38, 39, 40, 41, 42, 43, 44, 45, 46, 47, 48, 49, 50, 51, 52, 53, 54, 55, 56, 57, 58, 59, 60, 61, 62, 63, 64, 65, 66, 67, 68, 69, 70, 71, 72, 73, 74, 75, 76, 77, 78, 79, 80, 81, 82, 83, 84, 85, 86, 87, 88, 89, 90, 91, 92, 93, 94, 95, 96, 97, 98, 99, 100, 101, 102, 103, 104, 105, 106, 107, 108, 109, 110, 111, 112, 113, 114, 115, 116, 117, 118, 119, 120, 121, 122, 123, 124, 125, 126, 127, 128, 129, 130, 131, 132, 133, 134, 135, 136, 137, 138, 139, 140, 141, 142, 143, 144, 145, 146, 147, 148, 149, 150, 151, 152, 153, 154, 155, 156, 157, 158, 159, 160, 161, 162, 163, 164, 165, 166, 167, 168, 169, 170, 171, 172, 173, 174, 189, 190, 191, 192, 193, 194, 195, 196, 197, 198, 199, 200, 201, 202, 203, 204, 205, 206, 207, 208, 209, 210, 211, 212, 213, 214, 215, 216, 217, 218, 219, 220] (by decide +kernel) (by decide +kernel)
set_option maxRecDepth 20000 in
theorem gX8_reach_X8_gather : GoodIn wsX8_reach (wsV RX8 156 RX8 yX8_gather wsX8_gather) := goodIn_app (goodIn_of _ (by decide +kernel)) ggX8_reach_X8_gather
set_option maxRecDepth 20000 in
theorem ggX8_reach_X2_powersBy : GoodIn wsX8_reach wsX2_powersBy := goodIn_r _ [179, 180, 181, 182, 183, 184, 185, 178, 186, 187, 188, 221, 222, 223, 224, 225, 226] (by decide +kernel) (by decide +kernel)
set_option maxRecDepth 20000 in
theorem gX8_reach_X2_powersBy : GoodIn wsX8_reach (wsV RX8 159 RX2 yX2_powersBy wsX2_powersBy) := goodIn_app (goodIn_of _ (by decide +kernel)) ggX8_reach_X2_powersBy
theorem dX8_reach_0 : decode cX8_reach 0 = .ok (.iload_n 1, 1) := by decide +kernel
theorem dX8_reach_1 : decode cX8_reach 1 = .ok (.invokestatic 142, 3) := by decide +kernel
theorem dX8_reach_4 : decode cX8_reach 4 = .ok (.ifCond .ne 5, 3) := by decide +kernel
theorem dX8_reach_7 : decode cX8_reach 7 = .ok (.iconst (-1), 1) := by decide +kernel
theorem dX8_reach_8 : decode cX8_reach 8 = .ok (.ireturn, 1) := by decide +kernel
theorem dX8_reach_9 : decode cX8_reach 9 = .ok (.aload_n 0, 1) := by decide +kernel
theorem dX8_reach_10 : decode cX8_reach 10 = .ok (.iload_n 1, 1) := by decide +kernel
theorem dX8_reach_11 : decode cX8_reach 11 = .ok (.invokevirtual 156, 3) := by decide +kernel
theorem dX8_reach_14 : decode cX8_reach 14 = .ok (.aload_n 0, 1) := by decide +kernel
theorem dX8_reach_15 : decode cX8_reach 15 = .ok (.getfield 32, 3) := by decide +kernel
theorem dX8_reach_18 : decode cX8_reach 18 = .ok (.iload_n 2, 1) := by decide +kernel
theorem dX8_reach_19 : decode cX8_reach 19 = .ok (.ifCond .eq 10, 3) := by decide +kernel
theorem dX8_reach_22 : decode cX8_reach 22 = .ok (.aload_n 0, 1) := by decide +kernel
theorem dX8_reach_23 : decode cX8_reach 23 = .ok (.getfield 40, 3) := by decide +kernel
theorem dX8_reach_26 : decode cX8_reach 26 = .ok (.goto 7, 3) := by decide +kernel
theorem dX8_reach_29 : decode cX8_reach 29 = .ok (.aload_n 0, 1) := by decide +kernel
theorem dX8_reach_30 : decode cX8_reach 30 = .ok (.getfield 36, 3) := by decide +kernel
theorem dX8_reach_33 : decode cX8_reach 33 = .ok (.invokevirtual 159, 3) := by decide +kernel
theorem dX8_reach_36 : decode cX8_reach 36 = .ok (.ireturn, 1) := by decide +kernel
set_option maxRecDepth 20000 in
theorem ggX8_shut_X8_isSet : GoodIn wsX8_shut wsX8_isSet := goodIn_r _ [7] (by decide +kernel) (by decide +kernel)
set_option maxRecDepth 20000 in
theorem gX8_shut_X8_isSet : GoodIn wsX8_shut (va_wsS RX8 142 yX8_isSet wsX8_isSet) := goodIn_app (goodIn_of _ (by decide +kernel)) ggX8_shut_X8_isSet
set_option maxRecDepth 20000 in
theorem ggX8_shut_X8_isPower : GoodIn wsX8_shut wsX8_isPower := goodIn_r _ [10] (by decide +kernel) (by decide +kernel)
set_option maxRecDepth 20000 in
theorem gX8_shut_X8_isPower : GoodIn wsX8_shut (va_wsS RX8 163 yX8_isPower wsX8_isPower) := goodIn_app (goodIn_of _ (by decide +kernel)) ggX8_shut_X8_isPower
set_option maxRecDepth 20000 in
theorem ggX8_shut_X8_gather : GoodIn wsX8_shut wsX8_gather := goodIn_r _ [14, 2, 3, 15, 16, 17, 18, 19, 20, 21, 6, 22, 23, 24, 25, 26, 27, 28, 29, 30, 31, 32, 33, 34, 35, 36, 37, 38, 39, 40, 41, 42, 43, 44, 45, 46, 47, 48, 49, 50, 51, 52, 53, 54, 55, 56, 57, 58, 59, 60, 61, 62, 63, 64, 65, 66, 67, 68, 69, 70, 71, 72, 73, 74, 75, 76, 77, 78, 79, 80, 81, 82, 83, 84, 85, 86, 87, 88, 89, 90, 91, 92, 93, 94, 95, 96, 97, 98, 99, 100, 101, 102, 103, 104, 105, 106, 107, 108, 109, 110, 111, 112, 113, 114, 115, 116, 117, 118, 119, 120, 121, 122, 123, 124, 125, 126, 127, 128, 129, 130, 131, 132, 133, 134, 135, 136, 137, 138, 139, 140, 141, 142, 143, 144, 145, 146, 147, 148, 149, 150, 151, 152, 153, 154, 155, 156, 157, 158, 159, 160, 161, 162, 163, 164, 165, 166, 167, 168, 169, 170, 171, 172, 173, 174, 175, 176, 177, 217, 218, 219, 220, 221, 222, 223, 224, 225, 226, 227, 228, 229, 230, 231, 232, 233, 234, 235, 236, 237, 238, 239, 240, 241, 242, 243, 244, 245, 246, 247, 248] (by decide +kernel) (by decide +kernel)
set_option maxRecDepth 20000 in
theorem gX8_shut_X8_gather : GoodIn wsX8_shut (wsV RX8 156 RX8 yX8_gather wsX8_gather) := goodIn_app (goodIn_of _ (by decide +kernel)) ggX8_shut_X8_gather
set_option maxRecDepth 20000 in
theorem ggX8_shut_X2_leastCut : GoodIn wsX8_shut wsX2_leastCut := goodIn_r _ [182, 183, 184, 185, 186, 181, 187, 188, 189, 190, 191, 192, 193, 194, 195, 196, 197, 198, 199, 200, 201, 202, 21, 6, 22, 203, 204, 205, 206, 207, 208, 209, 210, 211, 212, 213, 214, 215, 249, 250, 251, 252, 253, 254] (by decide +kernel) (by decide +kernel)
set_option maxRecDepth 20000 in
theorem gX8_shut_X2_leastCut : GoodIn wsX8_shut (wsV RX8 166 RX2 yX2_leastCut wsX2_leastCut) := goodIn_app (goodIn_of _ (by decide +kernel)) ggX8_shut_X2_leastCut
set_option maxRecDepth 20000 in
theorem ggX8_shut_X2_takeOut : GoodIn wsX8_shut wsX2_takeOut := goodIn_r _ [198, 183, 199, 200, 201, 202, 188, 189, 21, 6, 22, 190, 191, 192, 181, 193, 194, 203, 204, 205, 206, 207, 208, 209, 249, 250, 251, 252, 253, 254] (by decide +kernel) (by decide +kernel)
set_option maxRecDepth 20000 in
theorem gX8_shut_X2_takeOut : GoodIn wsX8_shut (wsV RX8 170 RX2 yX2_takeOut wsX2_takeOut) := goodIn_app (goodIn_of _ (by decide +kernel)) ggX8_shut_X2_takeOut
theorem dX8_shut_0 : decode cX8_shut 0 = .ok (.iload_n 1, 1) := by decide +kernel
theorem dX8_shut_1 : decode cX8_shut 1 = .ok (.invokestatic 142, 3) := by decide +kernel
theorem dX8_shut_4 : decode cX8_shut 4 = .ok (.ifCond .eq 10, 3) := by decide +kernel
theorem dX8_shut_7 : decode cX8_shut 7 = .ok (.iload_n 2, 1) := by decide +kernel
theorem dX8_shut_8 : decode cX8_shut 8 = .ok (.invokestatic 163, 3) := by decide +kernel
theorem dX8_shut_11 : decode cX8_shut 11 = .ok (.ifCond .ne 5, 3) := by decide +kernel
theorem dX8_shut_14 : decode cX8_shut 14 = .ok (.iconst (-1), 1) := by decide +kernel
theorem dX8_shut_15 : decode cX8_shut 15 = .ok (.ireturn, 1) := by decide +kernel
theorem dX8_shut_16 : decode cX8_shut 16 = .ok (.aload_n 0, 1) := by decide +kernel
theorem dX8_shut_17 : decode cX8_shut 17 = .ok (.iload_n 1, 1) := by decide +kernel
theorem dX8_shut_18 : decode cX8_shut 18 = .ok (.invokevirtual 156, 3) := by decide +kernel
theorem dX8_shut_21 : decode cX8_shut 21 = .ok (.aload_n 0, 1) := by decide +kernel
theorem dX8_shut_22 : decode cX8_shut 22 = .ok (.getfield 32, 3) := by decide +kernel
theorem dX8_shut_25 : decode cX8_shut 25 = .ok (.aload_n 0, 1) := by decide +kernel
theorem dX8_shut_26 : decode cX8_shut 26 = .ok (.getfield 36, 3) := by decide +kernel
theorem dX8_shut_29 : decode cX8_shut 29 = .ok (.aload_n 0, 1) := by decide +kernel
theorem dX8_shut_30 : decode cX8_shut 30 = .ok (.getfield 40, 3) := by decide +kernel
theorem dX8_shut_33 : decode cX8_shut 33 = .ok (.iload_n 2, 1) := by decide +kernel
theorem dX8_shut_34 : decode cX8_shut 34 = .ok (.invokevirtual 166, 3) := by decide +kernel
theorem dX8_shut_37 : decode cX8_shut 37 = .ok (.istore_n 3, 1) := by decide +kernel
theorem dX8_shut_38 : decode cX8_shut 38 = .ok (.iload_n 3, 1) := by decide +kernel
theorem dX8_shut_39 : decode cX8_shut 39 = .ok (.iconst (-1), 1) := by decide +kernel
theorem dX8_shut_40 : decode cX8_shut 40 = .ok (.if_icmp .ne 7, 3) := by decide +kernel
theorem dX8_shut_43 : decode cX8_shut 43 = .ok (.iconst (-1), 1) := by decide +kernel
theorem dX8_shut_44 : decode cX8_shut 44 = .ok (.goto 15, 3) := by decide +kernel
theorem dX8_shut_47 : decode cX8_shut 47 = .ok (.aload_n 0, 1) := by decide +kernel
theorem dX8_shut_48 : decode cX8_shut 48 = .ok (.getfield 32, 3) := by decide +kernel
theorem dX8_shut_51 : decode cX8_shut 51 = .ok (.aload_n 0, 1) := by decide +kernel
theorem dX8_shut_52 : decode cX8_shut 52 = .ok (.getfield 36, 3) := by decide +kernel
theorem dX8_shut_55 : decode cX8_shut 55 = .ok (.iload_n 3, 1) := by decide +kernel
theorem dX8_shut_56 : decode cX8_shut 56 = .ok (.invokevirtual 170, 3) := by decide +kernel
theorem dX8_shut_59 : decode cX8_shut 59 = .ok (.ireturn, 1) := by decide +kernel
set_option maxRecDepth 20000 in
theorem ggX8_cuts_X8_isSet : GoodIn wsX8_cuts wsX8_isSet := goodIn_r _ [7] (by decide +kernel) (by decide +kernel)
set_option maxRecDepth 20000 in
theorem gX8_cuts_X8_isSet : GoodIn wsX8_cuts (va_wsS RX8 142 yX8_isSet wsX8_isSet) := goodIn_app (goodIn_of _ (by decide +kernel)) ggX8_cuts_X8_isSet
set_option maxRecDepth 20000 in
theorem ggX8_cuts_X8_isPower : GoodIn wsX8_cuts wsX8_isPower := goodIn_r _ [10] (by decide +kernel) (by decide +kernel)
set_option maxRecDepth 20000 in
theorem gX8_cuts_X8_isPower : GoodIn wsX8_cuts (va_wsS RX8 163 yX8_isPower wsX8_isPower) := goodIn_app (goodIn_of _ (by decide +kernel)) ggX8_cuts_X8_isPower
set_option maxRecDepth 20000 in
theorem ggX8_cuts_X8_gather : GoodIn wsX8_cuts wsX8_gather := goodIn_r _ [14, 2, 3, 15, 16, 17, 18, 19, 20, 21, 6, 22, 23, 24, 25, 26, 27, 28, 29, 30, 31, 32, 33, 34, 35, 36, 37, 38, 39, 40, 41, 42, 43, 44, 45, 46, 47, 48, 49, 50, 51, 52, 53, 54, 55, 56, 57, 58, 59, 60, 61, 62, 63, 64, 65, 66, 67, 68, 69, 70, 71, 72, 73, 74, 75, 76, 77, 78, 79, 80, 81, 82, 83, 84, 85, 86, 87, 88, 89, 90, 91, 92, 93, 94, 95, 96, 97, 98, 99, 100, 101, 102, 103, 104, 105, 106, 107, 108, 109, 110, 111, 112, 113, 114, 115, 116, 117, 118, 119, 120, 121, 122, 123, 124, 125, 126, 127, 128, 129, 130, 131, 132, 133, 134, 135, 136, 137, 138, 139, 140, 141, 142, 143, 144, 145, 146, 147, 148, 149, 150, 151, 152, 153, 154, 155, 156, 157, 158, 159, 160, 161, 162, 163, 164, 165, 166, 167, 168, 169, 170, 171, 172, 173, 174, 175, 176, 177, 216, 217, 218, 219, 220, 221, 222, 223, 224, 225, 226, 227, 228, 229, 230, 231, 232, 233, 234, 235, 236, 237, 238, 239, 240, 241, 242, 243, 244, 245, 246, 247] (by decide +kernel) (by decide +kernel)
set_option maxRecDepth 20000 in
theorem gX8_cuts_X8_gather : GoodIn wsX8_cuts (wsV RX8 156 RX8 yX8_gather wsX8_gather) := goodIn_app (goodIn_of _ (by decide +kernel)) ggX8_cuts_X8_gather
set_option maxRecDepth 20000 in
theorem ggX8_cuts_X2_leastCut : GoodIn wsX8_cuts wsX2_leastCut := goodIn_r _ [182, 183, 184, 185, 186, 181, 187, 188, 189, 190, 191, 192, 193, 194, 195, 196, 197, 198, 199, 200, 201, 202, 21, 6, 22, 203, 204, 205, 206, 207, 208, 209, 210, 211, 212, 213, 214, 215, 248, 249, 250, 251, 252, 253] (by decide +kernel) (by decide +kernel)
set_option maxRecDepth 20000 in
theorem gX8_cuts_X2_leastCut : GoodIn wsX8_cuts (wsV RX8 166 RX2 yX2_leastCut wsX2_leastCut) := goodIn_app (goodIn_of _ (by decide +kernel)) ggX8_cuts_X2_leastCut
theorem dX8_cuts_0 : decode cX8_cuts 0 = .ok (.iload_n 1, 1) := by decide +kernel
theorem dX8_cuts_1 : decode cX8_cuts 1 = .ok (.invokestatic 142, 3) := by decide +kernel
theorem dX8_cuts_4 : decode cX8_cuts 4 = .ok (.ifCond .eq 10, 3) := by decide +kernel
theorem dX8_cuts_7 : decode cX8_cuts 7 = .ok (.iload_n 2, 1) := by decide +kernel
theorem dX8_cuts_8 : decode cX8_cuts 8 = .ok (.invokestatic 163, 3) := by decide +kernel
theorem dX8_cuts_11 : decode cX8_cuts 11 = .ok (.ifCond .ne 5, 3) := by decide +kernel
theorem dX8_cuts_14 : decode cX8_cuts 14 = .ok (.iconst (-1), 1) := by decide +kernel
theorem dX8_cuts_15 : decode cX8_cuts 15 = .ok (.ireturn, 1) := by decide +kernel
theorem dX8_cuts_16 : decode cX8_cuts 16 = .ok (.aload_n 0, 1) := by decide +kernel
