theorem dX4_init_5 : decode cX4_init 5 = .ok (.ldc 11, 2) := by decide +kernel
theorem dX4_init_7 : decode cX4_init 7 = .ok (.newarray .int, 2) := by decide +kernel
theorem dX4_init_9 : decode cX4_init 9 = .ok (.putfield 12, 3) := by decide +kernel
theorem dX4_init_12 : decode cX4_init 12 = .ok (.aload_n 0, 1) := by decide +kernel
theorem dX4_init_13 : decode cX4_init 13 = .ok (.sipush 2048, 3) := by decide +kernel
theorem dX4_init_16 : decode cX4_init 16 = .ok (.newarray .int, 2) := by decide +kernel
theorem dX4_init_18 : decode cX4_init 18 = .ok (.putfield 16, 3) := by decide +kernel
theorem dX4_init_21 : decode cX4_init 21 = .ok (.aload_n 0, 1) := by decide +kernel
theorem dX4_init_22 : decode cX4_init 22 = .ok (.new 19, 3) := by decide +kernel
theorem dX4_init_25 : decode cX4_init 25 = .ok (.dup, 1) := by decide +kernel
theorem dX4_init_26 : decode cX4_init 26 = .ok (.invokespecial 21, 3) := by decide +kernel
theorem dX4_init_29 : decode cX4_init 29 = .ok (.putfield 22, 3) := by decide +kernel
theorem dX4_init_32 : decode cX4_init 32 = .ok (.aload_n 0, 1) := by decide +kernel
theorem dX4_init_33 : decode cX4_init 33 = .ok (.aload_n 1, 1) := by decide +kernel
theorem dX4_init_34 : decode cX4_init 34 = .ok (.putfield 26, 3) := by decide +kernel
theorem dX4_init_37 : decode cX4_init 37 = .ok (.aload_n 0, 1) := by decide +kernel
theorem dX4_init_38 : decode cX4_init 38 = .ok (.aload_n 2, 1) := by decide +kernel
theorem dX4_init_39 : decode cX4_init 39 = .ok (.putfield 30, 3) := by decide +kernel
theorem dX4_init_42 : decode cX4_init 42 = .ok (.aload_n 0, 1) := by decide +kernel
theorem dX4_init_43 : decode cX4_init 43 = .ok (.iconst 1, 1) := by decide +kernel
theorem dX4_init_44 : decode cX4_init 44 = .ok (.putfield 34, 3) := by decide +kernel
theorem dX4_init_47 : decode cX4_init 47 = .ok (.return_, 1) := by decide +kernel
theorem dX4_forget_0 : decode cX4_forget 0 = .ok (.aload_n 0, 1) := by decide +kernel
theorem dX4_forget_1 : decode cX4_forget 1 = .ok (.iconst 1, 1) := by decide +kernel
theorem dX4_forget_2 : decode cX4_forget 2 = .ok (.putfield 34, 3) := by decide +kernel
theorem dX4_forget_5 : decode cX4_forget 5 = .ok (.return_, 1) := by decide +kernel
theorem dX4_calls_0 : decode cX4_calls 0 = .ok (.aload_n 0, 1) := by decide +kernel
theorem dX4_calls_1 : decode cX4_calls 1 = .ok (.getfield 22, 3) := by decide +kernel
theorem dX4_calls_4 : decode cX4_calls 4 = .ok (.areturn, 1) := by decide +kernel
set_option maxRecDepth 20000 in
theorem ggX4_comesTo_X8_holds : GoodIn wsX4_comesTo wsX8_holds := goodIn_r _ [4] (by decide +kernel) (by decide +kernel)
set_option maxRecDepth 20000 in
theorem gX4_comesTo_X8_holds_n42 : GoodIn wsX4_comesTo (wsX8_holds) := ggX4_comesTo_X8_holds
theorem dX4_comesTo_0 : decode cX4_comesTo 0 = .ok (.aload_n 0, 1) := by decide +kernel
theorem dX4_comesTo_1 : decode cX4_comesTo 1 = .ok (.getfield 38, 3) := by decide +kernel
theorem dX4_comesTo_4 : decode cX4_comesTo 4 = .ok (.iload_n 1, 1) := by decide +kernel
theorem dX4_comesTo_5 : decode cX4_comesTo 5 = .ok (.invokestatic 42, 3) := by decide +kernel
theorem dX4_comesTo_8 : decode cX4_comesTo 8 = .ok (.ireturn, 1) := by decide +kernel
set_option maxRecDepth 20000 in
theorem ggX4_lengthTo_X0_arguments : GoodIn wsX4_lengthTo wsX0_arguments := goodIn_r _ [8, 9, 36] (by decide +kernel) (by decide +kernel)
set_option maxRecDepth 20000 in
theorem gX4_lengthTo_X0_arguments : GoodIn wsX4_lengthTo (wsV RX4 46 RX0 yX0_arguments wsX0_arguments) := goodIn_app (goodIn_of _ (by decide +kernel)) ggX4_lengthTo_X0_arguments
set_option maxRecDepth 20000 in
theorem ggX4_lengthTo_X8_holds : GoodIn wsX4_lengthTo wsX8_holds := goodIn_r _ [12] (by decide +kernel) (by decide +kernel)
set_option maxRecDepth 20000 in
theorem gX4_lengthTo_X8_holds_n42 : GoodIn wsX4_lengthTo (wsX8_holds) := ggX4_lengthTo_X8_holds
set_option maxRecDepth 20000 in
theorem ggX4_lengthTo_X4_callNumber : GoodIn wsX4_lengthTo wsX4_callNumber := goodIn_r _ [16] (by decide +kernel) (by decide +kernel)
set_option maxRecDepth 20000 in
theorem gX4_lengthTo_X4_callNumber : GoodIn wsX4_lengthTo (va_wsS RX4 50 yX4_callNumber wsX4_callNumber) := goodIn_app (goodIn_of _ (by decide +kernel)) ggX4_lengthTo_X4_callNumber
set_option maxRecDepth 20000 in
theorem ggX4_lengthTo_X4_parent : GoodIn wsX4_lengthTo wsX4_parent := goodIn_r _ [20, 21, 22, 23, 24, 25, 26, 27, 28, 29, 30, 31, 32, 33, 34, 35] (by decide +kernel) (by decide +kernel)
set_option maxRecDepth 20000 in
theorem gX4_lengthTo_X4_parent : GoodIn wsX4_lengthTo (wsV RX4 54 RX4 yX4_parent wsX4_parent) := goodIn_app (goodIn_of _ (by decide +kernel)) ggX4_lengthTo_X4_parent
theorem dX4_lengthTo_0 : decode cX4_lengthTo 0 = .ok (.aload_n 0, 1) := by decide +kernel
theorem dX4_lengthTo_1 : decode cX4_lengthTo 1 = .ok (.getfield 22, 3) := by decide +kernel
theorem dX4_lengthTo_4 : decode cX4_lengthTo 4 = .ok (.iload_n 1, 1) := by decide +kernel
theorem dX4_lengthTo_5 : decode cX4_lengthTo 5 = .ok (.iload_n 2, 1) := by decide +kernel
theorem dX4_lengthTo_6 : decode cX4_lengthTo 6 = .ok (.invokevirtual 46, 3) := by decide +kernel
theorem dX4_lengthTo_9 : decode cX4_lengthTo 9 = .ok (.iload_n 3, 1) := by decide +kernel
theorem dX4_lengthTo_10 : decode cX4_lengthTo 10 = .ok (.invokestatic 42, 3) := by decide +kernel
theorem dX4_lengthTo_13 : decode cX4_lengthTo 13 = .ok (.ifCond .ne 5, 3) := by decide +kernel
theorem dX4_lengthTo_16 : decode cX4_lengthTo 16 = .ok (.iconst (-1), 1) := by decide +kernel
theorem dX4_lengthTo_17 : decode cX4_lengthTo 17 = .ok (.ireturn, 1) := by decide +kernel
theorem dX4_lengthTo_18 : decode cX4_lengthTo 18 = .ok (.iconst 1, 1) := by decide +kernel
theorem dX4_lengthTo_19 : decode cX4_lengthTo 19 = .ok (.istore 4, 2) := by decide +kernel
theorem dX4_lengthTo_21 : decode cX4_lengthTo 21 = .ok (.aload_n 0, 1) := by decide +kernel
theorem dX4_lengthTo_22 : decode cX4_lengthTo 22 = .ok (.getfield 16, 3) := by decide +kernel
theorem dX4_lengthTo_25 : decode cX4_lengthTo 25 = .ok (.iload_n 1, 1) := by decide +kernel
theorem dX4_lengthTo_26 : decode cX4_lengthTo 26 = .ok (.iload_n 2, 1) := by decide +kernel
theorem dX4_lengthTo_27 : decode cX4_lengthTo 27 = .ok (.iload_n 3, 1) := by decide +kernel
theorem dX4_lengthTo_28 : decode cX4_lengthTo 28 = .ok (.invokestatic 50, 3) := by decide +kernel
theorem dX4_lengthTo_31 : decode cX4_lengthTo 31 = .ok (.iaload, 1) := by decide +kernel
theorem dX4_lengthTo_32 : decode cX4_lengthTo 32 = .ok (.istore 5, 2) := by decide +kernel
theorem dX4_lengthTo_34 : decode cX4_lengthTo 34 = .ok (.iload 5, 2) := by decide +kernel
theorem dX4_lengthTo_36 : decode cX4_lengthTo 36 = .ok (.ifCond .le 24, 3) := by decide +kernel
theorem dX4_lengthTo_39 : decode cX4_lengthTo 39 = .ok (.iload 4, 2) := by decide +kernel
theorem dX4_lengthTo_41 : decode cX4_lengthTo 41 = .ok (.ldc 11, 2) := by decide +kernel
theorem dX4_lengthTo_43 : decode cX4_lengthTo 43 = .ok (.if_icmp .ge 17, 3) := by decide +kernel
theorem dX4_lengthTo_46 : decode cX4_lengthTo 46 = .ok (.aload_n 0, 1) := by decide +kernel
theorem dX4_lengthTo_47 : decode cX4_lengthTo 47 = .ok (.iload 5, 2) := by decide +kernel
theorem dX4_lengthTo_49 : decode cX4_lengthTo 49 = .ok (.invokevirtual 54, 3) := by decide +kernel
theorem dX4_lengthTo_52 : decode cX4_lengthTo 52 = .ok (.istore 5, 2) := by decide +kernel
theorem dX4_lengthTo_54 : decode cX4_lengthTo 54 = .ok (.iinc 4 1, 3) := by decide +kernel
theorem dX4_lengthTo_57 : decode cX4_lengthTo 57 = .ok (.goto (-23), 3) := by decide +kernel
theorem dX4_lengthTo_60 : decode cX4_lengthTo 60 = .ok (.iload 4, 2) := by decide +kernel
theorem dX4_lengthTo_62 : decode cX4_lengthTo 62 = .ok (.ireturn, 1) := by decide +kernel
set_option maxRecDepth 20000 in
theorem ggX4_instructionTo_X4_lengthTo : GoodIn wsX4_instructionTo wsX4_lengthTo := goodIn_r _ [7, 8, 1, 9, 10, 11, 12, 13, 14, 15, 16, 17, 18, 19, 20, 6, 21, 22, 23, 24, 25, 2, 26, 27, 28, 29, 30, 31, 32, 33, 34, 35, 36, 37, 38, 39, 40] (by decide +kernel) (by decide +kernel)
set_option maxRecDepth 20000 in
theorem gX4_instructionTo_X4_lengthTo : GoodIn wsX4_instructionTo (wsV RX4 58 RX4 yX4_lengthTo wsX4_lengthTo) := goodIn_app (goodIn_of _ (by decide +kernel)) ggX4_instructionTo_X4_lengthTo
set_option maxRecDepth 20000 in
theorem ggX4_instructionTo_X4_callNumber : GoodIn wsX4_instructionTo wsX4_callNumber := goodIn_r _ [21] (by decide +kernel) (by decide +kernel)
set_option maxRecDepth 20000 in
theorem gX4_instructionTo_X4_callNumber : GoodIn wsX4_instructionTo (va_wsS RX4 50 yX4_callNumber wsX4_callNumber) := goodIn_app (goodIn_of _ (by decide +kernel)) ggX4_instructionTo_X4_callNumber
set_option maxRecDepth 20000 in
theorem ggX4_instructionTo_X4_parent : GoodIn wsX4_instructionTo wsX4_parent := goodIn_r _ [25, 2, 26, 27, 28, 29, 30, 31, 32, 33, 34, 35, 36, 37, 38, 39] (by decide +kernel) (by decide +kernel)
set_option maxRecDepth 20000 in
theorem gX4_instructionTo_X4_parent : GoodIn wsX4_instructionTo (wsV RX4 54 RX4 yX4_parent wsX4_parent) := goodIn_app (goodIn_of _ (by decide +kernel)) ggX4_instructionTo_X4_parent
theorem dX4_instructionTo_0 : decode cX4_instructionTo 0 = .ok (.aload_n 0, 1) := by decide +kernel
theorem dX4_instructionTo_1 : decode cX4_instructionTo 1 = .ok (.iload_n 1, 1) := by decide +kernel
theorem dX4_instructionTo_2 : decode cX4_instructionTo 2 = .ok (.iload_n 2, 1) := by decide +kernel
theorem dX4_instructionTo_3 : decode cX4_instructionTo 3 = .ok (.iload_n 3, 1) := by decide +kernel
theorem dX4_instructionTo_4 : decode cX4_instructionTo 4 = .ok (.invokevirtual 58, 3) := by decide +kernel
theorem dX4_instructionTo_7 : decode cX4_instructionTo 7 = .ok (.istore 5, 2) := by decide +kernel
theorem dX4_instructionTo_9 : decode cX4_instructionTo 9 = .ok (.iload 4, 2) := by decide +kernel
theorem dX4_instructionTo_11 : decode cX4_instructionTo 11 = .ok (.ifCond .lt 10, 3) := by decide +kernel
theorem dX4_instructionTo_14 : decode cX4_instructionTo 14 = .ok (.iload 4, 2) := by decide +kernel
theorem dX4_instructionTo_16 : decode cX4_instructionTo 16 = .ok (.iload 5, 2) := by decide +kernel
theorem dX4_instructionTo_18 : decode cX4_instructionTo 18 = .ok (.if_icmp .lt 5, 3) := by decide +kernel
theorem dX4_instructionTo_21 : decode cX4_instructionTo 21 = .ok (.iconst (-1), 1) := by decide +kernel
theorem dX4_instructionTo_22 : decode cX4_instructionTo 22 = .ok (.ireturn, 1) := by decide +kernel
theorem dX4_instructionTo_23 : decode cX4_instructionTo 23 = .ok (.aload_n 0, 1) := by decide +kernel
theorem dX4_instructionTo_24 : decode cX4_instructionTo 24 = .ok (.getfield 16, 3) := by decide +kernel
theorem dX4_instructionTo_27 : decode cX4_instructionTo 27 = .ok (.iload_n 1, 1) := by decide +kernel
theorem dX4_instructionTo_28 : decode cX4_instructionTo 28 = .ok (.iload_n 2, 1) := by decide +kernel
theorem dX4_instructionTo_29 : decode cX4_instructionTo 29 = .ok (.iload_n 3, 1) := by decide +kernel
theorem dX4_instructionTo_30 : decode cX4_instructionTo 30 = .ok (.invokestatic 50, 3) := by decide +kernel
theorem dX4_instructionTo_33 : decode cX4_instructionTo 33 = .ok (.iaload, 1) := by decide +kernel
theorem dX4_instructionTo_34 : decode cX4_instructionTo 34 = .ok (.istore 6, 2) := by decide +kernel
theorem dX4_instructionTo_36 : decode cX4_instructionTo 36 = .ok (.iload 5, 2) := by decide +kernel
theorem dX4_instructionTo_38 : decode cX4_instructionTo 38 = .ok (.iconst 1, 1) := by decide +kernel
theorem dX4_instructionTo_39 : decode cX4_instructionTo 39 = .ok (.isub, 1) := by decide +kernel
theorem dX4_instructionTo_40 : decode cX4_instructionTo 40 = .ok (.istore 7, 2) := by decide +kernel
theorem dX4_instructionTo_42 : decode cX4_instructionTo 42 = .ok (.iload 7, 2) := by decide +kernel
theorem dX4_instructionTo_44 : decode cX4_instructionTo 44 = .ok (.iload 4, 2) := by decide +kernel
theorem dX4_instructionTo_46 : decode cX4_instructionTo 46 = .ok (.if_icmp .le 17, 3) := by decide +kernel
theorem dX4_instructionTo_49 : decode cX4_instructionTo 49 = .ok (.aload_n 0, 1) := by decide +kernel
theorem dX4_instructionTo_50 : decode cX4_instructionTo 50 = .ok (.iload 6, 2) := by decide +kernel
theorem dX4_instructionTo_52 : decode cX4_instructionTo 52 = .ok (.invokevirtual 54, 3) := by decide +kernel
theorem dX4_instructionTo_55 : decode cX4_instructionTo 55 = .ok (.istore 6, 2) := by decide +kernel
theorem dX4_instructionTo_57 : decode cX4_instructionTo 57 = .ok (.iinc 7 (-1), 3) := by decide +kernel
theorem dX4_instructionTo_60 : decode cX4_instructionTo 60 = .ok (.goto (-18), 3) := by decide +kernel
theorem dX4_instructionTo_63 : decode cX4_instructionTo 63 = .ok (.aload_n 0, 1) := by decide +kernel
theorem dX4_instructionTo_64 : decode cX4_instructionTo 64 = .ok (.getfield 12, 3) := by decide +kernel
theorem dX4_instructionTo_67 : decode cX4_instructionTo 67 = .ok (.iload 6, 2) := by decide +kernel
theorem dX4_instructionTo_69 : decode cX4_instructionTo 69 = .ok (.iaload, 1) := by decide +kernel
theorem dX4_instructionTo_70 : decode cX4_instructionTo 70 = .ok (.iconst 5, 1) := by decide +kernel
theorem dX4_instructionTo_71 : decode cX4_instructionTo 71 = .ok (.iushr, 1) := by decide +kernel
theorem dX4_instructionTo_72 : decode cX4_instructionTo 72 = .ok (.bipush 31, 2) := by decide +kernel
theorem dX4_instructionTo_74 : decode cX4_instructionTo 74 = .ok (.iand, 1) := by decide +kernel
theorem dX4_instructionTo_75 : decode cX4_instructionTo 75 = .ok (.ireturn, 1) := by decide +kernel
set_option maxRecDepth 20000 in
theorem ggX4_searched_X6_clear : GoodIn wsX4_searched wsX6_clear := goodIn_r _ [12, 13, 14, 15, 16, 17, 18, 152, 153, 154] (by decide +kernel) (by decide +kernel)
set_option maxRecDepth 20000 in
theorem gX4_searched_X6_clear : GoodIn wsX4_searched (wsV RX4 61 RX6 yX6_clear wsX6_clear) := goodIn_app (goodIn_of _ (by decide +kernel)) ggX4_searched_X6_clear
set_option maxRecDepth 20000 in
theorem ggX4_searched_X0_clear : GoodIn wsX4_searched wsX0_clear := goodIn_r _ [23, 24, 25, 16, 17, 18, 155] (by decide +kernel) (by decide +kernel)
set_option maxRecDepth 20000 in
theorem gX4_searched_X0_clear : GoodIn wsX4_searched (wsV RX4 66 RX0 yX0_clear wsX0_clear) := goodIn_app (goodIn_of _ (by decide +kernel)) ggX4_searched_X0_clear
set_option maxRecDepth 20000 in
theorem ggX4_searched_X4_push : GoodIn wsX4_searched wsX4_push := goodIn_r _ [30, 4, 7, 31, 2, 6, 32, 5, 33, 34, 35, 36, 37, 38, 39, 40, 41, 11, 42, 13, 43, 44, 45, 46, 47, 138, 139, 140, 141, 142, 143, 144, 145, 146, 147, 148, 149, 150, 151, 156, 157, 158, 159, 160, 152, 153, 154] (by decide +kernel) (by decide +kernel)
set_option maxRecDepth 20000 in
theorem gX4_searched_X4_push : GoodIn wsX4_searched (wsV RX4 73 RX4 yX4_push wsX4_push) := goodIn_app (goodIn_of _ (by decide +kernel)) ggX4_searched_X4_push
set_option maxRecDepth 20000 in
theorem ggX4_searched_X4_groupEnd : GoodIn wsX4_searched wsX4_groupEnd := goodIn_r _ [51, 4, 32, 52, 53, 54, 138, 139, 140, 141, 142, 143, 144, 145, 146, 147, 148, 149, 150, 151] (by decide +kernel) (by decide +kernel)
set_option maxRecDepth 20000 in
theorem gX4_searched_X4_groupEnd : GoodIn wsX4_searched (wsV RX4 77 RX4 yX4_groupEnd wsX4_groupEnd) := goodIn_app (goodIn_of _ (by decide +kernel)) ggX4_searched_X4_groupEnd
set_option maxRecDepth 20000 in
theorem ggX4_searched_X4_leave : GoodIn wsX4_searched wsX4_leave := goodIn_r _ [58, 32, 59, 60, 61, 62, 63, 64, 65, 66, 67, 68, 6, 69, 70, 71, 29, 72, 31, 73, 74, 75, 76, 77, 36, 78, 79, 80, 81, 82, 83, 84, 85, 86, 87, 88, 89, 90, 91, 92, 93, 94, 95, 96, 97, 98, 2, 99, 100, 101, 11, 102, 47, 103, 104, 105, 106, 26, 27, 28, 30, 4, 7, 5, 33, 34, 35, 37, 38, 39, 40, 41, 42, 13, 43, 44, 45, 46, 107, 108, 109, 110, 3, 111, 112, 113, 114, 22, 115, 24, 52, 53, 54, 116, 117, 118, 119, 120, 121, 122, 123, 124, 125, 126, 127, 128, 129, 130, 131, 132, 133, 14, 134, 135, 136, 137, 138, 139, 140, 141, 142, 143, 144, 145, 146, 147, 148, 149, 150, 151, 156, 157, 158, 159, 160, 152, 153, 154, 155] (by decide +kernel) (by decide +kernel)
set_option maxRecDepth 20000 in
theorem gX4_searched_X4_leave : GoodIn wsX4_searched (wsV RX4 80 RX4 yX4_leave wsX4_leave) := goodIn_app (goodIn_of _ (by decide +kernel)) ggX4_searched_X4_leave
theorem dX4_searched_0 : decode cX4_searched 0 = .ok (.aload_n 0, 1) := by decide +kernel
theorem dX4_searched_1 : decode cX4_searched 1 = .ok (.getfield 34, 3) := by decide +kernel
theorem dX4_searched_4 : decode cX4_searched 4 = .ok (.ifCond .ne 5, 3) := by decide +kernel
theorem dX4_searched_7 : decode cX4_searched 7 = .ok (.aload_n 0, 1) := by decide +kernel
theorem dX4_searched_8 : decode cX4_searched 8 = .ok (.areturn, 1) := by decide +kernel
theorem dX4_searched_9 : decode cX4_searched 9 = .ok (.aload_n 0, 1) := by decide +kernel
theorem dX4_searched_10 : decode cX4_searched 10 = .ok (.iconst 0, 1) := by decide +kernel
theorem dX4_searched_11 : decode cX4_searched 11 = .ok (.putfield 34, 3) := by decide +kernel
theorem dX4_searched_14 : decode cX4_searched 14 = .ok (.aload_n 0, 1) := by decide +kernel
theorem dX4_searched_15 : decode cX4_searched 15 = .ok (.getfield 30, 3) := by decide +kernel
theorem dX4_searched_18 : decode cX4_searched 18 = .ok (.invokevirtual 61, 3) := by decide +kernel
theorem dX4_searched_21 : decode cX4_searched 21 = .ok (.aload_n 0, 1) := by decide +kernel
theorem dX4_searched_22 : decode cX4_searched 22 = .ok (.getfield 22, 3) := by decide +kernel
theorem dX4_searched_25 : decode cX4_searched 25 = .ok (.invokevirtual 66, 3) := by decide +kernel
theorem dX4_searched_28 : decode cX4_searched 28 = .ok (.aload_n 0, 1) := by decide +kernel
theorem dX4_searched_29 : decode cX4_searched 29 = .ok (.iconst 0, 1) := by decide +kernel
theorem dX4_searched_30 : decode cX4_searched 30 = .ok (.putfield 67, 3) := by decide +kernel
theorem dX4_searched_33 : decode cX4_searched 33 = .ok (.aload_n 0, 1) := by decide +kernel
theorem dX4_searched_34 : decode cX4_searched 34 = .ok (.iconst 0, 1) := by decide +kernel
theorem dX4_searched_35 : decode cX4_searched 35 = .ok (.putfield 38, 3) := by decide +kernel
theorem dX4_searched_38 : decode cX4_searched 38 = .ok (.aload_n 0, 1) := by decide +kernel
theorem dX4_searched_39 : decode cX4_searched 39 = .ok (.iconst 1, 1) := by decide +kernel
theorem dX4_searched_40 : decode cX4_searched 40 = .ok (.putfield 70, 3) := by decide +kernel
theorem dX4_searched_43 : decode cX4_searched 43 = .ok (.aload_n 0, 1) := by decide +kernel
theorem dX4_searched_44 : decode cX4_searched 44 = .ok (.iconst 0, 1) := by decide +kernel
theorem dX4_searched_45 : decode cX4_searched 45 = .ok (.iconst 0, 1) := by decide +kernel
theorem dX4_searched_46 : decode cX4_searched 46 = .ok (.iconst 0, 1) := by decide +kernel
theorem dX4_searched_47 : decode cX4_searched 47 = .ok (.iconst 0, 1) := by decide +kernel
theorem dX4_searched_48 : decode cX4_searched 48 = .ok (.iconst 1, 1) := by decide +kernel
theorem dX4_searched_49 : decode cX4_searched 49 = .ok (.invokevirtual 73, 3) := by decide +kernel
theorem dX4_searched_52 : decode cX4_searched 52 = .ok (.iconst 0, 1) := by decide +kernel
theorem dX4_searched_53 : decode cX4_searched 53 = .ok (.istore_n 1, 1) := by decide +kernel
theorem dX4_searched_54 : decode cX4_searched 54 = .ok (.iconst 0, 1) := by decide +kernel
theorem dX4_searched_55 : decode cX4_searched 55 = .ok (.istore_n 2, 1) := by decide +kernel
theorem dX4_searched_56 : decode cX4_searched 56 = .ok (.iload_n 2, 1) := by decide +kernel
theorem dX4_searched_57 : decode cX4_searched 57 = .ok (.aload_n 0, 1) := by decide +kernel
theorem dX4_searched_58 : decode cX4_searched 58 = .ok (.getfield 67, 3) := by decide +kernel
theorem dX4_searched_61 : decode cX4_searched 61 = .ok (.if_icmp .ge 32, 3) := by decide +kernel
theorem dX4_searched_64 : decode cX4_searched 64 = .ok (.iload_n 2, 1) := by decide +kernel
theorem dX4_searched_65 : decode cX4_searched 65 = .ok (.ldc 11, 2) := by decide +kernel
theorem dX4_searched_67 : decode cX4_searched 67 = .ok (.if_icmp .ge 26, 3) := by decide +kernel
theorem dX4_searched_70 : decode cX4_searched 70 = .ok (.iload_n 2, 1) := by decide +kernel
theorem dX4_searched_71 : decode cX4_searched 71 = .ok (.iload_n 1, 1) := by decide +kernel
theorem dX4_searched_72 : decode cX4_searched 72 = .ok (.if_icmp .ne 15, 3) := by decide +kernel
theorem dX4_searched_75 : decode cX4_searched 75 = .ok (.aload_n 0, 1) := by decide +kernel
theorem dX4_searched_76 : decode cX4_searched 76 = .ok (.iload_n 2, 1) := by decide +kernel
theorem dX4_searched_77 : decode cX4_searched 77 = .ok (.invokevirtual 77, 3) := by decide +kernel
theorem dX4_searched_80 : decode cX4_searched 80 = .ok (.istore_n 1, 1) := by decide +kernel
theorem dX4_searched_81 : decode cX4_searched 81 = .ok (.aload_n 0, 1) := by decide +kernel
theorem dX4_searched_82 : decode cX4_searched 82 = .ok (.iload_n 2, 1) := by decide +kernel
theorem dX4_searched_83 : decode cX4_searched 83 = .ok (.iload_n 1, 1) := by decide +kernel
theorem dX4_searched_84 : decode cX4_searched 84 = .ok (.invokevirtual 80, 3) := by decide +kernel
theorem dX4_searched_87 : decode cX4_searched 87 = .ok (.iinc 2 1, 3) := by decide +kernel
theorem dX4_searched_90 : decode cX4_searched 90 = .ok (.goto (-34), 3) := by decide +kernel
theorem dX4_searched_93 : decode cX4_searched 93 = .ok (.aload_n 0, 1) := by decide +kernel
theorem dX4_searched_94 : decode cX4_searched 94 = .ok (.areturn, 1) := by decide +kernel
set_option maxRecDepth 20000 in
theorem ggX4_leave_X4_fetch : GoodIn wsX4_leave wsX4_fetch := goodIn_r _ [17, 4, 18, 2, 19, 20, 3, 21, 22, 23, 24, 25, 26, 27, 28, 29, 30, 31, 32, 33, 34, 35, 36, 37, 38, 39, 40, 41, 116, 117, 118, 119, 120, 121, 122, 123, 124, 125, 126, 127, 128, 129, 130, 131, 132, 133, 134] (by decide +kernel) (by decide +kernel)
set_option maxRecDepth 20000 in
theorem gX4_leave_X4_fetch : GoodIn wsX4_leave (wsV RX4 84 RX4 yX4_fetch wsX4_fetch) := goodIn_app (goodIn_of _ (by decide +kernel)) ggX4_leave_X4_fetch
set_option maxRecDepth 20000 in
theorem ggX4_leave_X4_step : GoodIn wsX4_leave wsX4_step := goodIn_r _ [45, 1, 46, 2, 19, 4, 47, 48, 49, 50, 51, 52, 53, 54, 55, 16, 56, 20, 3, 57, 58, 59, 60, 61, 62, 18, 12, 63, 64, 65, 66, 24, 67, 68, 69, 70, 71, 72, 73, 74, 75, 76, 77, 78, 79, 80, 81, 82, 83, 84, 85, 86, 87, 88, 89, 90, 91, 92, 93, 94, 95, 96, 97, 98, 99, 100, 101, 102, 103, 104, 105, 106, 107, 108, 109, 110, 111, 112, 113, 114, 115, 116, 117, 118, 119, 120, 121, 122, 123, 124, 125, 126, 127, 128, 129, 135, 136, 137, 130, 131, 132, 133, 134, 138] (by decide +kernel) (by decide +kernel)
set_option maxRecDepth 20000 in
theorem gX4_leave_X4_step : GoodIn wsX4_leave (wsV RX4 105 RX4 yX4_step wsX4_step) := goodIn_app (goodIn_of _ (by decide +kernel)) ggX4_leave_X4_step
theorem dX4_leave_0 : decode cX4_leave 0 = .ok (.aload_n 0, 1) := by decide +kernel
theorem dX4_leave_1 : decode cX4_leave 1 = .ok (.aload_n 0, 1) := by decide +kernel
theorem dX4_leave_2 : decode cX4_leave 2 = .ok (.getfield 12, 3) := by decide +kernel
theorem dX4_leave_5 : decode cX4_leave 5 = .ok (.iload_n 1, 1) := by decide +kernel
theorem dX4_leave_6 : decode cX4_leave 6 = .ok (.iaload, 1) := by decide +kernel
theorem dX4_leave_7 : decode cX4_leave 7 = .ok (.iconst 5, 1) := by decide +kernel
theorem dX4_leave_8 : decode cX4_leave 8 = .ok (.iushr, 1) := by decide +kernel
theorem dX4_leave_9 : decode cX4_leave 9 = .ok (.bipush 31, 2) := by decide +kernel
theorem dX4_leave_11 : decode cX4_leave 11 = .ok (.iand, 1) := by decide +kernel
theorem dX4_leave_12 : decode cX4_leave 12 = .ok (.invokevirtual 84, 3) := by decide +kernel
theorem dX4_leave_15 : decode cX4_leave 15 = .ok (.aload_n 0, 1) := by decide +kernel
theorem dX4_leave_16 : decode cX4_leave 16 = .ok (.getfield 88, 3) := by decide +kernel
theorem dX4_leave_19 : decode cX4_leave 19 = .ok (.bipush 9, 2) := by decide +kernel
theorem dX4_leave_21 : decode cX4_leave 21 = .ok (.if_icmp .ne 4, 3) := by decide +kernel
theorem dX4_leave_24 : decode cX4_leave 24 = .ok (.return_, 1) := by decide +kernel
theorem dX4_leave_25 : decode cX4_leave 25 = .ok (.aload_n 0, 1) := by decide +kernel
theorem dX4_leave_26 : decode cX4_leave 26 = .ok (.getfield 88, 3) := by decide +kernel
theorem dX4_leave_29 : decode cX4_leave 29 = .ok (.bipush 6, 2) := by decide +kernel
theorem dX4_leave_31 : decode cX4_leave 31 = .ok (.if_icmp .ne 10, 3) := by decide +kernel
theorem dX4_leave_34 : decode cX4_leave 34 = .ok (.aload_n 0, 1) := by decide +kernel
theorem dX4_leave_35 : decode cX4_leave 35 = .ok (.getfield 91, 3) := by decide +kernel
theorem dX4_leave_38 : decode cX4_leave 38 = .ok (.goto 33, 3) := by decide +kernel
theorem dX4_leave_41 : decode cX4_leave 41 = .ok (.aload_n 0, 1) := by decide +kernel
theorem dX4_leave_42 : decode cX4_leave 42 = .ok (.getfield 88, 3) := by decide +kernel
theorem dX4_leave_45 : decode cX4_leave 45 = .ok (.iconst 5, 1) := by decide +kernel
theorem dX4_leave_46 : decode cX4_leave 46 = .ok (.if_icmp .ne 19, 3) := by decide +kernel
theorem dX4_leave_49 : decode cX4_leave 49 = .ok (.aload_n 0, 1) := by decide +kernel
theorem dX4_leave_50 : decode cX4_leave 50 = .ok (.getfield 94, 3) := by decide +kernel
theorem dX4_leave_53 : decode cX4_leave 53 = .ok (.iconst 1, 1) := by decide +kernel
theorem dX4_leave_54 : decode cX4_leave 54 = .ok (.iadd, 1) := by decide +kernel
theorem dX4_leave_55 : decode cX4_leave 55 = .ok (.aload_n 0, 1) := by decide +kernel
theorem dX4_leave_56 : decode cX4_leave 56 = .ok (.getfield 91, 3) := by decide +kernel
theorem dX4_leave_59 : decode cX4_leave 59 = .ok (.invokestatic 97, 3) := by decide +kernel
theorem dX4_leave_62 : decode cX4_leave 62 = .ok (.goto 9, 3) := by decide +kernel
theorem dX4_leave_65 : decode cX4_leave 65 = .ok (.aload_n 0, 1) := by decide +kernel
theorem dX4_leave_66 : decode cX4_leave 66 = .ok (.getfield 94, 3) := by decide +kernel
theorem dX4_leave_69 : decode cX4_leave 69 = .ok (.iconst 1, 1) := by decide +kernel
theorem dX4_leave_70 : decode cX4_leave 70 = .ok (.iadd, 1) := by decide +kernel
theorem dX4_leave_71 : decode cX4_leave 71 = .ok (.istore_n 3, 1) := by decide +kernel
theorem dX4_leave_72 : decode cX4_leave 72 = .ok (.aload_n 0, 1) := by decide +kernel
theorem dX4_leave_73 : decode cX4_leave 73 = .ok (.getfield 88, 3) := by decide +kernel
theorem dX4_leave_76 : decode cX4_leave 76 = .ok (.iconst 5, 1) := by decide +kernel
theorem dX4_leave_77 : decode cX4_leave 77 = .ok (.if_icmp .ne 19, 3) := by decide +kernel
theorem dX4_leave_80 : decode cX4_leave 80 = .ok (.aload_n 0, 1) := by decide +kernel
theorem dX4_leave_81 : decode cX4_leave 81 = .ok (.getfield 94, 3) := by decide +kernel
theorem dX4_leave_84 : decode cX4_leave 84 = .ok (.iconst 1, 1) := by decide +kernel
theorem dX4_leave_85 : decode cX4_leave 85 = .ok (.iadd, 1) := by decide +kernel
theorem dX4_leave_86 : decode cX4_leave 86 = .ok (.aload_n 0, 1) := by decide +kernel
theorem dX4_leave_87 : decode cX4_leave 87 = .ok (.getfield 91, 3) := by decide +kernel
theorem dX4_leave_90 : decode cX4_leave 90 = .ok (.invokestatic 102, 3) := by decide +kernel
theorem dX4_leave_93 : decode cX4_leave 93 = .ok (.goto 4, 3) := by decide +kernel
theorem dX4_leave_96 : decode cX4_leave 96 = .ok (.iload_n 3, 1) := by decide +kernel
theorem dX4_leave_97 : decode cX4_leave 97 = .ok (.istore 4, 2) := by decide +kernel
theorem dX4_leave_99 : decode cX4_leave 99 = .ok (.aload_n 0, 1) := by decide +kernel
theorem dX4_leave_100 : decode cX4_leave 100 = .ok (.iconst 1, 1) := by decide +kernel
theorem dX4_leave_101 : decode cX4_leave 101 = .ok (.putfield 70, 3) := by decide +kernel
theorem dX4_leave_104 : decode cX4_leave 104 = .ok (.iload_n 1, 1) := by decide +kernel
theorem dX4_leave_105 : decode cX4_leave 105 = .ok (.istore 5, 2) := by decide +kernel
theorem dX4_leave_107 : decode cX4_leave 107 = .ok (.iload 5, 2) := by decide +kernel
theorem dX4_leave_109 : decode cX4_leave 109 = .ok (.iload_n 2, 1) := by decide +kernel
theorem dX4_leave_110 : decode cX4_leave 110 = .ok (.if_icmp .ge 16, 3) := by decide +kernel
theorem dX4_leave_113 : decode cX4_leave 113 = .ok (.aload_n 0, 1) := by decide +kernel
theorem dX4_leave_114 : decode cX4_leave 114 = .ok (.iload 5, 2) := by decide +kernel
theorem dX4_leave_116 : decode cX4_leave 116 = .ok (.iload_n 3, 1) := by decide +kernel
theorem dX4_leave_117 : decode cX4_leave 117 = .ok (.invokevirtual 105, 3) := by decide +kernel
theorem dX4_leave_120 : decode cX4_leave 120 = .ok (.iinc 5 1, 3) := by decide +kernel
theorem dX4_leave_123 : decode cX4_leave 123 = .ok (.goto (-16), 3) := by decide +kernel
theorem dX4_leave_126 : decode cX4_leave 126 = .ok (.aload_n 0, 1) := by decide +kernel
theorem dX4_leave_127 : decode cX4_leave 127 = .ok (.iconst 1, 1) := by decide +kernel
theorem dX4_leave_128 : decode cX4_leave 128 = .ok (.putfield 70, 3) := by decide +kernel
theorem dX4_leave_131 : decode cX4_leave 131 = .ok (.iload_n 1, 1) := by decide +kernel
theorem dX4_leave_132 : decode cX4_leave 132 = .ok (.istore 5, 2) := by decide +kernel
theorem dX4_leave_134 : decode cX4_leave 134 = .ok (.iload 5, 2) := by decide +kernel
theorem dX4_leave_136 : decode cX4_leave 136 = .ok (.iload_n 2, 1) := by decide +kernel
theorem dX4_leave_137 : decode cX4_leave 137 = .ok (.if_icmp .ge 23, 3) := by decide +kernel
theorem dX4_leave_140 : decode cX4_leave 140 = .ok (.iload_n 3, 1) := by decide +kernel
theorem dX4_leave_141 : decode cX4_leave 141 = .ok (.iload 4, 2) := by decide +kernel
theorem dX4_leave_143 : decode cX4_leave 143 = .ok (.if_icmp .eq 17, 3) := by decide +kernel
theorem dX4_leave_146 : decode cX4_leave 146 = .ok (.aload_n 0, 1) := by decide +kernel
theorem dX4_leave_147 : decode cX4_leave 147 = .ok (.iload 5, 2) := by decide +kernel
theorem dX4_leave_149 : decode cX4_leave 149 = .ok (.iload 4, 2) := by decide +kernel
theorem dX4_leave_151 : decode cX4_leave 151 = .ok (.invokevirtual 105, 3) := by decide +kernel
theorem dX4_leave_154 : decode cX4_leave 154 = .ok (.iinc 5 1, 3) := by decide +kernel
theorem dX4_leave_157 : decode cX4_leave 157 = .ok (.goto (-23), 3) := by decide +kernel
theorem dX4_leave_160 : decode cX4_leave 160 = .ok (.return_, 1) := by decide +kernel
set_option maxRecDepth 20000 in
theorem ggX4_fetch_X1_kind : GoodIn wsX4_fetch wsX1_kind := goodIn_r _ [11, 12, 42, 43, 44, 45, 46] (by decide +kernel) (by decide +kernel)
set_option maxRecDepth 20000 in
theorem gX4_fetch_X1_kind : GoodIn wsX4_fetch (wsV RX4 108 RX1 yX1_kind wsX1_kind) := goodIn_app (goodIn_of _ (by decide +kernel)) ggX4_fetch_X1_kind
set_option maxRecDepth 20000 in
theorem ggX4_fetch_X1_x : GoodIn wsX4_fetch wsX1_x := goodIn_r _ [16, 17, 42, 43, 44, 45, 46] (by decide +kernel) (by decide +kernel)
set_option maxRecDepth 20000 in
theorem gX4_fetch_X1_x : GoodIn wsX4_fetch (wsV RX4 112 RX1 yX1_x wsX1_x) := goodIn_app (goodIn_of _ (by decide +kernel)) ggX4_fetch_X1_x
set_option maxRecDepth 20000 in
theorem ggX4_fetch_X1_n : GoodIn wsX4_fetch wsX1_n := goodIn_r _ [21, 22, 42, 43, 44, 45, 46] (by decide +kernel) (by decide +kernel)
set_option maxRecDepth 20000 in
theorem gX4_fetch_X1_n : GoodIn wsX4_fetch (wsV RX4 117 RX1 yX1_n wsX1_n) := goodIn_app (goodIn_of _ (by decide +kernel)) ggX4_fetch_X1_n
set_option maxRecDepth 20000 in
theorem ggX4_fetch_X1_to : GoodIn wsX4_fetch wsX1_to := goodIn_r _ [26, 27, 42, 43, 44, 45, 46] (by decide +kernel) (by decide +kernel)
set_option maxRecDepth 20000 in
theorem gX4_fetch_X1_to : GoodIn wsX4_fetch (wsV RX4 122 RX1 yX1_to wsX1_to) := goodIn_app (goodIn_of _ (by decide +kernel)) ggX4_fetch_X1_to
theorem dX4_fetch_0 : decode cX4_fetch 0 = .ok (.aload_n 0, 1) := by decide +kernel
theorem dX4_fetch_1 : decode cX4_fetch 1 = .ok (.iload_n 1, 1) := by decide +kernel
theorem dX4_fetch_2 : decode cX4_fetch 2 = .ok (.putfield 94, 3) := by decide +kernel
theorem dX4_fetch_5 : decode cX4_fetch 5 = .ok (.aload_n 0, 1) := by decide +kernel
theorem dX4_fetch_6 : decode cX4_fetch 6 = .ok (.aload_n 0, 1) := by decide +kernel
theorem dX4_fetch_7 : decode cX4_fetch 7 = .ok (.getfield 26, 3) := by decide +kernel
theorem dX4_fetch_10 : decode cX4_fetch 10 = .ok (.aload_n 0, 1) := by decide +kernel
theorem dX4_fetch_11 : decode cX4_fetch 11 = .ok (.getfield 94, 3) := by decide +kernel
theorem dX4_fetch_14 : decode cX4_fetch 14 = .ok (.invokevirtual 108, 3) := by decide +kernel
theorem dX4_fetch_17 : decode cX4_fetch 17 = .ok (.putfield 88, 3) := by decide +kernel
theorem dX4_fetch_20 : decode cX4_fetch 20 = .ok (.aload_n 0, 1) := by decide +kernel
theorem dX4_fetch_21 : decode cX4_fetch 21 = .ok (.aload_n 0, 1) := by decide +kernel
theorem dX4_fetch_22 : decode cX4_fetch 22 = .ok (.getfield 26, 3) := by decide +kernel
theorem dX4_fetch_25 : decode cX4_fetch 25 = .ok (.aload_n 0, 1) := by decide +kernel
theorem dX4_fetch_26 : decode cX4_fetch 26 = .ok (.getfield 94, 3) := by decide +kernel
theorem dX4_fetch_29 : decode cX4_fetch 29 = .ok (.invokevirtual 112, 3) := by decide +kernel
theorem dX4_fetch_32 : decode cX4_fetch 32 = .ok (.putfield 115, 3) := by decide +kernel
theorem dX4_fetch_35 : decode cX4_fetch 35 = .ok (.aload_n 0, 1) := by decide +kernel
theorem dX4_fetch_36 : decode cX4_fetch 36 = .ok (.aload_n 0, 1) := by decide +kernel
theorem dX4_fetch_37 : decode cX4_fetch 37 = .ok (.getfield 26, 3) := by decide +kernel
theorem dX4_fetch_40 : decode cX4_fetch 40 = .ok (.aload_n 0, 1) := by decide +kernel
theorem dX4_fetch_41 : decode cX4_fetch 41 = .ok (.getfield 94, 3) := by decide +kernel
theorem dX4_fetch_44 : decode cX4_fetch 44 = .ok (.invokevirtual 117, 3) := by decide +kernel
theorem dX4_fetch_47 : decode cX4_fetch 47 = .ok (.putfield 120, 3) := by decide +kernel
theorem dX4_fetch_50 : decode cX4_fetch 50 = .ok (.aload_n 0, 1) := by decide +kernel
theorem dX4_fetch_51 : decode cX4_fetch 51 = .ok (.aload_n 0, 1) := by decide +kernel
theorem dX4_fetch_52 : decode cX4_fetch 52 = .ok (.getfield 26, 3) := by decide +kernel
theorem dX4_fetch_55 : decode cX4_fetch 55 = .ok (.aload_n 0, 1) := by decide +kernel
theorem dX4_fetch_56 : decode cX4_fetch 56 = .ok (.getfield 94, 3) := by decide +kernel
theorem dX4_fetch_59 : decode cX4_fetch 59 = .ok (.invokevirtual 122, 3) := by decide +kernel
theorem dX4_fetch_62 : decode cX4_fetch 62 = .ok (.putfield 91, 3) := by decide +kernel
theorem dX4_fetch_65 : decode cX4_fetch 65 = .ok (.return_, 1) := by decide +kernel
set_option maxRecDepth 20000 in
theorem ggX4_step_X6_mask : GoodIn wsX4_step wsX6_mask := goodIn_r _ [10, 11, 95, 96, 97] (by decide +kernel) (by decide +kernel)
set_option maxRecDepth 20000 in
theorem gX4_step_X6_mask : GoodIn wsX4_step (wsV RX4 124 RX6 yX6_mask wsX6_mask) := goodIn_app (goodIn_of _ (by decide +kernel)) ggX4_step_X6_mask
set_option maxRecDepth 20000 in
theorem ggX4_step_X4_goingTo : GoodIn wsX4_step wsX4_goingTo := goodIn_r _ [16, 17, 4, 18, 5, 81, 82, 83, 84, 85, 86, 87, 88, 89, 90, 91, 92, 93, 94] (by decide +kernel) (by decide +kernel)
set_option maxRecDepth 20000 in
theorem gX4_step_X4_goingTo : GoodIn wsX4_step (wsV RX4 127 RX4 yX4_goingTo wsX4_goingTo) := goodIn_app (goodIn_of _ (by decide +kernel)) ggX4_step_X4_goingTo
set_option maxRecDepth 20000 in
theorem ggX4_step_X4_push : GoodIn wsX4_step wsX4_push := goodIn_r _ [22, 23, 24, 25, 2, 26, 1, 27, 28, 29, 30, 31, 32, 33, 34, 35, 36, 9, 37, 38, 39, 40, 41, 42, 11, 81, 82, 83, 84, 85, 86, 87, 88, 89, 90, 91, 92, 93, 94, 98, 99, 100, 101, 102, 95, 96, 97] (by decide +kernel) (by decide +kernel)
set_option maxRecDepth 20000 in
theorem gX4_step_X4_push : GoodIn wsX4_step (wsV RX4 73 RX4 yX4_push wsX4_push) := goodIn_app (goodIn_of _ (by decide +kernel)) ggX4_step_X4_push
set_option maxRecDepth 20000 in
theorem ggX4_step_X4_note : GoodIn wsX4_step wsX4_note := goodIn_r _ [46, 47, 48, 49, 50, 51, 52, 53, 54, 55, 56, 57, 58, 59, 15, 60, 61, 62, 63, 64, 81, 82, 83, 84, 85, 86, 87, 88, 89, 90, 91, 92, 93, 94, 103] (by decide +kernel) (by decide +kernel)
set_option maxRecDepth 20000 in
theorem gX4_step_X4_note : GoodIn wsX4_step (wsV RX4 130 RX4 yX4_note wsX4_note) := goodIn_app (goodIn_of _ (by decide +kernel)) ggX4_step_X4_note
set_option maxRecDepth 20000 in
theorem ggX4_step_X4_secondAfter : GoodIn wsX4_step wsX4_secondAfter := goodIn_r _ [68, 3, 17, 69, 70, 15, 71, 81, 82, 83, 84, 85, 86, 87, 88, 89, 90, 91, 92, 93, 94] (by decide +kernel) (by decide +kernel)
set_option maxRecDepth 20000 in
theorem gX4_step_X4_secondAfter : GoodIn wsX4_step (wsV RX4 134 RX4 yX4_secondAfter wsX4_secondAfter) := goodIn_app (goodIn_of _ (by decide +kernel)) ggX4_step_X4_secondAfter
set_option maxRecDepth 20000 in
theorem ggX4_step_X6_give : GoodIn wsX4_step wsX6_give := goodIn_r _ [75, 76, 95, 96, 97] (by decide +kernel) (by decide +kernel)
set_option maxRecDepth 20000 in
theorem gX4_step_X6_give : GoodIn wsX4_step (wsV RX4 137 RX6 yX6_give wsX6_give) := goodIn_app (goodIn_of _ (by decide +kernel)) ggX4_step_X6_give
set_option maxRecDepth 20000 in
theorem ggX4_step_X4_firstAfter : GoodIn wsX4_step wsX4_firstAfter := goodIn_r _ [80, 3, 17, 81, 82, 83, 84, 85, 86, 87, 88, 89, 90, 91, 92, 93, 94] (by decide +kernel) (by decide +kernel)
set_option maxRecDepth 20000 in
theorem gX4_step_X4_firstAfter : GoodIn wsX4_step (wsV RX4 140 RX4 yX4_firstAfter wsX4_firstAfter) := goodIn_app (goodIn_of _ (by decide +kernel)) ggX4_step_X4_firstAfter
theorem dX4_step_0 : decode cX4_step 0 = .ok (.aload_n 0, 1) := by decide +kernel
theorem dX4_step_1 : decode cX4_step 1 = .ok (.getfield 12, 3) := by decide +kernel
theorem dX4_step_4 : decode cX4_step 4 = .ok (.iload_n 1, 1) := by decide +kernel
theorem dX4_step_5 : decode cX4_step 5 = .ok (.iaload, 1) := by decide +kernel
theorem dX4_step_6 : decode cX4_step 6 = .ok (.istore_n 3, 1) := by decide +kernel
theorem dX4_step_7 : decode cX4_step 7 = .ok (.iload_n 3, 1) := by decide +kernel
theorem dX4_step_8 : decode cX4_step 8 = .ok (.bipush 10, 2) := by decide +kernel
theorem dX4_step_10 : decode cX4_step 10 = .ok (.iushr, 1) := by decide +kernel
theorem dX4_step_11 : decode cX4_step 11 = .ok (.iconst 1, 1) := by decide +kernel
theorem dX4_step_12 : decode cX4_step 12 = .ok (.iand, 1) := by decide +kernel
theorem dX4_step_13 : decode cX4_step 13 = .ok (.istore 4, 2) := by decide +kernel
theorem dX4_step_15 : decode cX4_step 15 = .ok (.iload_n 3, 1) := by decide +kernel
theorem dX4_step_16 : decode cX4_step 16 = .ok (.bipush 31, 2) := by decide +kernel
theorem dX4_step_18 : decode cX4_step 18 = .ok (.iand, 1) := by decide +kernel
theorem dX4_step_19 : decode cX4_step 19 = .ok (.istore 5, 2) := by decide +kernel
theorem dX4_step_21 : decode cX4_step 21 = .ok (.aload_n 0, 1) := by decide +kernel
theorem dX4_step_22 : decode cX4_step 22 = .ok (.getfield 30, 3) := by decide +kernel
theorem dX4_step_25 : decode cX4_step 25 = .ok (.iload_n 1, 1) := by decide +kernel
theorem dX4_step_26 : decode cX4_step 26 = .ok (.invokevirtual 124, 3) := by decide +kernel
theorem dX4_step_29 : decode cX4_step 29 = .ok (.istore 6, 2) := by decide +kernel
theorem dX4_step_31 : decode cX4_step 31 = .ok (.aload_n 0, 1) := by decide +kernel
theorem dX4_step_32 : decode cX4_step 32 = .ok (.getfield 88, 3) := by decide +kernel
theorem dX4_step_35 : decode cX4_step 35 = .ok (.tableswitch 98 5 8 #[29, 49, 62, 86], 29) := by decide +kernel
theorem dX4_step_64 : decode cX4_step 64 = .ok (.aload_n 0, 1) := by decide +kernel
theorem dX4_step_65 : decode cX4_step 65 = .ok (.iload_n 1, 1) := by decide +kernel
theorem dX4_step_66 : decode cX4_step 66 = .ok (.iload 4, 2) := by decide +kernel
theorem dX4_step_68 : decode cX4_step 68 = .ok (.iload_n 2, 1) := by decide +kernel
theorem dX4_step_69 : decode cX4_step 69 = .ok (.iload 5, 2) := by decide +kernel
theorem dX4_step_71 : decode cX4_step 71 = .ok (.aload_n 0, 1) := by decide +kernel
theorem dX4_step_72 : decode cX4_step 72 = .ok (.iload_n 2, 1) := by decide +kernel
theorem dX4_step_73 : decode cX4_step 73 = .ok (.iload 5, 2) := by decide +kernel
theorem dX4_step_75 : decode cX4_step 75 = .ok (.iload 6, 2) := by decide +kernel
theorem dX4_step_77 : decode cX4_step 77 = .ok (.invokevirtual 127, 3) := by decide +kernel
theorem dX4_step_80 : decode cX4_step 80 = .ok (.invokevirtual 73, 3) := by decide +kernel
theorem dX4_step_83 : decode cX4_step 83 = .ok (.return_, 1) := by decide +kernel
theorem dX4_step_84 : decode cX4_step 84 = .ok (.aload_n 0, 1) := by decide +kernel
theorem dX4_step_85 : decode cX4_step 85 = .ok (.iload_n 1, 1) := by decide +kernel
theorem dX4_step_86 : decode cX4_step 86 = .ok (.iload 4, 2) := by decide +kernel
theorem dX4_step_88 : decode cX4_step 88 = .ok (.iload_n 2, 1) := by decide +kernel
theorem dX4_step_89 : decode cX4_step 89 = .ok (.iload 5, 2) := by decide +kernel
theorem dX4_step_91 : decode cX4_step 91 = .ok (.iload 6, 2) := by decide +kernel
theorem dX4_step_93 : decode cX4_step 93 = .ok (.invokevirtual 73, 3) := by decide +kernel
theorem dX4_step_96 : decode cX4_step 96 = .ok (.return_, 1) := by decide +kernel
theorem dX4_step_97 : decode cX4_step 97 = .ok (.aload_n 0, 1) := by decide +kernel
theorem dX4_step_98 : decode cX4_step 98 = .ok (.iload_n 1, 1) := by decide +kernel
theorem dX4_step_99 : decode cX4_step 99 = .ok (.iload 4, 2) := by decide +kernel
theorem dX4_step_101 : decode cX4_step 101 = .ok (.iload 5, 2) := by decide +kernel
theorem dX4_step_103 : decode cX4_step 103 = .ok (.iload 6, 2) := by decide +kernel
theorem dX4_step_105 : decode cX4_step 105 = .ok (.invokevirtual 130, 3) := by decide +kernel
theorem dX4_step_108 : decode cX4_step 108 = .ok (.aload_n 0, 1) := by decide +kernel
theorem dX4_step_109 : decode cX4_step 109 = .ok (.iload_n 1, 1) := by decide +kernel
theorem dX4_step_110 : decode cX4_step 110 = .ok (.iload 4, 2) := by decide +kernel
theorem dX4_step_112 : decode cX4_step 112 = .ok (.iload_n 2, 1) := by decide +kernel
theorem dX4_step_113 : decode cX4_step 113 = .ok (.iload 5, 2) := by decide +kernel
theorem dX4_step_115 : decode cX4_step 115 = .ok (.iload 6, 2) := by decide +kernel
theorem dX4_step_117 : decode cX4_step 117 = .ok (.invokevirtual 73, 3) := by decide +kernel
theorem dX4_step_120 : decode cX4_step 120 = .ok (.return_, 1) := by decide +kernel
theorem dX4_step_121 : decode cX4_step 121 = .ok (.aload_n 0, 1) := by decide +kernel
theorem dX4_step_122 : decode cX4_step 122 = .ok (.iload_n 1, 1) := by decide +kernel
theorem dX4_step_123 : decode cX4_step 123 = .ok (.iconst 1, 1) := by decide +kernel
theorem dX4_step_124 : decode cX4_step 124 = .ok (.iload_n 2, 1) := by decide +kernel
theorem dX4_step_125 : decode cX4_step 125 = .ok (.iload 5, 2) := by decide +kernel
theorem dX4_step_127 : decode cX4_step 127 = .ok (.iload 6, 2) := by decide +kernel
theorem dX4_step_129 : decode cX4_step 129 = .ok (.invokevirtual 73, 3) := by decide +kernel
theorem dX4_step_132 : decode cX4_step 132 = .ok (.return_, 1) := by decide +kernel
theorem dX4_step_133 : decode cX4_step 133 = .ok (.aload_n 0, 1) := by decide +kernel
theorem dX4_step_134 : decode cX4_step 134 = .ok (.getfield 115, 3) := by decide +kernel
theorem dX4_step_137 : decode cX4_step 137 = .ok (.iconst 1, 1) := by decide +kernel
theorem dX4_step_138 : decode cX4_step 138 = .ok (.if_icmp .ne 24, 3) := by decide +kernel
theorem dX4_step_141 : decode cX4_step 141 = .ok (.aload_n 0, 1) := by decide +kernel
theorem dX4_step_142 : decode cX4_step 142 = .ok (.iload_n 1, 1) := by decide +kernel
theorem dX4_step_143 : decode cX4_step 143 = .ok (.iload 4, 2) := by decide +kernel
theorem dX4_step_145 : decode cX4_step 145 = .ok (.iload_n 2, 1) := by decide +kernel
theorem dX4_step_146 : decode cX4_step 146 = .ok (.iload 5, 2) := by decide +kernel
theorem dX4_step_148 : decode cX4_step 148 = .ok (.aload_n 0, 1) := by decide +kernel
theorem dX4_step_149 : decode cX4_step 149 = .ok (.iload 5, 2) := by decide +kernel
theorem dX4_step_151 : decode cX4_step 151 = .ok (.iload 6, 2) := by decide +kernel
theorem dX4_step_153 : decode cX4_step 153 = .ok (.invokevirtual 134, 3) := by decide +kernel
theorem dX4_step_156 : decode cX4_step 156 = .ok (.invokevirtual 73, 3) := by decide +kernel
theorem dX4_step_159 : decode cX4_step 159 = .ok (.goto 106, 3) := by decide +kernel
theorem dX4_step_162 : decode cX4_step 162 = .ok (.aload_n 0, 1) := by decide +kernel
theorem dX4_step_163 : decode cX4_step 163 = .ok (.getfield 88, 3) := by decide +kernel
theorem dX4_step_166 : decode cX4_step 166 = .ok (.iconst 3, 1) := by decide +kernel
theorem dX4_step_167 : decode cX4_step 167 = .ok (.if_icmp .eq 11, 3) := by decide +kernel
theorem dX4_step_170 : decode cX4_step 170 = .ok (.aload_n 0, 1) := by decide +kernel
theorem dX4_step_171 : decode cX4_step 171 = .ok (.getfield 88, 3) := by decide +kernel
theorem dX4_step_174 : decode cX4_step 174 = .ok (.iconst 2, 1) := by decide +kernel
theorem dX4_step_175 : decode cX4_step 175 = .ok (.if_icmp .ne 74, 3) := by decide +kernel
theorem dX4_step_178 : decode cX4_step 178 = .ok (.aload_n 0, 1) := by decide +kernel
theorem dX4_step_179 : decode cX4_step 179 = .ok (.getfield 30, 3) := by decide +kernel
theorem dX4_step_182 : decode cX4_step 182 = .ok (.iload 4, 2) := by decide +kernel
theorem dX4_step_184 : decode cX4_step 184 = .ok (.aload_n 0, 1) := by decide +kernel
theorem dX4_step_185 : decode cX4_step 185 = .ok (.getfield 94, 3) := by decide +kernel
theorem dX4_step_188 : decode cX4_step 188 = .ok (.iload 6, 2) := by decide +kernel
theorem dX4_step_190 : decode cX4_step 190 = .ok (.invokevirtual 137, 3) := by decide +kernel
theorem dX4_step_193 : decode cX4_step 193 = .ok (.istore 7, 2) := by decide +kernel
theorem dX4_step_195 : decode cX4_step 195 = .ok (.iconst 0, 1) := by decide +kernel
theorem dX4_step_196 : decode cX4_step 196 = .ok (.istore 8, 2) := by decide +kernel
theorem dX4_step_198 : decode cX4_step 198 = .ok (.iload 8, 2) := by decide +kernel
theorem dX4_step_200 : decode cX4_step 200 = .ok (.bipush 32, 2) := by decide +kernel
theorem dX4_step_202 : decode cX4_step 202 = .ok (.if_icmp .ge 44, 3) := by decide +kernel
theorem dX4_step_205 : decode cX4_step 205 = .ok (.iload 7, 2) := by decide +kernel
theorem dX4_step_207 : decode cX4_step 207 = .ok (.ifCond .eq 39, 3) := by decide +kernel
theorem dX4_step_210 : decode cX4_step 210 = .ok (.aload_n 0, 1) := by decide +kernel
theorem dX4_step_211 : decode cX4_step 211 = .ok (.iload_n 1, 1) := by decide +kernel
theorem dX4_step_212 : decode cX4_step 212 = .ok (.iload 4, 2) := by decide +kernel
theorem dX4_step_214 : decode cX4_step 214 = .ok (.iload_n 2, 1) := by decide +kernel
theorem dX4_step_215 : decode cX4_step 215 = .ok (.iload 8, 2) := by decide +kernel
theorem dX4_step_217 : decode cX4_step 217 = .ok (.aload_n 0, 1) := by decide +kernel
theorem dX4_step_218 : decode cX4_step 218 = .ok (.getfield 88, 3) := by decide +kernel
theorem dX4_step_221 : decode cX4_step 221 = .ok (.iconst 3, 1) := by decide +kernel
theorem dX4_step_222 : decode cX4_step 222 = .ok (.if_icmp .ne 8, 3) := by decide +kernel
theorem dX4_step_225 : decode cX4_step 225 = .ok (.iload 7, 2) := by decide +kernel
theorem dX4_step_227 : decode cX4_step 227 = .ok (.goto 10, 3) := by decide +kernel
theorem dX4_step_230 : decode cX4_step 230 = .ok (.iload 7, 2) := by decide +kernel
theorem dX4_step_232 : decode cX4_step 232 = .ok (.iconst 1, 1) := by decide +kernel
theorem dX4_step_233 : decode cX4_step 233 = .ok (.iload 8, 2) := by decide +kernel
theorem dX4_step_235 : decode cX4_step 235 = .ok (.ishl, 1) := by decide +kernel
theorem dX4_step_236 : decode cX4_step 236 = .ok (.iand, 1) := by decide +kernel
theorem dX4_step_237 : decode cX4_step 237 = .ok (.invokevirtual 73, 3) := by decide +kernel
theorem dX4_step_240 : decode cX4_step 240 = .ok (.iinc 8 1, 3) := by decide +kernel
theorem dX4_step_243 : decode cX4_step 243 = .ok (.goto (-45), 3) := by decide +kernel
theorem dX4_step_246 : decode cX4_step 246 = .ok (.goto 19, 3) := by decide +kernel
theorem dX4_step_249 : decode cX4_step 249 = .ok (.aload_n 0, 1) := by decide +kernel
theorem dX4_step_250 : decode cX4_step 250 = .ok (.iload_n 1, 1) := by decide +kernel
theorem dX4_step_251 : decode cX4_step 251 = .ok (.iload 4, 2) := by decide +kernel
theorem dX4_step_253 : decode cX4_step 253 = .ok (.iload_n 2, 1) := by decide +kernel
theorem dX4_step_254 : decode cX4_step 254 = .ok (.aload_n 0, 1) := by decide +kernel
theorem dX4_step_255 : decode cX4_step 255 = .ok (.iload 5, 2) := by decide +kernel
theorem dX4_step_257 : decode cX4_step 257 = .ok (.invokevirtual 140, 3) := by decide +kernel
theorem dX4_step_260 : decode cX4_step 260 = .ok (.iload 6, 2) := by decide +kernel
theorem dX4_step_262 : decode cX4_step 262 = .ok (.invokevirtual 73, 3) := by decide +kernel
theorem dX4_step_265 : decode cX4_step 265 = .ok (.return_, 1) := by decide +kernel
theorem dX4_goingTo_0 : decode cX4_goingTo 0 = .ok (.iload_n 3, 1) := by decide +kernel
theorem dX4_goingTo_1 : decode cX4_goingTo 1 = .ok (.iconst 1, 1) := by decide +kernel
theorem dX4_goingTo_2 : decode cX4_goingTo 2 = .ok (.aload_n 0, 1) := by decide +kernel
theorem dX4_goingTo_3 : decode cX4_goingTo 3 = .ok (.getfield 120, 3) := by decide +kernel
theorem dX4_goingTo_6 : decode cX4_goingTo 6 = .ok (.ishl, 1) := by decide +kernel
theorem dX4_goingTo_7 : decode cX4_goingTo 7 = .ok (.iconst 1, 1) := by decide +kernel
theorem dX4_goingTo_8 : decode cX4_goingTo 8 = .ok (.isub, 1) := by decide +kernel
theorem dX4_goingTo_9 : decode cX4_goingTo 9 = .ok (.iand, 1) := by decide +kernel
theorem dX4_goingTo_10 : decode cX4_goingTo 10 = .ok (.istore 4, 2) := by decide +kernel
theorem dX4_goingTo_12 : decode cX4_goingTo 12 = .ok (.aload_n 0, 1) := by decide +kernel
theorem dX4_goingTo_13 : decode cX4_goingTo 13 = .ok (.getfield 115, 3) := by decide +kernel
theorem dX4_goingTo_16 : decode cX4_goingTo 16 = .ok (.ifCond .ne 18, 3) := by decide +kernel
theorem dX4_goingTo_19 : decode cX4_goingTo 19 = .ok (.iload_n 2, 1) := by decide +kernel
theorem dX4_goingTo_20 : decode cX4_goingTo 20 = .ok (.aload_n 0, 1) := by decide +kernel
theorem dX4_goingTo_21 : decode cX4_goingTo 21 = .ok (.getfield 120, 3) := by decide +kernel
theorem dX4_goingTo_24 : decode cX4_goingTo 24 = .ok (.if_icmp .ge 7, 3) := by decide +kernel
theorem dX4_goingTo_27 : decode cX4_goingTo 27 = .ok (.iload_n 3, 1) := by decide +kernel
theorem dX4_goingTo_28 : decode cX4_goingTo 28 = .ok (.goto 4, 3) := by decide +kernel
theorem dX4_goingTo_31 : decode cX4_goingTo 31 = .ok (.iconst 0, 1) := by decide +kernel
theorem dX4_goingTo_32 : decode cX4_goingTo 32 = .ok (.istore 4, 2) := by decide +kernel
theorem dX4_goingTo_34 : decode cX4_goingTo 34 = .ok (.aload_n 0, 1) := by decide +kernel
theorem dX4_goingTo_35 : decode cX4_goingTo 35 = .ok (.getfield 91, 3) := by decide +kernel
theorem dX4_goingTo_38 : decode cX4_goingTo 38 = .ok (.iload_n 1, 1) := by decide +kernel
theorem dX4_goingTo_39 : decode cX4_goingTo 39 = .ok (.if_icmp .ne 8, 3) := by decide +kernel
theorem dX4_goingTo_42 : decode cX4_goingTo 42 = .ok (.iload 4, 2) := by decide +kernel
theorem dX4_goingTo_44 : decode cX4_goingTo 44 = .ok (.goto 4, 3) := by decide +kernel
theorem dX4_goingTo_47 : decode cX4_goingTo 47 = .ok (.iconst 0, 1) := by decide +kernel
theorem dX4_goingTo_48 : decode cX4_goingTo 48 = .ok (.istore 5, 2) := by decide +kernel
theorem dX4_goingTo_50 : decode cX4_goingTo 50 = .ok (.aload_n 0, 1) := by decide +kernel
theorem dX4_goingTo_51 : decode cX4_goingTo 51 = .ok (.getfield 94, 3) := by decide +kernel
theorem dX4_goingTo_54 : decode cX4_goingTo 54 = .ok (.iconst 1, 1) := by decide +kernel
theorem dX4_goingTo_55 : decode cX4_goingTo 55 = .ok (.iadd, 1) := by decide +kernel
theorem dX4_goingTo_56 : decode cX4_goingTo 56 = .ok (.iload_n 1, 1) := by decide +kernel
theorem dX4_goingTo_57 : decode cX4_goingTo 57 = .ok (.if_icmp .ne 15, 3) := by decide +kernel
theorem dX4_goingTo_60 : decode cX4_goingTo 60 = .ok (.iload 5, 2) := by decide +kernel
theorem dX4_goingTo_62 : decode cX4_goingTo 62 = .ok (.iload_n 3, 1) := by decide +kernel
theorem dX4_goingTo_63 : decode cX4_goingTo 63 = .ok (.iload 4, 2) := by decide +kernel
theorem dX4_goingTo_65 : decode cX4_goingTo 65 = .ok (.iconst (-1), 1) := by decide +kernel
theorem dX4_goingTo_66 : decode cX4_goingTo 66 = .ok (.ixor, 1) := by decide +kernel
theorem dX4_goingTo_67 : decode cX4_goingTo 67 = .ok (.iand, 1) := by decide +kernel
theorem dX4_goingTo_68 : decode cX4_goingTo 68 = .ok (.ior, 1) := by decide +kernel
theorem dX4_goingTo_69 : decode cX4_goingTo 69 = .ok (.goto 5, 3) := by decide +kernel
theorem dX4_goingTo_72 : decode cX4_goingTo 72 = .ok (.iload 5, 2) := by decide +kernel
theorem dX4_goingTo_74 : decode cX4_goingTo 74 = .ok (.ireturn, 1) := by decide +kernel
theorem dX4_firstAfter_0 : decode cX4_firstAfter 0 = .ok (.aload_n 0, 1) := by decide +kernel
theorem dX4_firstAfter_1 : decode cX4_firstAfter 1 = .ok (.getfield 88, 3) := by decide +kernel
theorem dX4_firstAfter_4 : decode cX4_firstAfter 4 = .ok (.lookupswitch 43 #[(0, 28), (1, 33)], 28) := by decide +kernel
theorem dX4_firstAfter_32 : decode cX4_firstAfter 32 = .ok (.aload_n 0, 1) := by decide +kernel
theorem dX4_firstAfter_33 : decode cX4_firstAfter 33 = .ok (.getfield 120, 3) := by decide +kernel
theorem dX4_firstAfter_36 : decode cX4_firstAfter 36 = .ok (.ireturn, 1) := by decide +kernel
theorem dX4_firstAfter_37 : decode cX4_firstAfter 37 = .ok (.iload_n 1, 1) := by decide +kernel
theorem dX4_firstAfter_38 : decode cX4_firstAfter 38 = .ok (.aload_n 0, 1) := by decide +kernel
theorem dX4_firstAfter_39 : decode cX4_firstAfter 39 = .ok (.getfield 120, 3) := by decide +kernel
theorem dX4_firstAfter_42 : decode cX4_firstAfter 42 = .ok (.iadd, 1) := by decide +kernel
theorem dX4_firstAfter_43 : decode cX4_firstAfter 43 = .ok (.bipush 31, 2) := by decide +kernel
theorem dX4_firstAfter_45 : decode cX4_firstAfter 45 = .ok (.iand, 1) := by decide +kernel
theorem dX4_firstAfter_46 : decode cX4_firstAfter 46 = .ok (.ireturn, 1) := by decide +kernel
theorem dX4_firstAfter_47 : decode cX4_firstAfter 47 = .ok (.iload_n 1, 1) := by decide +kernel
theorem dX4_firstAfter_48 : decode cX4_firstAfter 48 = .ok (.aload_n 0, 1) := by decide +kernel
theorem dX4_firstAfter_49 : decode cX4_firstAfter 49 = .ok (.getfield 120, 3) := by decide +kernel
theorem dX4_firstAfter_52 : decode cX4_firstAfter 52 = .ok (.iand, 1) := by decide +kernel
theorem dX4_firstAfter_53 : decode cX4_firstAfter 53 = .ok (.ireturn, 1) := by decide +kernel
set_option maxRecDepth 20000 in
theorem ggX4_secondAfter_X4_masked : GoodIn wsX4_secondAfter wsX4_masked := goodIn_r _ [6] (by decide +kernel) (by decide +kernel)
set_option maxRecDepth 20000 in
theorem gX4_secondAfter_X4_masked : GoodIn wsX4_secondAfter (va_wsS RX4 143 yX4_masked wsX4_masked) := goodIn_app (goodIn_of _ (by decide +kernel)) ggX4_secondAfter_X4_masked
theorem dX4_secondAfter_0 : decode cX4_secondAfter 0 = .ok (.aload_n 0, 1) := by decide +kernel
theorem dX4_secondAfter_1 : decode cX4_secondAfter 1 = .ok (.getfield 88, 3) := by decide +kernel
theorem dX4_secondAfter_4 : decode cX4_secondAfter 4 = .ok (.tableswitch 73 0 3 #[32, 39, 67, 71], 32) := by decide +kernel
theorem dX4_secondAfter_36 : decode cX4_secondAfter 36 = .ok (.iconst 1, 1) := by decide +kernel
theorem dX4_secondAfter_37 : decode cX4_secondAfter 37 = .ok (.aload_n 0, 1) := by decide +kernel
theorem dX4_secondAfter_38 : decode cX4_secondAfter 38 = .ok (.getfield 120, 3) := by decide +kernel
theorem dX4_secondAfter_41 : decode cX4_secondAfter 41 = .ok (.ishl, 1) := by decide +kernel
theorem dX4_secondAfter_42 : decode cX4_secondAfter 42 = .ok (.ireturn, 1) := by decide +kernel
theorem dX4_secondAfter_43 : decode cX4_secondAfter 43 = .ok (.aload_n 0, 1) := by decide +kernel
theorem dX4_secondAfter_44 : decode cX4_secondAfter 44 = .ok (.getfield 120, 3) := by decide +kernel
theorem dX4_secondAfter_47 : decode cX4_secondAfter 47 = .ok (.ifCond .ne 7, 3) := by decide +kernel
theorem dX4_secondAfter_50 : decode cX4_secondAfter 50 = .ok (.iload_n 2, 1) := by decide +kernel
theorem dX4_secondAfter_51 : decode cX4_secondAfter 51 = .ok (.goto 19, 3) := by decide +kernel
theorem dX4_secondAfter_54 : decode cX4_secondAfter 54 = .ok (.iload_n 2, 1) := by decide +kernel
theorem dX4_secondAfter_55 : decode cX4_secondAfter 55 = .ok (.aload_n 0, 1) := by decide +kernel
theorem dX4_secondAfter_56 : decode cX4_secondAfter 56 = .ok (.getfield 120, 3) := by decide +kernel
theorem dX4_secondAfter_59 : decode cX4_secondAfter 59 = .ok (.ishl, 1) := by decide +kernel
theorem dX4_secondAfter_60 : decode cX4_secondAfter 60 = .ok (.iload_n 2, 1) := by decide +kernel
theorem dX4_secondAfter_61 : decode cX4_secondAfter 61 = .ok (.bipush 32, 2) := by decide +kernel
theorem dX4_secondAfter_63 : decode cX4_secondAfter 63 = .ok (.aload_n 0, 1) := by decide +kernel
theorem dX4_secondAfter_64 : decode cX4_secondAfter 64 = .ok (.getfield 120, 3) := by decide +kernel
theorem dX4_secondAfter_67 : decode cX4_secondAfter 67 = .ok (.isub, 1) := by decide +kernel
theorem dX4_secondAfter_68 : decode cX4_secondAfter 68 = .ok (.iushr, 1) := by decide +kernel
theorem dX4_secondAfter_69 : decode cX4_secondAfter 69 = .ok (.ior, 1) := by decide +kernel
theorem dX4_secondAfter_70 : decode cX4_secondAfter 70 = .ok (.ireturn, 1) := by decide +kernel
theorem dX4_secondAfter_71 : decode cX4_secondAfter 71 = .ok (.iconst 1, 1) := by decide +kernel
theorem dX4_secondAfter_72 : decode cX4_secondAfter 72 = .ok (.iload_n 1, 1) := by decide +kernel
theorem dX4_secondAfter_73 : decode cX4_secondAfter 73 = .ok (.ishl, 1) := by decide +kernel
theorem dX4_secondAfter_74 : decode cX4_secondAfter 74 = .ok (.ireturn, 1) := by decide +kernel
theorem dX4_secondAfter_75 : decode cX4_secondAfter 75 = .ok (.iconst (-1), 1) := by decide +kernel
theorem dX4_secondAfter_76 : decode cX4_secondAfter 76 = .ok (.ireturn, 1) := by decide +kernel
theorem dX4_secondAfter_77 : decode cX4_secondAfter 77 = .ok (.iload_n 2, 1) := by decide +kernel
theorem dX4_secondAfter_78 : decode cX4_secondAfter 78 = .ok (.aload_n 0, 1) := by decide +kernel
theorem dX4_secondAfter_79 : decode cX4_secondAfter 79 = .ok (.getfield 120, 3) := by decide +kernel
theorem dX4_secondAfter_82 : decode cX4_secondAfter 82 = .ok (.invokestatic 143, 3) := by decide +kernel
theorem dX4_secondAfter_85 : decode cX4_secondAfter 85 = .ok (.ireturn, 1) := by decide +kernel
theorem dX4_masked_0 : decode cX4_masked 0 = .ok (.iconst 0, 1) := by decide +kernel
theorem dX4_masked_1 : decode cX4_masked 1 = .ok (.istore_n 2, 1) := by decide +kernel
theorem dX4_masked_2 : decode cX4_masked 2 = .ok (.iconst 0, 1) := by decide +kernel
theorem dX4_masked_3 : decode cX4_masked 3 = .ok (.istore_n 3, 1) := by decide +kernel
theorem dX4_masked_4 : decode cX4_masked 4 = .ok (.iload_n 3, 1) := by decide +kernel
theorem dX4_masked_5 : decode cX4_masked 5 = .ok (.bipush 32, 2) := by decide +kernel
theorem dX4_masked_7 : decode cX4_masked 7 = .ok (.if_icmp .ge 25, 3) := by decide +kernel
theorem dX4_masked_10 : decode cX4_masked 10 = .ok (.iload_n 0, 1) := by decide +kernel
theorem dX4_masked_11 : decode cX4_masked 11 = .ok (.iconst 1, 1) := by decide +kernel
theorem dX4_masked_12 : decode cX4_masked 12 = .ok (.iload_n 3, 1) := by decide +kernel
theorem dX4_masked_13 : decode cX4_masked 13 = .ok (.ishl, 1) := by decide +kernel
theorem dX4_masked_14 : decode cX4_masked 14 = .ok (.iand, 1) := by decide +kernel
theorem dX4_masked_15 : decode cX4_masked 15 = .ok (.ifCond .eq 11, 3) := by decide +kernel
theorem dX4_masked_18 : decode cX4_masked 18 = .ok (.iload_n 2, 1) := by decide +kernel
theorem dX4_masked_19 : decode cX4_masked 19 = .ok (.iconst 1, 1) := by decide +kernel
theorem dX4_masked_20 : decode cX4_masked 20 = .ok (.iload_n 3, 1) := by decide +kernel
theorem dX4_masked_21 : decode cX4_masked 21 = .ok (.iload_n 1, 1) := by decide +kernel
theorem dX4_masked_22 : decode cX4_masked 22 = .ok (.iand, 1) := by decide +kernel
theorem dX4_masked_23 : decode cX4_masked 23 = .ok (.ishl, 1) := by decide +kernel
theorem dX4_masked_24 : decode cX4_masked 24 = .ok (.ior, 1) := by decide +kernel
theorem dX4_masked_25 : decode cX4_masked 25 = .ok (.istore_n 2, 1) := by decide +kernel
theorem dX4_masked_26 : decode cX4_masked 26 = .ok (.iinc 3 1, 3) := by decide +kernel
theorem dX4_masked_29 : decode cX4_masked 29 = .ok (.goto (-25), 3) := by decide +kernel
theorem dX4_masked_32 : decode cX4_masked 32 = .ok (.iload_n 2, 1) := by decide +kernel
theorem dX4_masked_33 : decode cX4_masked 33 = .ok (.ireturn, 1) := by decide +kernel
set_option maxRecDepth 20000 in
theorem ggX4_note_X0_arguments : GoodIn wsX4_note wsX0_arguments := goodIn_r _ [7, 8, 34] (by decide +kernel) (by decide +kernel)
set_option maxRecDepth 20000 in
theorem gX4_note_X0_arguments : GoodIn wsX4_note (wsV RX4 46 RX0 yX0_arguments wsX0_arguments) := goodIn_app (goodIn_of _ (by decide +kernel)) ggX4_note_X0_arguments
set_option maxRecDepth 20000 in
theorem ggX4_note_X8_holds : GoodIn wsX4_note wsX8_holds := goodIn_r _ [11] (by decide +kernel) (by decide +kernel)
set_option maxRecDepth 20000 in
theorem gX4_note_X8_holds_n42 : GoodIn wsX4_note (wsX8_holds) := ggX4_note_X8_holds
set_option maxRecDepth 20000 in
theorem ggX4_note_X4_callNumber : GoodIn wsX4_note wsX4_callNumber := goodIn_r _ [15] (by decide +kernel) (by decide +kernel)
set_option maxRecDepth 20000 in
theorem gX4_note_X4_callNumber : GoodIn wsX4_note (va_wsS RX4 50 yX4_callNumber wsX4_callNumber) := goodIn_app (goodIn_of _ (by decide +kernel)) ggX4_note_X4_callNumber
set_option maxRecDepth 20000 in
theorem ggX4_note_X0_add : GoodIn wsX4_note wsX0_add := goodIn_r _ [19, 8, 34] (by decide +kernel) (by decide +kernel)
set_option maxRecDepth 20000 in
theorem gX4_note_X0_add : GoodIn wsX4_note (wsV RX4 146 RX0 yX0_add wsX0_add) := goodIn_app (goodIn_of _ (by decide +kernel)) ggX4_note_X0_add
theorem dX4_note_0 : decode cX4_note 0 = .ok (.iload 4, 2) := by decide +kernel
theorem dX4_note_2 : decode cX4_note 2 = .ok (.aload_n 0, 1) := by decide +kernel
theorem dX4_note_3 : decode cX4_note 3 = .ok (.getfield 22, 3) := by decide +kernel
theorem dX4_note_6 : decode cX4_note 6 = .ok (.iload_n 2, 1) := by decide +kernel
theorem dX4_note_7 : decode cX4_note 7 = .ok (.iload_n 3, 1) := by decide +kernel
theorem dX4_note_8 : decode cX4_note 8 = .ok (.invokevirtual 46, 3) := by decide +kernel
theorem dX4_note_11 : decode cX4_note 11 = .ok (.iconst (-1), 1) := by decide +kernel
theorem dX4_note_12 : decode cX4_note 12 = .ok (.ixor, 1) := by decide +kernel
theorem dX4_note_13 : decode cX4_note 13 = .ok (.iand, 1) := by decide +kernel
theorem dX4_note_14 : decode cX4_note 14 = .ok (.istore 5, 2) := by decide +kernel
theorem dX4_note_16 : decode cX4_note 16 = .ok (.iconst 0, 1) := by decide +kernel
theorem dX4_note_17 : decode cX4_note 17 = .ok (.istore 6, 2) := by decide +kernel
theorem dX4_note_19 : decode cX4_note 19 = .ok (.iload 6, 2) := by decide +kernel
theorem dX4_note_21 : decode cX4_note 21 = .ok (.bipush 32, 2) := by decide +kernel
theorem dX4_note_23 : decode cX4_note 23 = .ok (.if_icmp .ge 37, 3) := by decide +kernel
theorem dX4_note_26 : decode cX4_note 26 = .ok (.iload 5, 2) := by decide +kernel
theorem dX4_note_28 : decode cX4_note 28 = .ok (.ifCond .eq 32, 3) := by decide +kernel
theorem dX4_note_31 : decode cX4_note 31 = .ok (.iload 5, 2) := by decide +kernel
theorem dX4_note_33 : decode cX4_note 33 = .ok (.iload 6, 2) := by decide +kernel
theorem dX4_note_35 : decode cX4_note 35 = .ok (.invokestatic 42, 3) := by decide +kernel
theorem dX4_note_38 : decode cX4_note 38 = .ok (.ifCond .eq 16, 3) := by decide +kernel
theorem dX4_note_41 : decode cX4_note 41 = .ok (.aload_n 0, 1) := by decide +kernel
theorem dX4_note_42 : decode cX4_note 42 = .ok (.getfield 16, 3) := by decide +kernel
theorem dX4_note_45 : decode cX4_note 45 = .ok (.iload_n 2, 1) := by decide +kernel
theorem dX4_note_46 : decode cX4_note 46 = .ok (.iload_n 3, 1) := by decide +kernel
theorem dX4_note_47 : decode cX4_note 47 = .ok (.iload 6, 2) := by decide +kernel
theorem dX4_note_49 : decode cX4_note 49 = .ok (.invokestatic 50, 3) := by decide +kernel
theorem dX4_note_52 : decode cX4_note 52 = .ok (.iload_n 1, 1) := by decide +kernel
theorem dX4_note_53 : decode cX4_note 53 = .ok (.iastore, 1) := by decide +kernel
theorem dX4_note_54 : decode cX4_note 54 = .ok (.iinc 6 1, 3) := by decide +kernel
theorem dX4_note_57 : decode cX4_note 57 = .ok (.goto (-38), 3) := by decide +kernel
theorem dX4_note_60 : decode cX4_note 60 = .ok (.aload_n 0, 1) := by decide +kernel
theorem dX4_note_61 : decode cX4_note 61 = .ok (.getfield 22, 3) := by decide +kernel
theorem dX4_note_64 : decode cX4_note 64 = .ok (.iload_n 2, 1) := by decide +kernel
theorem dX4_note_65 : decode cX4_note 65 = .ok (.iload_n 3, 1) := by decide +kernel
theorem dX4_note_66 : decode cX4_note 66 = .ok (.iload 5, 2) := by decide +kernel
theorem dX4_note_68 : decode cX4_note 68 = .ok (.invokevirtual 146, 3) := by decide +kernel
theorem dX4_note_71 : decode cX4_note 71 = .ok (.return_, 1) := by decide +kernel
set_option maxRecDepth 20000 in
theorem ggX4_push_X1_has : GoodIn wsX4_push wsX1_has := goodIn_r _ [12, 13, 39, 40, 41, 42, 43] (by decide +kernel) (by decide +kernel)
set_option maxRecDepth 20000 in
theorem gX4_push_X1_has : GoodIn wsX4_push (wsV RX4 150 RX1 yX1_has wsX1_has) := goodIn_app (goodIn_of _ (by decide +kernel)) ggX4_push_X1_has
set_option maxRecDepth 20000 in
theorem ggX4_push_X6_enter : GoodIn wsX4_push wsX6_enter := goodIn_r _ [18, 19, 44, 45, 46] (by decide +kernel) (by decide +kernel)
set_option maxRecDepth 20000 in
theorem gX4_push_X6_enter : GoodIn wsX4_push (wsV RX4 154 RX6 yX6_enter wsX6_enter) := goodIn_app (goodIn_of _ (by decide +kernel)) ggX4_push_X6_enter
set_option maxRecDepth 20000 in
theorem ggX4_push_X6_keep : GoodIn wsX4_push wsX6_keep := goodIn_r _ [23, 24, 44, 45, 46] (by decide +kernel) (by decide +kernel)
set_option maxRecDepth 20000 in
theorem gX4_push_X6_keep : GoodIn wsX4_push (wsV RX4 158 RX6 yX6_keep wsX6_keep) := goodIn_app (goodIn_of _ (by decide +kernel)) ggX4_push_X6_keep
theorem dX4_push_0 : decode cX4_push 0 = .ok (.iload 5, 2) := by decide +kernel
theorem dX4_push_2 : decode cX4_push 2 = .ok (.ifCond .eq 23, 3) := by decide +kernel
theorem dX4_push_5 : decode cX4_push 5 = .ok (.aload_n 0, 1) := by decide +kernel
theorem dX4_push_6 : decode cX4_push 6 = .ok (.getfield 67, 3) := by decide +kernel
theorem dX4_push_9 : decode cX4_push 9 = .ok (.ldc 11, 2) := by decide +kernel
theorem dX4_push_11 : decode cX4_push 11 = .ok (.if_icmp .ge 14, 3) := by decide +kernel
theorem dX4_push_14 : decode cX4_push 14 = .ok (.aload_n 0, 1) := by decide +kernel
theorem dX4_push_15 : decode cX4_push 15 = .ok (.getfield 26, 3) := by decide +kernel
theorem dX4_push_18 : decode cX4_push 18 = .ok (.iload_n 3, 1) := by decide +kernel
theorem dX4_push_19 : decode cX4_push 19 = .ok (.invokevirtual 150, 3) := by decide +kernel
theorem dX4_push_22 : decode cX4_push 22 = .ok (.ifCond .ne 4, 3) := by decide +kernel
theorem dX4_push_25 : decode cX4_push 25 = .ok (.return_, 1) := by decide +kernel
theorem dX4_push_26 : decode cX4_push 26 = .ok (.aload_n 0, 1) := by decide +kernel
theorem dX4_push_27 : decode cX4_push 27 = .ok (.getfield 30, 3) := by decide +kernel
theorem dX4_push_30 : decode cX4_push 30 = .ok (.iload_n 2, 1) := by decide +kernel
theorem dX4_push_31 : decode cX4_push 31 = .ok (.iload_n 3, 1) := by decide +kernel
theorem dX4_push_32 : decode cX4_push 32 = .ok (.iload 4, 2) := by decide +kernel
theorem dX4_push_34 : decode cX4_push 34 = .ok (.iload 5, 2) := by decide +kernel
theorem dX4_push_36 : decode cX4_push 36 = .ok (.invokevirtual 154, 3) := by decide +kernel
theorem dX4_push_39 : decode cX4_push 39 = .ok (.istore 6, 2) := by decide +kernel
theorem dX4_push_41 : decode cX4_push 41 = .ok (.iload 6, 2) := by decide +kernel
theorem dX4_push_43 : decode cX4_push 43 = .ok (.ifCond .ne 4, 3) := by decide +kernel
theorem dX4_push_46 : decode cX4_push 46 = .ok (.return_, 1) := by decide +kernel
theorem dX4_push_47 : decode cX4_push 47 = .ok (.aload_n 0, 1) := by decide +kernel
theorem dX4_push_48 : decode cX4_push 48 = .ok (.getfield 70, 3) := by decide +kernel
theorem dX4_push_51 : decode cX4_push 51 = .ok (.ifCond .eq 9, 3) := by decide +kernel
theorem dX4_push_54 : decode cX4_push 54 = .ok (.sipush 2048, 3) := by decide +kernel
theorem dX4_push_57 : decode cX4_push 57 = .ok (.goto 4, 3) := by decide +kernel
theorem dX4_push_60 : decode cX4_push 60 = .ok (.iconst 0, 1) := by decide +kernel
theorem dX4_push_61 : decode cX4_push 61 = .ok (.istore 7, 2) := by decide +kernel
theorem dX4_push_63 : decode cX4_push 63 = .ok (.aload_n 0, 1) := by decide +kernel
theorem dX4_push_64 : decode cX4_push 64 = .ok (.getfield 12, 3) := by decide +kernel
theorem dX4_push_67 : decode cX4_push 67 = .ok (.aload_n 0, 1) := by decide +kernel
theorem dX4_push_68 : decode cX4_push 68 = .ok (.getfield 67, 3) := by decide +kernel
theorem dX4_push_71 : decode cX4_push 71 = .ok (.iload_n 1, 1) := by decide +kernel
theorem dX4_push_72 : decode cX4_push 72 = .ok (.bipush 12, 2) := by decide +kernel
theorem dX4_push_74 : decode cX4_push 74 = .ok (.ishl, 1) := by decide +kernel
theorem dX4_push_75 : decode cX4_push 75 = .ok (.iload 7, 2) := by decide +kernel
theorem dX4_push_77 : decode cX4_push 77 = .ok (.ior, 1) := by decide +kernel
theorem dX4_push_78 : decode cX4_push 78 = .ok (.iload_n 2, 1) := by decide +kernel
theorem dX4_push_79 : decode cX4_push 79 = .ok (.bipush 10, 2) := by decide +kernel
theorem dX4_push_81 : decode cX4_push 81 = .ok (.ishl, 1) := by decide +kernel
theorem dX4_push_82 : decode cX4_push 82 = .ok (.ior, 1) := by decide +kernel
theorem dX4_push_83 : decode cX4_push 83 = .ok (.iload_n 3, 1) := by decide +kernel
theorem dX4_push_84 : decode cX4_push 84 = .ok (.iconst 5, 1) := by decide +kernel
theorem dX4_push_85 : decode cX4_push 85 = .ok (.ishl, 1) := by decide +kernel
theorem dX4_push_86 : decode cX4_push 86 = .ok (.ior, 1) := by decide +kernel
theorem dX4_push_87 : decode cX4_push 87 = .ok (.iload 4, 2) := by decide +kernel
theorem dX4_push_89 : decode cX4_push 89 = .ok (.ior, 1) := by decide +kernel
theorem dX4_push_90 : decode cX4_push 90 = .ok (.iastore, 1) := by decide +kernel
theorem dX4_push_91 : decode cX4_push 91 = .ok (.aload_n 0, 1) := by decide +kernel
theorem dX4_push_92 : decode cX4_push 92 = .ok (.getfield 30, 3) := by decide +kernel
theorem dX4_push_95 : decode cX4_push 95 = .ok (.aload_n 0, 1) := by decide +kernel
theorem dX4_push_96 : decode cX4_push 96 = .ok (.getfield 67, 3) := by decide +kernel
theorem dX4_push_99 : decode cX4_push 99 = .ok (.iload 6, 2) := by decide +kernel
theorem dX4_push_101 : decode cX4_push 101 = .ok (.invokevirtual 158, 3) := by decide +kernel
theorem dX4_push_104 : decode cX4_push 104 = .ok (.aload_n 0, 1) := by decide +kernel
theorem dX4_push_105 : decode cX4_push 105 = .ok (.dup, 1) := by decide +kernel
theorem dX4_push_106 : decode cX4_push 106 = .ok (.getfield 67, 3) := by decide +kernel
theorem dX4_push_109 : decode cX4_push 109 = .ok (.iconst 1, 1) := by decide +kernel
theorem dX4_push_110 : decode cX4_push 110 = .ok (.iadd, 1) := by decide +kernel
theorem dX4_push_111 : decode cX4_push 111 = .ok (.putfield 67, 3) := by decide +kernel
theorem dX4_push_114 : decode cX4_push 114 = .ok (.aload_n 0, 1) := by decide +kernel
theorem dX4_push_115 : decode cX4_push 115 = .ok (.dup, 1) := by decide +kernel
theorem dX4_push_116 : decode cX4_push 116 = .ok (.getfield 38, 3) := by decide +kernel
theorem dX4_push_119 : decode cX4_push 119 = .ok (.iconst 1, 1) := by decide +kernel
theorem dX4_push_120 : decode cX4_push 120 = .ok (.iload_n 3, 1) := by decide +kernel
theorem dX4_push_121 : decode cX4_push 121 = .ok (.ishl, 1) := by decide +kernel
theorem dX4_push_122 : decode cX4_push 122 = .ok (.ior, 1) := by decide +kernel
theorem dX4_push_123 : decode cX4_push 123 = .ok (.putfield 38, 3) := by decide +kernel
theorem dX4_push_126 : decode cX4_push 126 = .ok (.aload_n 0, 1) := by decide +kernel
theorem dX4_push_127 : decode cX4_push 127 = .ok (.iconst 0, 1) := by decide +kernel
theorem dX4_push_128 : decode cX4_push 128 = .ok (.putfield 70, 3) := by decide +kernel
theorem dX4_push_131 : decode cX4_push 131 = .ok (.return_, 1) := by decide +kernel
set_option maxRecDepth 20000 in
theorem ggX4_groupEnd_X8_holds : GoodIn wsX4_groupEnd wsX8_holds := goodIn_r _ [5] (by decide +kernel) (by decide +kernel)
set_option maxRecDepth 20000 in
theorem gX4_groupEnd_X8_holds_n42 : GoodIn wsX4_groupEnd (wsX8_holds) := ggX4_groupEnd_X8_holds
theorem dX4_groupEnd_0 : decode cX4_groupEnd 0 = .ok (.iload_n 1, 1) := by decide +kernel
theorem dX4_groupEnd_1 : decode cX4_groupEnd 1 = .ok (.iconst 1, 1) := by decide +kernel
theorem dX4_groupEnd_2 : decode cX4_groupEnd 2 = .ok (.iadd, 1) := by decide +kernel
theorem dX4_groupEnd_3 : decode cX4_groupEnd 3 = .ok (.istore_n 2, 1) := by decide +kernel
theorem dX4_groupEnd_4 : decode cX4_groupEnd 4 = .ok (.iload_n 2, 1) := by decide +kernel
theorem dX4_groupEnd_5 : decode cX4_groupEnd 5 = .ok (.aload_n 0, 1) := by decide +kernel
theorem dX4_groupEnd_6 : decode cX4_groupEnd 6 = .ok (.getfield 67, 3) := by decide +kernel
theorem dX4_groupEnd_9 : decode cX4_groupEnd 9 = .ok (.if_icmp .ge 23, 3) := by decide +kernel
theorem dX4_groupEnd_12 : decode cX4_groupEnd 12 = .ok (.aload_n 0, 1) := by decide +kernel
theorem dX4_groupEnd_13 : decode cX4_groupEnd 13 = .ok (.getfield 12, 3) := by decide +kernel
theorem dX4_groupEnd_16 : decode cX4_groupEnd 16 = .ok (.iload_n 2, 1) := by decide +kernel
theorem dX4_groupEnd_17 : decode cX4_groupEnd 17 = .ok (.iaload, 1) := by decide +kernel
theorem dX4_groupEnd_18 : decode cX4_groupEnd 18 = .ok (.bipush 11, 2) := by decide +kernel
theorem dX4_groupEnd_20 : decode cX4_groupEnd 20 = .ok (.invokestatic 42, 3) := by decide +kernel
theorem dX4_groupEnd_23 : decode cX4_groupEnd 23 = .ok (.ifCond .ne 9, 3) := by decide +kernel
theorem dX4_groupEnd_26 : decode cX4_groupEnd 26 = .ok (.iinc 2 1, 3) := by decide +kernel
theorem dX4_groupEnd_29 : decode cX4_groupEnd 29 = .ok (.goto (-25), 3) := by decide +kernel
theorem dX4_groupEnd_32 : decode cX4_groupEnd 32 = .ok (.iload_n 2, 1) := by decide +kernel
theorem dX4_groupEnd_33 : decode cX4_groupEnd 33 = .ok (.ireturn, 1) := by decide +kernel
theorem dX4_parent_0 : decode cX4_parent 0 = .ok (.aload_n 0, 1) := by decide +kernel
theorem dX4_parent_1 : decode cX4_parent 1 = .ok (.getfield 12, 3) := by decide +kernel
theorem dX4_parent_4 : decode cX4_parent 4 = .ok (.iload_n 1, 1) := by decide +kernel
theorem dX4_parent_5 : decode cX4_parent 5 = .ok (.iaload, 1) := by decide +kernel
theorem dX4_parent_6 : decode cX4_parent 6 = .ok (.bipush 12, 2) := by decide +kernel
theorem dX4_parent_8 : decode cX4_parent 8 = .ok (.iushr, 1) := by decide +kernel
theorem dX4_parent_9 : decode cX4_parent 9 = .ok (.ireturn, 1) := by decide +kernel
theorem dX4_callNumber_0 : decode cX4_callNumber 0 = .ok (.iload_n 0, 1) := by decide +kernel
theorem dX4_callNumber_1 : decode cX4_callNumber 1 = .ok (.bipush 32, 2) := by decide +kernel
theorem dX4_callNumber_3 : decode cX4_callNumber 3 = .ok (.imul, 1) := by decide +kernel
theorem dX4_callNumber_4 : decode cX4_callNumber 4 = .ok (.iload_n 1, 1) := by decide +kernel
theorem dX4_callNumber_5 : decode cX4_callNumber 5 = .ok (.iadd, 1) := by decide +kernel
theorem dX4_callNumber_6 : decode cX4_callNumber 6 = .ok (.bipush 32, 2) := by decide +kernel
theorem dX4_callNumber_8 : decode cX4_callNumber 8 = .ok (.imul, 1) := by decide +kernel
theorem dX4_callNumber_9 : decode cX4_callNumber 9 = .ok (.iload_n 2, 1) := by decide +kernel
theorem dX4_callNumber_10 : decode cX4_callNumber 10 = .ok (.iadd, 1) := by decide +kernel
theorem dX4_callNumber_11 : decode cX4_callNumber 11 = .ok (.ireturn, 1) := by decide +kernel
set_option maxRecDepth 20000 in
theorem ggX5_init_X0_init : GoodIn wsX5_init wsX0_init := goodIn_r _ [12, 13, 2, 3, 14, 15, 16] (by decide +kernel) (by decide +kernel)
set_option maxRecDepth 20000 in
theorem gX5_init_X0_init : GoodIn wsX5_init (wsX0_init) := ggX5_init_X0_init
theorem dX5_init_0 : decode cX5_init 0 = .ok (.aload_n 0, 1) := by decide +kernel
theorem dX5_init_1 : decode cX5_init 1 = .ok (.invokespecial 3, 3) := by decide +kernel
theorem dX5_init_4 : decode cX5_init 4 = .ok (.aload_n 0, 1) := by decide +kernel
theorem dX5_init_5 : decode cX5_init 5 = .ok (.new 9, 3) := by decide +kernel
theorem dX5_init_8 : decode cX5_init 8 = .ok (.dup, 1) := by decide +kernel
theorem dX5_init_9 : decode cX5_init 9 = .ok (.invokespecial 11, 3) := by decide +kernel
theorem dX5_init_12 : decode cX5_init 12 = .ok (.putfield 12, 3) := by decide +kernel
theorem dX5_init_15 : decode cX5_init 15 = .ok (.aload_n 0, 1) := by decide +kernel
theorem dX5_init_16 : decode cX5_init 16 = .ok (.aload_n 1, 1) := by decide +kernel
theorem dX5_init_17 : decode cX5_init 17 = .ok (.putfield 18, 3) := by decide +kernel
theorem dX5_init_20 : decode cX5_init 20 = .ok (.aload_n 0, 1) := by decide +kernel
theorem dX5_init_21 : decode cX5_init 21 = .ok (.aload_n 2, 1) := by decide +kernel
theorem dX5_init_22 : decode cX5_init 22 = .ok (.putfield 22, 3) := by decide +kernel
theorem dX5_init_25 : decode cX5_init 25 = .ok (.return_, 1) := by decide +kernel
theorem dX5_instructions_0 : decode cX5_instructions 0 = .ok (.aload_n 0, 1) := by decide +kernel
theorem dX5_instructions_1 : decode cX5_instructions 1 = .ok (.getfield 18, 3) := by decide +kernel
theorem dX5_instructions_4 : decode cX5_instructions 4 = .ok (.areturn, 1) := by decide +kernel
theorem dX5_called_0 : decode cX5_called 0 = .ok (.aload_n 0, 1) := by decide +kernel
theorem dX5_called_1 : decode cX5_called 1 = .ok (.getfield 12, 3) := by decide +kernel
theorem dX5_called_4 : decode cX5_called 4 = .ok (.areturn, 1) := by decide +kernel
theorem dX5_paths_0 : decode cX5_paths 0 = .ok (.aload_n 0, 1) := by decide +kernel
theorem dX5_paths_1 : decode cX5_paths 1 = .ok (.getfield 22, 3) := by decide +kernel
theorem dX5_paths_4 : decode cX5_paths 4 = .ok (.areturn, 1) := by decide +kernel
set_option maxRecDepth 20000 in
theorem ggX5_append_X1_grow : GoodIn wsX5_append wsX1_grow := goodIn_r _ [6, 7, 39, 40, 41, 42, 43] (by decide +kernel) (by decide +kernel)
set_option maxRecDepth 20000 in
theorem gX5_append_X1_grow : GoodIn wsX5_append (wsV RX5 26 RX1 yX1_grow wsX1_grow) := goodIn_app (goodIn_of _ (by decide +kernel)) ggX5_append_X1_grow
set_option maxRecDepth 20000 in
theorem ggX5_append_X1_length : GoodIn wsX5_append wsX1_length := goodIn_r _ [11, 7, 39, 40, 41, 42, 43] (by decide +kernel) (by decide +kernel)
set_option maxRecDepth 20000 in
theorem gX5_append_X1_length : GoodIn wsX5_append (wsV RX5 32 RX1 yX1_length wsX1_length) := goodIn_app (goodIn_of _ (by decide +kernel)) ggX5_append_X1_length
set_option maxRecDepth 20000 in
theorem ggX5_append_X5_replace : GoodIn wsX5_append wsX5_replace := goodIn_r _ [16, 1, 17, 18, 19, 20, 5, 21, 7, 22, 23, 24, 25, 26, 27, 28, 29, 30, 31, 32, 33, 34, 35, 36, 37, 38, 39, 40, 41, 42, 43, 44, 45, 46, 47, 48, 49, 50, 51, 52, 53, 54, 55, 56, 57] (by decide +kernel) (by decide +kernel)
set_option maxRecDepth 20000 in
theorem gX5_append_X5_replace : GoodIn wsX5_append (wsV RX5 36 RX5 yX5_replace wsX5_replace) := goodIn_app (goodIn_of _ (by decide +kernel)) ggX5_append_X5_replace
theorem dX5_append_0 : decode cX5_append 0 = .ok (.aload_n 0, 1) := by decide +kernel
theorem dX5_append_1 : decode cX5_append 1 = .ok (.getfield 18, 3) := by decide +kernel
theorem dX5_append_4 : decode cX5_append 4 = .ok (.invokevirtual 26, 3) := by decide +kernel
theorem dX5_append_7 : decode cX5_append 7 = .ok (.ifCond .ne 5, 3) := by decide +kernel
theorem dX5_append_10 : decode cX5_append 10 = .ok (.iconst (-1), 1) := by decide +kernel
theorem dX5_append_11 : decode cX5_append 11 = .ok (.ireturn, 1) := by decide +kernel
theorem dX5_append_12 : decode cX5_append 12 = .ok (.aload_n 0, 1) := by decide +kernel
theorem dX5_append_13 : decode cX5_append 13 = .ok (.getfield 18, 3) := by decide +kernel
theorem dX5_append_16 : decode cX5_append 16 = .ok (.invokevirtual 32, 3) := by decide +kernel
theorem dX5_append_19 : decode cX5_append 19 = .ok (.iconst 1, 1) := by decide +kernel
theorem dX5_append_20 : decode cX5_append 20 = .ok (.isub, 1) := by decide +kernel
theorem dX5_append_21 : decode cX5_append 21 = .ok (.istore 5, 2) := by decide +kernel
theorem dX5_append_23 : decode cX5_append 23 = .ok (.aload_n 0, 1) := by decide +kernel
theorem dX5_append_24 : decode cX5_append 24 = .ok (.iload 5, 2) := by decide +kernel
theorem dX5_append_26 : decode cX5_append 26 = .ok (.iload_n 1, 1) := by decide +kernel
theorem dX5_append_27 : decode cX5_append 27 = .ok (.iload_n 2, 1) := by decide +kernel
theorem dX5_append_28 : decode cX5_append 28 = .ok (.iload_n 3, 1) := by decide +kernel
theorem dX5_append_29 : decode cX5_append 29 = .ok (.iload 4, 2) := by decide +kernel
theorem dX5_append_31 : decode cX5_append 31 = .ok (.invokevirtual 36, 3) := by decide +kernel
theorem dX5_append_34 : decode cX5_append 34 = .ok (.pop, 1) := by decide +kernel
theorem dX5_append_35 : decode cX5_append 35 = .ok (.iload 5, 2) := by decide +kernel
theorem dX5_append_37 : decode cX5_append 37 = .ok (.ireturn, 1) := by decide +kernel
set_option maxRecDepth 20000 in
theorem ggX5_replace_X1_has : GoodIn wsX5_replace wsX1_has := goodIn_r _ [7, 8, 26, 27, 28, 29, 30] (by decide +kernel) (by decide +kernel)
set_option maxRecDepth 20000 in
theorem gX5_replace_X1_has : GoodIn wsX5_replace (wsV RX5 40 RX1 yX1_has wsX1_has) := goodIn_app (goodIn_of _ (by decide +kernel)) ggX5_replace_X1_has
set_option maxRecDepth 20000 in
theorem ggX5_replace_X1_put : GoodIn wsX5_replace wsX1_put := goodIn_r _ [12, 13, 14, 15, 16, 26, 27, 28, 29, 30] (by decide +kernel) (by decide +kernel)
set_option maxRecDepth 20000 in
theorem gX5_replace_X1_put : GoodIn wsX5_replace (wsV RX5 44 RX1 yX1_put wsX1_put) := goodIn_app (goodIn_of _ (by decide +kernel)) ggX5_replace_X1_put
set_option maxRecDepth 20000 in
theorem ggX5_replace_X4_forget : GoodIn wsX5_replace wsX4_forget := goodIn_r _ [21, 22, 31, 32, 33, 34, 35, 36, 37, 38, 39, 40, 41, 42, 43, 44] (by decide +kernel) (by decide +kernel)
set_option maxRecDepth 20000 in
theorem gX5_replace_X4_forget : GoodIn wsX5_replace (wsV RX5 48 RX4 yX4_forget wsX4_forget) := goodIn_app (goodIn_of _ (by decide +kernel)) ggX5_replace_X4_forget
theorem dX5_replace_0 : decode cX5_replace 0 = .ok (.aload_n 0, 1) := by decide +kernel
theorem dX5_replace_1 : decode cX5_replace 1 = .ok (.getfield 18, 3) := by decide +kernel
theorem dX5_replace_4 : decode cX5_replace 4 = .ok (.iload_n 1, 1) := by decide +kernel
theorem dX5_replace_5 : decode cX5_replace 5 = .ok (.invokevirtual 40, 3) := by decide +kernel
theorem dX5_replace_8 : decode cX5_replace 8 = .ok (.ifCond .ne 5, 3) := by decide +kernel
theorem dX5_replace_11 : decode cX5_replace 11 = .ok (.iconst 0, 1) := by decide +kernel
theorem dX5_replace_12 : decode cX5_replace 12 = .ok (.ireturn, 1) := by decide +kernel
theorem dX5_replace_13 : decode cX5_replace 13 = .ok (.aload_n 0, 1) := by decide +kernel
theorem dX5_replace_14 : decode cX5_replace 14 = .ok (.getfield 18, 3) := by decide +kernel
theorem dX5_replace_17 : decode cX5_replace 17 = .ok (.iload_n 1, 1) := by decide +kernel
theorem dX5_replace_18 : decode cX5_replace 18 = .ok (.iload_n 2, 1) := by decide +kernel
theorem dX5_replace_19 : decode cX5_replace 19 = .ok (.iload_n 3, 1) := by decide +kernel
theorem dX5_replace_20 : decode cX5_replace 20 = .ok (.iload 4, 2) := by decide +kernel
theorem dX5_replace_22 : decode cX5_replace 22 = .ok (.iload 5, 2) := by decide +kernel
theorem dX5_replace_24 : decode cX5_replace 24 = .ok (.invokevirtual 44, 3) := by decide +kernel
theorem dX5_replace_27 : decode cX5_replace 27 = .ok (.aload_n 0, 1) := by decide +kernel
theorem dX5_replace_28 : decode cX5_replace 28 = .ok (.getfield 22, 3) := by decide +kernel
theorem dX5_replace_31 : decode cX5_replace 31 = .ok (.invokevirtual 48, 3) := by decide +kernel
theorem dX5_replace_34 : decode cX5_replace 34 = .ok (.iconst 1, 1) := by decide +kernel
theorem dX5_replace_35 : decode cX5_replace 35 = .ok (.ireturn, 1) := by decide +kernel
set_option maxRecDepth 20000 in
theorem ggX5_takeCodeOf_X1_become : GoodIn wsX5_takeCodeOf wsX1_become := goodIn_r _ [7, 8, 9, 10, 11, 12, 13, 14, 15, 6, 16, 26, 27, 28, 29, 30] (by decide +kernel) (by decide +kernel)
set_option maxRecDepth 20000 in
theorem gX5_takeCodeOf_X1_become : GoodIn wsX5_takeCodeOf (wsV RX5 53 RX1 yX1_become wsX1_become) := goodIn_app (goodIn_of _ (by decide +kernel)) ggX5_takeCodeOf_X1_become
set_option maxRecDepth 20000 in
theorem ggX5_takeCodeOf_X4_forget : GoodIn wsX5_takeCodeOf wsX4_forget := goodIn_r _ [21, 22, 31, 32, 33, 34, 35, 36, 37, 38, 39, 40, 41, 42, 43, 44] (by decide +kernel) (by decide +kernel)
set_option maxRecDepth 20000 in
theorem gX5_takeCodeOf_X4_forget : GoodIn wsX5_takeCodeOf (wsV RX5 48 RX4 yX4_forget wsX4_forget) := goodIn_app (goodIn_of _ (by decide +kernel)) ggX5_takeCodeOf_X4_forget
theorem dX5_takeCodeOf_0 : decode cX5_takeCodeOf 0 = .ok (.aload_n 0, 1) := by decide +kernel
theorem dX5_takeCodeOf_1 : decode cX5_takeCodeOf 1 = .ok (.getfield 18, 3) := by decide +kernel
theorem dX5_takeCodeOf_4 : decode cX5_takeCodeOf 4 = .ok (.aload_n 1, 1) := by decide +kernel
theorem dX5_takeCodeOf_5 : decode cX5_takeCodeOf 5 = .ok (.getfield 18, 3) := by decide +kernel
theorem dX5_takeCodeOf_8 : decode cX5_takeCodeOf 8 = .ok (.invokevirtual 53, 3) := by decide +kernel
theorem dX5_takeCodeOf_11 : decode cX5_takeCodeOf 11 = .ok (.aload_n 0, 1) := by decide +kernel
theorem dX5_takeCodeOf_12 : decode cX5_takeCodeOf 12 = .ok (.getfield 22, 3) := by decide +kernel
theorem dX5_takeCodeOf_15 : decode cX5_takeCodeOf 15 = .ok (.invokevirtual 48, 3) := by decide +kernel
theorem dX5_takeCodeOf_18 : decode cX5_takeCodeOf 18 = .ok (.return_, 1) := by decide +kernel
theorem dX6_init_0 : decode cX6_init 0 = .ok (.aload_n 0, 1) := by decide +kernel
theorem dX6_init_1 : decode cX6_init 1 = .ok (.invokespecial 3, 3) := by decide +kernel
theorem dX6_init_4 : decode cX6_init 4 = .ok (.aload_n 0, 1) := by decide +kernel
theorem dX6_init_5 : decode cX6_init 5 = .ok (.ldc 11, 2) := by decide +kernel
theorem dX6_init_7 : decode cX6_init 7 = .ok (.newarray .int, 2) := by decide +kernel
theorem dX6_init_9 : decode cX6_init 9 = .ok (.putfield 12, 3) := by decide +kernel
theorem dX6_init_12 : decode cX6_init 12 = .ok (.aload_n 0, 1) := by decide +kernel
theorem dX6_init_13 : decode cX6_init 13 = .ok (.sipush 1536, 3) := by decide +kernel
theorem dX6_init_16 : decode cX6_init 16 = .ok (.newarray .int, 2) := by decide +kernel
theorem dX6_init_18 : decode cX6_init 18 = .ok (.putfield 18, 3) := by decide +kernel
theorem dX6_init_21 : decode cX6_init 21 = .ok (.aload_n 0, 1) := by decide +kernel
theorem dX6_init_22 : decode cX6_init 22 = .ok (.bipush 48, 2) := by decide +kernel
theorem dX6_init_24 : decode cX6_init 24 = .ok (.newarray .int, 2) := by decide +kernel
theorem dX6_init_26 : decode cX6_init 26 = .ok (.putfield 21, 3) := by decide +kernel
theorem dX6_init_29 : decode cX6_init 29 = .ok (.return_, 1) := by decide +kernel
set_option maxRecDepth 20000 in
theorem ggX6_clear_J7_fill_53178 : GoodIn wsX6_clear wsJ7_fill_53178 := goodIn_r _ [6] (by decide +kernel) (by decide +kernel)
set_option maxRecDepth 20000 in
theorem gX6_clear_J7_fill_53178 : GoodIn wsX6_clear (va_wsS RX6 24 yJ7_fill_53178 wsJ7_fill_53178) := goodIn_app (goodIn_of _ (by decide +kernel)) ggX6_clear_J7_fill_53178
theorem dX6_clear_0 : decode cX6_clear 0 = .ok (.aload_n 0, 1) := by decide +kernel
theorem dX6_clear_1 : decode cX6_clear 1 = .ok (.getfield 18, 3) := by decide +kernel
theorem dX6_clear_4 : decode cX6_clear 4 = .ok (.iconst 0, 1) := by decide +kernel
theorem dX6_clear_5 : decode cX6_clear 5 = .ok (.invokestatic 24, 3) := by decide +kernel
theorem dX6_clear_8 : decode cX6_clear 8 = .ok (.aload_n 0, 1) := by decide +kernel
theorem dX6_clear_9 : decode cX6_clear 9 = .ok (.getfield 21, 3) := by decide +kernel
theorem dX6_clear_12 : decode cX6_clear 12 = .ok (.iconst 0, 1) := by decide +kernel
