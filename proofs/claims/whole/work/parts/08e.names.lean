theorem dX8_cuts_17 : decode cX8_cuts 17 = .ok (.iload_n 1, 1) := by decide +kernel
theorem dX8_cuts_18 : decode cX8_cuts 18 = .ok (.invokevirtual 156, 3) := by decide +kernel
theorem dX8_cuts_21 : decode cX8_cuts 21 = .ok (.aload_n 0, 1) := by decide +kernel
theorem dX8_cuts_22 : decode cX8_cuts 22 = .ok (.getfield 32, 3) := by decide +kernel
theorem dX8_cuts_25 : decode cX8_cuts 25 = .ok (.aload_n 0, 1) := by decide +kernel
theorem dX8_cuts_26 : decode cX8_cuts 26 = .ok (.getfield 36, 3) := by decide +kernel
theorem dX8_cuts_29 : decode cX8_cuts 29 = .ok (.aload_n 0, 1) := by decide +kernel
theorem dX8_cuts_30 : decode cX8_cuts 30 = .ok (.getfield 40, 3) := by decide +kernel
theorem dX8_cuts_33 : decode cX8_cuts 33 = .ok (.iload_n 2, 1) := by decide +kernel
theorem dX8_cuts_34 : decode cX8_cuts 34 = .ok (.invokevirtual 166, 3) := by decide +kernel
theorem dX8_cuts_37 : decode cX8_cuts 37 = .ok (.ireturn, 1) := by decide +kernel
set_option maxRecDepth 20000 in
theorem ggX8_look_X8_isProgram : GoodIn wsX8_look wsX8_isProgram := goodIn_r _ [5] (by decide +kernel) (by decide +kernel)
set_option maxRecDepth 20000 in
theorem gX8_look_X8_isProgram : GoodIn wsX8_look (va_wsS RX8 57 yX8_isProgram wsX8_isProgram) := goodIn_app (goodIn_of _ (by decide +kernel)) ggX8_look_X8_isProgram
set_option maxRecDepth 20000 in
theorem ggX8_look_X5_instructions : GoodIn wsX8_look wsX5_instructions := goodIn_r _ [10, 11, 172, 173, 174] (by decide +kernel) (by decide +kernel)
set_option maxRecDepth 20000 in
theorem gX8_look_X5_instructions : GoodIn wsX8_look (wsV RX8 125 RX5 yX5_instructions wsX5_instructions) := goodIn_app (goodIn_of _ (by decide +kernel)) ggX8_look_X5_instructions
set_option maxRecDepth 20000 in
theorem ggX8_look_X1_has : GoodIn wsX8_look wsX1_has := goodIn_r _ [16, 17, 175, 176, 177, 178, 179] (by decide +kernel) (by decide +kernel)
set_option maxRecDepth 20000 in
theorem gX8_look_X1_has : GoodIn wsX8_look (wsV RX8 174 RX1 yX1_has wsX1_has) := goodIn_app (goodIn_of _ (by decide +kernel)) ggX8_look_X1_has
set_option maxRecDepth 20000 in
theorem ggX8_look_X1_kind : GoodIn wsX8_look wsX1_kind := goodIn_r _ [21, 22, 175, 176, 177, 178, 179] (by decide +kernel) (by decide +kernel)
set_option maxRecDepth 20000 in
theorem gX8_look_X1_kind : GoodIn wsX8_look (wsV RX8 177 RX1 yX1_kind wsX1_kind) := goodIn_app (goodIn_of _ (by decide +kernel)) ggX8_look_X1_kind
set_option maxRecDepth 20000 in
theorem ggX8_look_X1_x : GoodIn wsX8_look wsX1_x := goodIn_r _ [26, 27, 175, 176, 177, 178, 179] (by decide +kernel) (by decide +kernel)
set_option maxRecDepth 20000 in
theorem gX8_look_X1_x : GoodIn wsX8_look (wsV RX8 180 RX1 yX1_x wsX1_x) := goodIn_app (goodIn_of _ (by decide +kernel)) ggX8_look_X1_x
set_option maxRecDepth 20000 in
theorem ggX8_look_X1_n : GoodIn wsX8_look wsX1_n := goodIn_r _ [31, 32, 175, 176, 177, 178, 179] (by decide +kernel) (by decide +kernel)
set_option maxRecDepth 20000 in
theorem gX8_look_X1_n : GoodIn wsX8_look (wsV RX8 183 RX1 yX1_n wsX1_n) := goodIn_app (goodIn_of _ (by decide +kernel)) ggX8_look_X1_n
set_option maxRecDepth 20000 in
theorem ggX8_look_X1_to : GoodIn wsX8_look wsX1_to := goodIn_r _ [36, 37, 175, 176, 177, 178, 179] (by decide +kernel) (by decide +kernel)
set_option maxRecDepth 20000 in
theorem gX8_look_X1_to : GoodIn wsX8_look (wsV RX8 186 RX1 yX1_to wsX1_to) := goodIn_app (goodIn_of _ (by decide +kernel)) ggX8_look_X1_to
set_option maxRecDepth 20000 in
theorem ggX8_look_X5_paths : GoodIn wsX8_look wsX5_paths := goodIn_r _ [41, 42, 172, 173, 174] (by decide +kernel) (by decide +kernel)
set_option maxRecDepth 20000 in
theorem gX8_look_X5_paths : GoodIn wsX8_look (wsV RX8 83 RX5 yX5_paths wsX5_paths) := goodIn_app (goodIn_of _ (by decide +kernel)) ggX8_look_X5_paths
set_option maxRecDepth 20000 in
theorem ggX8_look_X4_searched : GoodIn wsX8_look wsX4_searched := goodIn_r _ [47, 48, 49, 50, 51, 52, 53, 54, 55, 56, 57, 58, 59, 60, 61, 62, 63, 64, 65, 66, 67, 68, 69, 70, 71, 72, 73, 74, 75, 46, 76, 77, 78, 79, 13, 14, 15, 16, 17, 80, 81, 82, 83, 84, 85, 86, 87, 88, 89, 90, 91, 92, 93, 4, 94, 95, 96, 97, 98, 99, 100, 101, 102, 103, 104, 105, 106, 107, 108, 109, 110, 111, 112, 113, 114, 115, 19, 20, 21, 22, 116, 24, 25, 26, 27, 117, 29, 30, 31, 32, 118, 34, 35, 36, 37, 119, 120, 121, 122, 123, 124, 125, 126, 127, 128, 129, 130, 131, 132, 133, 134, 135, 136, 137, 138, 139, 140, 141, 142, 143, 144, 145, 146, 147, 148, 149, 150, 151, 152, 153, 154, 155, 156, 157, 158, 159, 160, 161, 180, 181, 182, 183, 184, 185, 186, 187, 188, 189, 190, 191, 192, 193, 194, 195, 196, 197, 175, 176, 177, 178, 179] (by decide +kernel) (by decide +kernel)
set_option maxRecDepth 20000 in
theorem gX8_look_X4_searched : GoodIn wsX8_look (wsV RX8 87 RX4 yX4_searched wsX4_searched) := goodIn_app (goodIn_of _ (by decide +kernel)) ggX8_look_X4_searched
set_option maxRecDepth 20000 in
theorem ggX8_look_X4_comesTo : GoodIn wsX8_look wsX4_comesTo := goodIn_r _ [165, 52, 93, 4, 94, 180, 181, 182, 183, 184, 185, 186, 187, 188, 189, 190, 191, 192, 193] (by decide +kernel) (by decide +kernel)
set_option maxRecDepth 20000 in
theorem gX8_look_X4_comesTo : GoodIn wsX8_look (wsV RX8 189 RX4 yX4_comesTo wsX4_comesTo) := goodIn_app (goodIn_of _ (by decide +kernel)) ggX8_look_X4_comesTo
theorem dX8_look_0 : decode cX8_look 0 = .ok (.iload_n 1, 1) := by decide +kernel
theorem dX8_look_1 : decode cX8_look 1 = .ok (.invokestatic 57, 3) := by decide +kernel
theorem dX8_look_4 : decode cX8_look 4 = .ok (.ifCond .ne 5, 3) := by decide +kernel
theorem dX8_look_7 : decode cX8_look 7 = .ok (.iconst (-1), 1) := by decide +kernel
theorem dX8_look_8 : decode cX8_look 8 = .ok (.ireturn, 1) := by decide +kernel
theorem dX8_look_9 : decode cX8_look 9 = .ok (.aload_n 0, 1) := by decide +kernel
theorem dX8_look_10 : decode cX8_look 10 = .ok (.getfield 11, 3) := by decide +kernel
theorem dX8_look_13 : decode cX8_look 13 = .ok (.iload_n 1, 1) := by decide +kernel
theorem dX8_look_14 : decode cX8_look 14 = .ok (.aaload, 1) := by decide +kernel
theorem dX8_look_15 : decode cX8_look 15 = .ok (.invokevirtual 125, 3) := by decide +kernel
theorem dX8_look_18 : decode cX8_look 18 = .ok (.astore 4, 2) := by decide +kernel
theorem dX8_look_20 : decode cX8_look 20 = .ok (.aload 4, 2) := by decide +kernel
theorem dX8_look_22 : decode cX8_look 22 = .ok (.iload_n 2, 1) := by decide +kernel
theorem dX8_look_23 : decode cX8_look 23 = .ok (.invokevirtual 174, 3) := by decide +kernel
theorem dX8_look_26 : decode cX8_look 26 = .ok (.ifCond .ne 5, 3) := by decide +kernel
theorem dX8_look_29 : decode cX8_look 29 = .ok (.iconst (-1), 1) := by decide +kernel
theorem dX8_look_30 : decode cX8_look 30 = .ok (.ireturn, 1) := by decide +kernel
theorem dX8_look_31 : decode cX8_look 31 = .ok (.iload_n 3, 1) := by decide +kernel
theorem dX8_look_32 : decode cX8_look 32 = .ok (.tableswitch 89 0 4 #[36, 43, 50, 57, 64], 36) := by decide +kernel
theorem dX8_look_68 : decode cX8_look 68 = .ok (.aload 4, 2) := by decide +kernel
theorem dX8_look_70 : decode cX8_look 70 = .ok (.iload_n 2, 1) := by decide +kernel
theorem dX8_look_71 : decode cX8_look 71 = .ok (.invokevirtual 177, 3) := by decide +kernel
theorem dX8_look_74 : decode cX8_look 74 = .ok (.ireturn, 1) := by decide +kernel
theorem dX8_look_75 : decode cX8_look 75 = .ok (.aload 4, 2) := by decide +kernel
theorem dX8_look_77 : decode cX8_look 77 = .ok (.iload_n 2, 1) := by decide +kernel
theorem dX8_look_78 : decode cX8_look 78 = .ok (.invokevirtual 180, 3) := by decide +kernel
theorem dX8_look_81 : decode cX8_look 81 = .ok (.ireturn, 1) := by decide +kernel
theorem dX8_look_82 : decode cX8_look 82 = .ok (.aload 4, 2) := by decide +kernel
theorem dX8_look_84 : decode cX8_look 84 = .ok (.iload_n 2, 1) := by decide +kernel
theorem dX8_look_85 : decode cX8_look 85 = .ok (.invokevirtual 183, 3) := by decide +kernel
theorem dX8_look_88 : decode cX8_look 88 = .ok (.ireturn, 1) := by decide +kernel
theorem dX8_look_89 : decode cX8_look 89 = .ok (.aload 4, 2) := by decide +kernel
theorem dX8_look_91 : decode cX8_look 91 = .ok (.iload_n 2, 1) := by decide +kernel
theorem dX8_look_92 : decode cX8_look 92 = .ok (.invokevirtual 186, 3) := by decide +kernel
theorem dX8_look_95 : decode cX8_look 95 = .ok (.ireturn, 1) := by decide +kernel
theorem dX8_look_96 : decode cX8_look 96 = .ok (.aload_n 0, 1) := by decide +kernel
theorem dX8_look_97 : decode cX8_look 97 = .ok (.getfield 11, 3) := by decide +kernel
theorem dX8_look_100 : decode cX8_look 100 = .ok (.iload_n 1, 1) := by decide +kernel
theorem dX8_look_101 : decode cX8_look 101 = .ok (.aaload, 1) := by decide +kernel
theorem dX8_look_102 : decode cX8_look 102 = .ok (.invokevirtual 83, 3) := by decide +kernel
theorem dX8_look_105 : decode cX8_look 105 = .ok (.invokevirtual 87, 3) := by decide +kernel
theorem dX8_look_108 : decode cX8_look 108 = .ok (.iload_n 2, 1) := by decide +kernel
theorem dX8_look_109 : decode cX8_look 109 = .ok (.invokevirtual 189, 3) := by decide +kernel
theorem dX8_look_112 : decode cX8_look 112 = .ok (.ifCond .eq 7, 3) := by decide +kernel
theorem dX8_look_115 : decode cX8_look 115 = .ok (.iconst 1, 1) := by decide +kernel
theorem dX8_look_116 : decode cX8_look 116 = .ok (.goto 4, 3) := by decide +kernel
theorem dX8_look_119 : decode cX8_look 119 = .ok (.iconst 0, 1) := by decide +kernel
theorem dX8_look_120 : decode cX8_look 120 = .ok (.ireturn, 1) := by decide +kernel
theorem dX8_look_121 : decode cX8_look 121 = .ok (.iconst (-1), 1) := by decide +kernel
theorem dX8_look_122 : decode cX8_look 122 = .ok (.ireturn, 1) := by decide +kernel
set_option maxRecDepth 20000 in
theorem ggX8_count_X2_size : GoodIn wsX8_count wsX2_size := goodIn_r _ [8, 9, 202, 203, 204, 205, 206, 207] (by decide +kernel) (by decide +kernel)
set_option maxRecDepth 20000 in
theorem gX8_count_X2_size : GoodIn wsX8_count (wsV RX8 192 RX2 yX2_size wsX2_size) := goodIn_app (goodIn_of _ (by decide +kernel)) ggX8_count_X2_size
set_option maxRecDepth 20000 in
theorem ggX8_count_X7_size : GoodIn wsX8_count wsX7_size := goodIn_r _ [14, 15, 208, 209] (by decide +kernel) (by decide +kernel)
set_option maxRecDepth 20000 in
theorem gX8_count_X7_size : GoodIn wsX8_count (wsV RX8 121 RX7 yX7_size wsX7_size) := goodIn_app (goodIn_of _ (by decide +kernel)) ggX8_count_X7_size
set_option maxRecDepth 20000 in
theorem ggX8_count_X8_isProgram : GoodIn wsX8_count wsX8_isProgram := goodIn_r _ [19] (by decide +kernel) (by decide +kernel)
set_option maxRecDepth 20000 in
theorem gX8_count_X8_isProgram : GoodIn wsX8_count (va_wsS RX8 57 yX8_isProgram wsX8_isProgram) := goodIn_app (goodIn_of _ (by decide +kernel)) ggX8_count_X8_isProgram
set_option maxRecDepth 20000 in
theorem ggX8_count_X5_instructions : GoodIn wsX8_count wsX5_instructions := goodIn_r _ [24, 25, 210, 211, 212] (by decide +kernel) (by decide +kernel)
set_option maxRecDepth 20000 in
theorem gX8_count_X5_instructions : GoodIn wsX8_count (wsV RX8 125 RX5 yX5_instructions wsX5_instructions) := goodIn_app (goodIn_of _ (by decide +kernel)) ggX8_count_X5_instructions
set_option maxRecDepth 20000 in
theorem ggX8_count_X1_length : GoodIn wsX8_count wsX1_length := goodIn_r _ [30, 31, 213, 214, 215, 216, 217] (by decide +kernel) (by decide +kernel)
set_option maxRecDepth 20000 in
theorem gX8_count_X1_length : GoodIn wsX8_count (wsV RX8 193 RX1 yX1_length wsX1_length) := goodIn_app (goodIn_of _ (by decide +kernel)) ggX8_count_X1_length
set_option maxRecDepth 20000 in
theorem ggX8_count_X5_paths : GoodIn wsX8_count wsX5_paths := goodIn_r _ [35, 36, 210, 211, 212] (by decide +kernel) (by decide +kernel)
set_option maxRecDepth 20000 in
theorem gX8_count_X5_paths : GoodIn wsX8_count (wsV RX8 83 RX5 yX5_paths wsX5_paths) := goodIn_app (goodIn_of _ (by decide +kernel)) ggX8_count_X5_paths
set_option maxRecDepth 20000 in
theorem ggX8_count_X4_searched : GoodIn wsX8_count wsX4_searched := goodIn_r _ [41, 42, 43, 44, 45, 46, 47, 48, 49, 50, 51, 52, 53, 54, 55, 56, 57, 58, 59, 60, 61, 62, 63, 64, 65, 66, 67, 68, 69, 40, 70, 71, 72, 73, 74, 75, 29, 76, 31, 77, 78, 79, 80, 81, 82, 83, 84, 85, 86, 87, 88, 89, 90, 18, 91, 92, 93, 94, 95, 96, 97, 98, 99, 100, 101, 102, 103, 104, 105, 106, 107, 108, 109, 110, 111, 112, 113, 114, 115, 116, 117, 118, 119, 120, 121, 122, 123, 124, 125, 126, 127, 128, 129, 130, 131, 132, 133, 134, 135, 136, 137, 138, 139, 140, 141, 142, 143, 144, 145, 146, 147, 148, 149, 150, 151, 152, 153, 154, 155, 156, 157, 158, 159, 160, 161, 162, 163, 164, 165, 166, 167, 168, 169, 170, 171, 172, 173, 174, 218, 219, 220, 221, 222, 223, 224, 225, 226, 227, 228, 229, 230, 231, 232, 233, 234, 235, 213, 214, 215, 216, 217] (by decide +kernel) (by decide +kernel)
set_option maxRecDepth 20000 in
theorem gX8_count_X4_searched : GoodIn wsX8_count (wsV RX8 87 RX4 yX4_searched wsX4_searched) := goodIn_app (goodIn_of _ (by decide +kernel)) ggX8_count_X4_searched
set_option maxRecDepth 20000 in
theorem ggX8_count_X4_calls : GoodIn wsX8_count wsX4_calls := goodIn_r _ [178, 44, 218, 219, 220, 221, 222, 223, 224, 225, 226, 227, 228, 229, 230, 231] (by decide +kernel) (by decide +kernel)
set_option maxRecDepth 20000 in
theorem gX8_count_X4_calls : GoodIn wsX8_count (wsV RX8 90 RX4 yX4_calls wsX4_calls) := goodIn_app (goodIn_of _ (by decide +kernel)) ggX8_count_X4_calls
set_option maxRecDepth 20000 in
theorem ggX8_count_X0_callsIn : GoodIn wsX8_count wsX0_callsIn := goodIn_r _ [182, 183, 150, 151, 63, 152, 65, 184, 185, 186, 187, 188, 189, 190, 235] (by decide +kernel) (by decide +kernel)
set_option maxRecDepth 20000 in
theorem gX8_count_X0_callsIn : GoodIn wsX8_count (wsV RX8 196 RX0 yX0_callsIn wsX0_callsIn) := goodIn_app (goodIn_of _ (by decide +kernel)) ggX8_count_X0_callsIn
set_option maxRecDepth 20000 in
theorem ggX8_count_X5_called : GoodIn wsX8_count wsX5_called := goodIn_r _ [194, 195, 210, 211, 212] (by decide +kernel) (by decide +kernel)
set_option maxRecDepth 20000 in
theorem gX8_count_X5_called : GoodIn wsX8_count (wsV RX8 129 RX5 yX5_called wsX5_called) := goodIn_app (goodIn_of _ (by decide +kernel)) ggX8_count_X5_called
theorem dX8_count_0 : decode cX8_count 0 = .ok (.iload_n 1, 1) := by decide +kernel
theorem dX8_count_1 : decode cX8_count 1 = .ok (.iconst (-1), 1) := by decide +kernel
theorem dX8_count_2 : decode cX8_count 2 = .ok (.if_icmp .ne 34, 3) := by decide +kernel
theorem dX8_count_5 : decode cX8_count 5 = .ok (.iload_n 2, 1) := by decide +kernel
theorem dX8_count_6 : decode cX8_count 6 = .ok (.ifCond .ne 13, 3) := by decide +kernel
theorem dX8_count_9 : decode cX8_count 9 = .ok (.aload_n 0, 1) := by decide +kernel
theorem dX8_count_10 : decode cX8_count 10 = .ok (.getfield 32, 3) := by decide +kernel
theorem dX8_count_13 : decode cX8_count 13 = .ok (.invokevirtual 192, 3) := by decide +kernel
theorem dX8_count_16 : decode cX8_count 16 = .ok (.goto 19, 3) := by decide +kernel
theorem dX8_count_19 : decode cX8_count 19 = .ok (.iload_n 2, 1) := by decide +kernel
theorem dX8_count_20 : decode cX8_count 20 = .ok (.iconst 1, 1) := by decide +kernel
theorem dX8_count_21 : decode cX8_count 21 = .ok (.if_icmp .ne 13, 3) := by decide +kernel
theorem dX8_count_24 : decode cX8_count 24 = .ok (.aload_n 0, 1) := by decide +kernel
theorem dX8_count_25 : decode cX8_count 25 = .ok (.getfield 18, 3) := by decide +kernel
theorem dX8_count_28 : decode cX8_count 28 = .ok (.invokevirtual 121, 3) := by decide +kernel
theorem dX8_count_31 : decode cX8_count 31 = .ok (.goto 4, 3) := by decide +kernel
theorem dX8_count_34 : decode cX8_count 34 = .ok (.iconst (-1), 1) := by decide +kernel
theorem dX8_count_35 : decode cX8_count 35 = .ok (.ireturn, 1) := by decide +kernel
theorem dX8_count_36 : decode cX8_count 36 = .ok (.iload_n 1, 1) := by decide +kernel
theorem dX8_count_37 : decode cX8_count 37 = .ok (.invokestatic 57, 3) := by decide +kernel
theorem dX8_count_40 : decode cX8_count 40 = .ok (.ifCond .ne 5, 3) := by decide +kernel
theorem dX8_count_43 : decode cX8_count 43 = .ok (.iconst (-1), 1) := by decide +kernel
theorem dX8_count_44 : decode cX8_count 44 = .ok (.ireturn, 1) := by decide +kernel
theorem dX8_count_45 : decode cX8_count 45 = .ok (.iload_n 2, 1) := by decide +kernel
theorem dX8_count_46 : decode cX8_count 46 = .ok (.tableswitch 85 0 4 #[34, 47, 47, 69, 69], 34) := by decide +kernel
theorem dX8_count_80 : decode cX8_count 80 = .ok (.aload_n 0, 1) := by decide +kernel
theorem dX8_count_81 : decode cX8_count 81 = .ok (.getfield 11, 3) := by decide +kernel
theorem dX8_count_84 : decode cX8_count 84 = .ok (.iload_n 1, 1) := by decide +kernel
theorem dX8_count_85 : decode cX8_count 85 = .ok (.aaload, 1) := by decide +kernel
theorem dX8_count_86 : decode cX8_count 86 = .ok (.invokevirtual 125, 3) := by decide +kernel
theorem dX8_count_89 : decode cX8_count 89 = .ok (.invokevirtual 193, 3) := by decide +kernel
theorem dX8_count_92 : decode cX8_count 92 = .ok (.ireturn, 1) := by decide +kernel
theorem dX8_count_93 : decode cX8_count 93 = .ok (.aload_n 0, 1) := by decide +kernel
theorem dX8_count_94 : decode cX8_count 94 = .ok (.getfield 11, 3) := by decide +kernel
theorem dX8_count_97 : decode cX8_count 97 = .ok (.iload_n 1, 1) := by decide +kernel
theorem dX8_count_98 : decode cX8_count 98 = .ok (.aaload, 1) := by decide +kernel
theorem dX8_count_99 : decode cX8_count 99 = .ok (.invokevirtual 83, 3) := by decide +kernel
theorem dX8_count_102 : decode cX8_count 102 = .ok (.invokevirtual 87, 3) := by decide +kernel
theorem dX8_count_105 : decode cX8_count 105 = .ok (.invokevirtual 90, 3) := by decide +kernel
theorem dX8_count_108 : decode cX8_count 108 = .ok (.iload_n 2, 1) := by decide +kernel
theorem dX8_count_109 : decode cX8_count 109 = .ok (.iconst 1, 1) := by decide +kernel
theorem dX8_count_110 : decode cX8_count 110 = .ok (.isub, 1) := by decide +kernel
theorem dX8_count_111 : decode cX8_count 111 = .ok (.invokevirtual 196, 3) := by decide +kernel
theorem dX8_count_114 : decode cX8_count 114 = .ok (.ireturn, 1) := by decide +kernel
theorem dX8_count_115 : decode cX8_count 115 = .ok (.aload_n 0, 1) := by decide +kernel
theorem dX8_count_116 : decode cX8_count 116 = .ok (.getfield 11, 3) := by decide +kernel
theorem dX8_count_119 : decode cX8_count 119 = .ok (.iload_n 1, 1) := by decide +kernel
theorem dX8_count_120 : decode cX8_count 120 = .ok (.aaload, 1) := by decide +kernel
theorem dX8_count_121 : decode cX8_count 121 = .ok (.invokevirtual 129, 3) := by decide +kernel
theorem dX8_count_124 : decode cX8_count 124 = .ok (.iload_n 2, 1) := by decide +kernel
theorem dX8_count_125 : decode cX8_count 125 = .ok (.iconst 3, 1) := by decide +kernel
theorem dX8_count_126 : decode cX8_count 126 = .ok (.isub, 1) := by decide +kernel
theorem dX8_count_127 : decode cX8_count 127 = .ok (.invokevirtual 196, 3) := by decide +kernel
theorem dX8_count_130 : decode cX8_count 130 = .ok (.ireturn, 1) := by decide +kernel
theorem dX8_count_131 : decode cX8_count 131 = .ok (.iconst (-1), 1) := by decide +kernel
theorem dX8_count_132 : decode cX8_count 132 = .ok (.ireturn, 1) := by decide +kernel
set_option maxRecDepth 20000 in
theorem ggX8_gather_J7_fill_53178 : GoodIn wsX8_gather wsJ7_fill_53178 := goodIn_r _ [7] (by decide +kernel) (by decide +kernel)
set_option maxRecDepth 20000 in
theorem gX8_gather_J7_fill_53178 : GoodIn wsX8_gather (va_wsS RX8 199 yJ7_fill_53178 wsJ7_fill_53178) := goodIn_app (goodIn_of _ (by decide +kernel)) ggX8_gather_J7_fill_53178
set_option maxRecDepth 20000 in
theorem ggX8_gather_X8_holds : GoodIn wsX8_gather wsX8_holds := goodIn_r _ [11] (by decide +kernel) (by decide +kernel)
set_option maxRecDepth 20000 in
theorem gX8_gather_X8_holds : GoodIn wsX8_gather (va_wsS RX8 145 yX8_holds wsX8_holds) := goodIn_app (goodIn_of _ (by decide +kernel)) ggX8_gather_X8_holds
set_option maxRecDepth 20000 in
theorem ggX8_gather_X5_paths : GoodIn wsX8_gather wsX5_paths := goodIn_r _ [16, 17, 173, 174, 175] (by decide +kernel) (by decide +kernel)
set_option maxRecDepth 20000 in
theorem gX8_gather_X5_paths : GoodIn wsX8_gather (wsV RX8 83 RX5 yX5_paths wsX5_paths) := goodIn_app (goodIn_of _ (by decide +kernel)) ggX8_gather_X5_paths
set_option maxRecDepth 20000 in
theorem ggX8_gather_X4_searched : GoodIn wsX8_gather wsX4_searched := goodIn_r _ [22, 23, 24, 25, 26, 27, 28, 29, 30, 31, 32, 33, 34, 35, 36, 37, 5, 6, 7, 38, 39, 40, 41, 42, 43, 44, 45, 46, 47, 21, 48, 49, 50, 51, 52, 53, 54, 55, 56, 57, 58, 59, 60, 61, 62, 63, 64, 65, 66, 67, 68, 69, 9, 10, 11, 70, 71, 72, 73, 74, 75, 76, 77, 78, 79, 80, 81, 82, 83, 84, 85, 86, 87, 88, 89, 90, 91, 92, 93, 94, 95, 96, 97, 98, 99, 100, 101, 102, 103, 104, 105, 106, 107, 108, 109, 110, 111, 112, 113, 114, 115, 116, 117, 118, 119, 120, 121, 122, 123, 124, 125, 126, 127, 128, 129, 130, 131, 132, 133, 134, 135, 136, 137, 138, 139, 140, 141, 142, 143, 144, 145, 146, 147, 148, 149, 150, 151, 152, 176, 177, 178, 179, 180, 181, 182, 183, 184, 185, 186, 187, 188, 189, 190, 191, 192, 193, 194, 195, 196, 197, 198] (by decide +kernel) (by decide +kernel)
set_option maxRecDepth 20000 in
theorem gX8_gather_X4_searched : GoodIn wsX8_gather (wsV RX8 87 RX4 yX4_searched wsX4_searched) := goodIn_app (goodIn_of _ (by decide +kernel)) ggX8_gather_X4_searched
set_option maxRecDepth 20000 in
theorem ggX8_gather_X4_calls : GoodIn wsX8_gather wsX4_calls := goodIn_r _ [156, 25, 176, 177, 178, 179, 180, 181, 182, 183, 184, 185, 186, 187, 188, 189] (by decide +kernel) (by decide +kernel)
set_option maxRecDepth 20000 in
theorem gX8_gather_X4_calls : GoodIn wsX8_gather (wsV RX8 90 RX4 yX4_calls wsX4_calls) := goodIn_app (goodIn_of _ (by decide +kernel)) ggX8_gather_X4_calls
set_option maxRecDepth 20000 in
theorem ggX8_gather_X0_addTo : GoodIn wsX8_gather wsX0_addTo := goodIn_r _ [160, 161, 128, 129, 41, 130, 43, 193] (by decide +kernel) (by decide +kernel)
set_option maxRecDepth 20000 in
theorem gX8_gather_X0_addTo : GoodIn wsX8_gather (wsV RX8 205 RX0 yX0_addTo wsX0_addTo) := goodIn_app (goodIn_of _ (by decide +kernel)) ggX8_gather_X0_addTo
set_option maxRecDepth 20000 in
theorem ggX8_gather_X5_called : GoodIn wsX8_gather wsX5_called := goodIn_r _ [165, 166, 173, 174, 175] (by decide +kernel) (by decide +kernel)
set_option maxRecDepth 20000 in
theorem gX8_gather_X5_called : GoodIn wsX8_gather (wsV RX8 129 RX5 yX5_called wsX5_called) := goodIn_app (goodIn_of _ (by decide +kernel)) ggX8_gather_X5_called
theorem dX8_gather_0 : decode cX8_gather 0 = .ok (.aload_n 0, 1) := by decide +kernel
theorem dX8_gather_1 : decode cX8_gather 1 = .ok (.getfield 36, 3) := by decide +kernel
theorem dX8_gather_4 : decode cX8_gather 4 = .ok (.iconst 0, 1) := by decide +kernel
theorem dX8_gather_5 : decode cX8_gather 5 = .ok (.invokestatic 199, 3) := by decide +kernel
theorem dX8_gather_8 : decode cX8_gather 8 = .ok (.aload_n 0, 1) := by decide +kernel
theorem dX8_gather_9 : decode cX8_gather 9 = .ok (.getfield 40, 3) := by decide +kernel
theorem dX8_gather_12 : decode cX8_gather 12 = .ok (.iconst 0, 1) := by decide +kernel
theorem dX8_gather_13 : decode cX8_gather 13 = .ok (.invokestatic 199, 3) := by decide +kernel
theorem dX8_gather_16 : decode cX8_gather 16 = .ok (.iconst 0, 1) := by decide +kernel
theorem dX8_gather_17 : decode cX8_gather 17 = .ok (.istore_n 2, 1) := by decide +kernel
theorem dX8_gather_18 : decode cX8_gather 18 = .ok (.iload_n 2, 1) := by decide +kernel
theorem dX8_gather_19 : decode cX8_gather 19 = .ok (.iconst 4, 1) := by decide +kernel
theorem dX8_gather_20 : decode cX8_gather 20 = .ok (.if_icmp .ge 57, 3) := by decide +kernel
theorem dX8_gather_23 : decode cX8_gather 23 = .ok (.iload_n 1, 1) := by decide +kernel
theorem dX8_gather_24 : decode cX8_gather 24 = .ok (.iload_n 2, 1) := by decide +kernel
theorem dX8_gather_25 : decode cX8_gather 25 = .ok (.invokestatic 145, 3) := by decide +kernel
theorem dX8_gather_28 : decode cX8_gather 28 = .ok (.ifCond .eq 43, 3) := by decide +kernel
theorem dX8_gather_31 : decode cX8_gather 31 = .ok (.aload_n 0, 1) := by decide +kernel
theorem dX8_gather_32 : decode cX8_gather 32 = .ok (.getfield 11, 3) := by decide +kernel
theorem dX8_gather_35 : decode cX8_gather 35 = .ok (.iload_n 2, 1) := by decide +kernel
theorem dX8_gather_36 : decode cX8_gather 36 = .ok (.aaload, 1) := by decide +kernel
theorem dX8_gather_37 : decode cX8_gather 37 = .ok (.invokevirtual 83, 3) := by decide +kernel
theorem dX8_gather_40 : decode cX8_gather 40 = .ok (.invokevirtual 87, 3) := by decide +kernel
theorem dX8_gather_43 : decode cX8_gather 43 = .ok (.invokevirtual 90, 3) := by decide +kernel
theorem dX8_gather_46 : decode cX8_gather 46 = .ok (.aload_n 0, 1) := by decide +kernel
theorem dX8_gather_47 : decode cX8_gather 47 = .ok (.getfield 36, 3) := by decide +kernel
theorem dX8_gather_50 : decode cX8_gather 50 = .ok (.iconst 1, 1) := by decide +kernel
theorem dX8_gather_51 : decode cX8_gather 51 = .ok (.invokevirtual 205, 3) := by decide +kernel
theorem dX8_gather_54 : decode cX8_gather 54 = .ok (.aload_n 0, 1) := by decide +kernel
theorem dX8_gather_55 : decode cX8_gather 55 = .ok (.getfield 11, 3) := by decide +kernel
theorem dX8_gather_58 : decode cX8_gather 58 = .ok (.iload_n 2, 1) := by decide +kernel
theorem dX8_gather_59 : decode cX8_gather 59 = .ok (.aaload, 1) := by decide +kernel
theorem dX8_gather_60 : decode cX8_gather 60 = .ok (.invokevirtual 129, 3) := by decide +kernel
theorem dX8_gather_63 : decode cX8_gather 63 = .ok (.aload_n 0, 1) := by decide +kernel
theorem dX8_gather_64 : decode cX8_gather 64 = .ok (.getfield 40, 3) := by decide +kernel
theorem dX8_gather_67 : decode cX8_gather 67 = .ok (.iconst 1, 1) := by decide +kernel
theorem dX8_gather_68 : decode cX8_gather 68 = .ok (.invokevirtual 205, 3) := by decide +kernel
theorem dX8_gather_71 : decode cX8_gather 71 = .ok (.iinc 2 1, 3) := by decide +kernel
theorem dX8_gather_74 : decode cX8_gather 74 = .ok (.goto (-56), 3) := by decide +kernel
theorem dX8_gather_77 : decode cX8_gather 77 = .ok (.return_, 1) := by decide +kernel
theorem dX8_isProgram_0 : decode cX8_isProgram 0 = .ok (.iload_n 0, 1) := by decide +kernel
theorem dX8_isProgram_1 : decode cX8_isProgram 1 = .ok (.ifCond .lt 12, 3) := by decide +kernel
theorem dX8_isProgram_4 : decode cX8_isProgram 4 = .ok (.iload_n 0, 1) := by decide +kernel
theorem dX8_isProgram_5 : decode cX8_isProgram 5 = .ok (.iconst 4, 1) := by decide +kernel
theorem dX8_isProgram_6 : decode cX8_isProgram 6 = .ok (.if_icmp .ge 7, 3) := by decide +kernel
theorem dX8_isProgram_9 : decode cX8_isProgram 9 = .ok (.iconst 1, 1) := by decide +kernel
theorem dX8_isProgram_10 : decode cX8_isProgram 10 = .ok (.goto 4, 3) := by decide +kernel
theorem dX8_isProgram_13 : decode cX8_isProgram 13 = .ok (.iconst 0, 1) := by decide +kernel
theorem dX8_isProgram_14 : decode cX8_isProgram 14 = .ok (.ireturn, 1) := by decide +kernel
theorem dX8_isSet_0 : decode cX8_isSet 0 = .ok (.iload_n 0, 1) := by decide +kernel
theorem dX8_isSet_1 : decode cX8_isSet 1 = .ok (.ifCond .lt 13, 3) := by decide +kernel
theorem dX8_isSet_4 : decode cX8_isSet 4 = .ok (.iload_n 0, 1) := by decide +kernel
theorem dX8_isSet_5 : decode cX8_isSet 5 = .ok (.bipush 16, 2) := by decide +kernel
theorem dX8_isSet_7 : decode cX8_isSet 7 = .ok (.if_icmp .ge 7, 3) := by decide +kernel
theorem dX8_isSet_10 : decode cX8_isSet 10 = .ok (.iconst 1, 1) := by decide +kernel
theorem dX8_isSet_11 : decode cX8_isSet 11 = .ok (.goto 4, 3) := by decide +kernel
theorem dX8_isSet_14 : decode cX8_isSet 14 = .ok (.iconst 0, 1) := by decide +kernel
theorem dX8_isSet_15 : decode cX8_isSet 15 = .ok (.ireturn, 1) := by decide +kernel
theorem dX8_isPhase_0 : decode cX8_isPhase 0 = .ok (.iload_n 0, 1) := by decide +kernel
theorem dX8_isPhase_1 : decode cX8_isPhase 1 = .ok (.ifCond .lt 12, 3) := by decide +kernel
theorem dX8_isPhase_4 : decode cX8_isPhase 4 = .ok (.iload_n 0, 1) := by decide +kernel
theorem dX8_isPhase_5 : decode cX8_isPhase 5 = .ok (.iconst 2, 1) := by decide +kernel
theorem dX8_isPhase_6 : decode cX8_isPhase 6 = .ok (.if_icmp .ge 7, 3) := by decide +kernel
theorem dX8_isPhase_9 : decode cX8_isPhase 9 = .ok (.iconst 1, 1) := by decide +kernel
theorem dX8_isPhase_10 : decode cX8_isPhase 10 = .ok (.goto 4, 3) := by decide +kernel
theorem dX8_isPhase_13 : decode cX8_isPhase 13 = .ok (.iconst 0, 1) := by decide +kernel
theorem dX8_isPhase_14 : decode cX8_isPhase 14 = .ok (.ireturn, 1) := by decide +kernel
theorem dX8_isValue_0 : decode cX8_isValue 0 = .ok (.iload_n 0, 1) := by decide +kernel
theorem dX8_isValue_1 : decode cX8_isValue 1 = .ok (.ifCond .lt 13, 3) := by decide +kernel
theorem dX8_isValue_4 : decode cX8_isValue 4 = .ok (.iload_n 0, 1) := by decide +kernel
theorem dX8_isValue_5 : decode cX8_isValue 5 = .ok (.bipush 32, 2) := by decide +kernel
theorem dX8_isValue_7 : decode cX8_isValue 7 = .ok (.if_icmp .ge 7, 3) := by decide +kernel
theorem dX8_isValue_10 : decode cX8_isValue 10 = .ok (.iconst 1, 1) := by decide +kernel
theorem dX8_isValue_11 : decode cX8_isValue 11 = .ok (.goto 4, 3) := by decide +kernel
theorem dX8_isValue_14 : decode cX8_isValue 14 = .ok (.iconst 0, 1) := by decide +kernel
theorem dX8_isValue_15 : decode cX8_isValue 15 = .ok (.ireturn, 1) := by decide +kernel
theorem dX8_isPower_0 : decode cX8_isPower 0 = .ok (.iload_n 0, 1) := by decide +kernel
theorem dX8_isPower_1 : decode cX8_isPower 1 = .ok (.ifCond .lt 13, 3) := by decide +kernel
theorem dX8_isPower_4 : decode cX8_isPower 4 = .ok (.iload_n 0, 1) := by decide +kernel
theorem dX8_isPower_5 : decode cX8_isPower 5 = .ok (.bipush 8, 2) := by decide +kernel
theorem dX8_isPower_7 : decode cX8_isPower 7 = .ok (.if_icmp .ge 7, 3) := by decide +kernel
theorem dX8_isPower_10 : decode cX8_isPower 10 = .ok (.iconst 1, 1) := by decide +kernel
theorem dX8_isPower_11 : decode cX8_isPower 11 = .ok (.goto 4, 3) := by decide +kernel
theorem dX8_isPower_14 : decode cX8_isPower 14 = .ok (.iconst 0, 1) := by decide +kernel
theorem dX8_isPower_15 : decode cX8_isPower 15 = .ok (.ireturn, 1) := by decide +kernel
theorem dX8_isPowers_0 : decode cX8_isPowers 0 = .ok (.iload_n 0, 1) := by decide +kernel
theorem dX8_isPowers_1 : decode cX8_isPowers 1 = .ok (.ifCond .lt 14, 3) := by decide +kernel
theorem dX8_isPowers_4 : decode cX8_isPowers 4 = .ok (.iload_n 0, 1) := by decide +kernel
theorem dX8_isPowers_5 : decode cX8_isPowers 5 = .ok (.sipush 256, 3) := by decide +kernel
theorem dX8_isPowers_8 : decode cX8_isPowers 8 = .ok (.if_icmp .ge 7, 3) := by decide +kernel
theorem dX8_isPowers_11 : decode cX8_isPowers 11 = .ok (.iconst 1, 1) := by decide +kernel
theorem dX8_isPowers_12 : decode cX8_isPowers 12 = .ok (.goto 4, 3) := by decide +kernel
theorem dX8_isPowers_15 : decode cX8_isPowers 15 = .ok (.iconst 0, 1) := by decide +kernel
theorem dX8_isPowers_16 : decode cX8_isPowers 16 = .ok (.ireturn, 1) := by decide +kernel
set_option maxRecDepth 20000 in
theorem ggX8_isInstruction_X8_isValue : GoodIn wsX8_isInstruction wsX8_isValue := goodIn_r _ [4] (by decide +kernel) (by decide +kernel)
set_option maxRecDepth 20000 in
theorem gX8_isInstruction_X8_isValue : GoodIn wsX8_isInstruction (va_wsS RX8 80 yX8_isValue wsX8_isValue) := goodIn_app (goodIn_of _ (by decide +kernel)) ggX8_isInstruction_X8_isValue
theorem dX8_isInstruction_0 : decode cX8_isInstruction 0 = .ok (.iload_n 0, 1) := by decide +kernel
theorem dX8_isInstruction_1 : decode cX8_isInstruction 1 = .ok (.ifCond .lt 39, 3) := by decide +kernel
theorem dX8_isInstruction_4 : decode cX8_isInstruction 4 = .ok (.iload_n 0, 1) := by decide +kernel
theorem dX8_isInstruction_5 : decode cX8_isInstruction 5 = .ok (.bipush 9, 2) := by decide +kernel
theorem dX8_isInstruction_7 : decode cX8_isInstruction 7 = .ok (.if_icmp .gt 33, 3) := by decide +kernel
theorem dX8_isInstruction_10 : decode cX8_isInstruction 10 = .ok (.iload_n 1, 1) := by decide +kernel
theorem dX8_isInstruction_11 : decode cX8_isInstruction 11 = .ok (.ifCond .lt 29, 3) := by decide +kernel
theorem dX8_isInstruction_14 : decode cX8_isInstruction 14 = .ok (.iload_n 1, 1) := by decide +kernel
theorem dX8_isInstruction_15 : decode cX8_isInstruction 15 = .ok (.iconst 2, 1) := by decide +kernel
theorem dX8_isInstruction_16 : decode cX8_isInstruction 16 = .ok (.if_icmp .ge 24, 3) := by decide +kernel
theorem dX8_isInstruction_19 : decode cX8_isInstruction 19 = .ok (.iload_n 2, 1) := by decide +kernel
theorem dX8_isInstruction_20 : decode cX8_isInstruction 20 = .ok (.invokestatic 80, 3) := by decide +kernel
theorem dX8_isInstruction_23 : decode cX8_isInstruction 23 = .ok (.ifCond .eq 17, 3) := by decide +kernel
theorem dX8_isInstruction_26 : decode cX8_isInstruction 26 = .ok (.iload_n 3, 1) := by decide +kernel
theorem dX8_isInstruction_27 : decode cX8_isInstruction 27 = .ok (.ifCond .lt 13, 3) := by decide +kernel
theorem dX8_isInstruction_30 : decode cX8_isInstruction 30 = .ok (.iload_n 3, 1) := by decide +kernel
theorem dX8_isInstruction_31 : decode cX8_isInstruction 31 = .ok (.bipush 24, 2) := by decide +kernel
theorem dX8_isInstruction_33 : decode cX8_isInstruction 33 = .ok (.if_icmp .gt 7, 3) := by decide +kernel
theorem dX8_isInstruction_36 : decode cX8_isInstruction 36 = .ok (.iconst 1, 1) := by decide +kernel
theorem dX8_isInstruction_37 : decode cX8_isInstruction 37 = .ok (.goto 4, 3) := by decide +kernel
theorem dX8_isInstruction_40 : decode cX8_isInstruction 40 = .ok (.iconst 0, 1) := by decide +kernel
theorem dX8_isInstruction_41 : decode cX8_isInstruction 41 = .ok (.ireturn, 1) := by decide +kernel
theorem dX8_holds_0 : decode cX8_holds 0 = .ok (.iload_n 0, 1) := by decide +kernel
theorem dX8_holds_1 : decode cX8_holds 1 = .ok (.iload_n 1, 1) := by decide +kernel
theorem dX8_holds_2 : decode cX8_holds 2 = .ok (.iushr, 1) := by decide +kernel
theorem dX8_holds_3 : decode cX8_holds 3 = .ok (.iconst 1, 1) := by decide +kernel
theorem dX8_holds_4 : decode cX8_holds 4 = .ok (.iand, 1) := by decide +kernel
theorem dX8_holds_5 : decode cX8_holds 5 = .ok (.ifCond .eq 7, 3) := by decide +kernel
theorem dX8_holds_8 : decode cX8_holds 8 = .ok (.iconst 1, 1) := by decide +kernel
theorem dX8_holds_9 : decode cX8_holds 9 = .ok (.goto 4, 3) := by decide +kernel
theorem dX8_holds_12 : decode cX8_holds 12 = .ok (.iconst 0, 1) := by decide +kernel
theorem dX8_holds_13 : decode cX8_holds 13 = .ok (.ireturn, 1) := by decide +kernel
theorem dX8_side_0 : decode cX8_side 0 = .ok (.iconst (-1), 1) := by decide +kernel
theorem dX8_side_1 : decode cX8_side 1 = .ok (.bipush 31, 2) := by decide +kernel
theorem dX8_side_3 : decode cX8_side 3 = .ok (.iload_n 1, 1) := by decide +kernel
theorem dX8_side_4 : decode cX8_side 4 = .ok (.iload_n 0, 1) := by decide +kernel
theorem dX8_side_5 : decode cX8_side 5 = .ok (.isub, 1) := by decide +kernel
theorem dX8_side_6 : decode cX8_side 6 = .ok (.isub, 1) := by decide +kernel
theorem dX8_side_7 : decode cX8_side 7 = .ok (.iushr, 1) := by decide +kernel
theorem dX8_side_8 : decode cX8_side 8 = .ok (.iload_n 0, 1) := by decide +kernel
theorem dX8_side_9 : decode cX8_side 9 = .ok (.ishl, 1) := by decide +kernel
theorem dX8_side_10 : decode cX8_side 10 = .ok (.ireturn, 1) := by decide +kernel
theorem dX9_init_0 : decode cX9_init 0 = .ok (.aload_n 0, 1) := by decide +kernel
theorem dX9_init_1 : decode cX9_init 1 = .ok (.invokespecial 1, 3) := by decide +kernel
theorem dX9_init_4 : decode cX9_init 4 = .ok (.aload_n 0, 1) := by decide +kernel
theorem dX9_init_5 : decode cX9_init 5 = .ok (.bipush 80, 2) := by decide +kernel
theorem dX9_init_7 : decode cX9_init 7 = .ok (.newarray .byte, 2) := by decide +kernel
theorem dX9_init_9 : decode cX9_init 9 = .ok (.putfield 7, 3) := by decide +kernel
theorem dX9_init_12 : decode cX9_init 12 = .ok (.aload_n 0, 1) := by decide +kernel
theorem dX9_init_13 : decode cX9_init 13 = .ok (.iconst (-1), 1) := by decide +kernel
theorem dX9_init_14 : decode cX9_init 14 = .ok (.putfield 13, 3) := by decide +kernel
theorem dX9_init_17 : decode cX9_init 17 = .ok (.aload_n 0, 1) := by decide +kernel
theorem dX9_init_18 : decode cX9_init 18 = .ok (.iconst 4, 1) := by decide +kernel
theorem dX9_init_19 : decode cX9_init 19 = .ok (.newarray .int, 2) := by decide +kernel
theorem dX9_init_21 : decode cX9_init 21 = .ok (.putfield 17, 3) := by decide +kernel
theorem dX9_init_24 : decode cX9_init 24 = .ok (.aload_n 0, 1) := by decide +kernel
theorem dX9_init_25 : decode cX9_init 25 = .ok (.bipush 96, 2) := by decide +kernel
theorem dX9_init_27 : decode cX9_init 27 = .ok (.newarray .int, 2) := by decide +kernel
theorem dX9_init_29 : decode cX9_init 29 = .ok (.putfield 21, 3) := by decide +kernel
theorem dX9_init_32 : decode cX9_init 32 = .ok (.aload_n 0, 1) := by decide +kernel
theorem dX9_init_33 : decode cX9_init 33 = .ok (.bipush 96, 2) := by decide +kernel
theorem dX9_init_35 : decode cX9_init 35 = .ok (.newarray .int, 2) := by decide +kernel
theorem dX9_init_37 : decode cX9_init 37 = .ok (.putfield 24, 3) := by decide +kernel
theorem dX9_init_40 : decode cX9_init 40 = .ok (.aload_n 0, 1) := by decide +kernel
theorem dX9_init_41 : decode cX9_init 41 = .ok (.bipush 96, 2) := by decide +kernel
theorem dX9_init_43 : decode cX9_init 43 = .ok (.newarray .int, 2) := by decide +kernel
theorem dX9_init_45 : decode cX9_init 45 = .ok (.putfield 27, 3) := by decide +kernel
theorem dX9_init_48 : decode cX9_init 48 = .ok (.aload_n 0, 1) := by decide +kernel
theorem dX9_init_49 : decode cX9_init 49 = .ok (.bipush 96, 2) := by decide +kernel
theorem dX9_init_51 : decode cX9_init 51 = .ok (.newarray .int, 2) := by decide +kernel
theorem dX9_init_53 : decode cX9_init 53 = .ok (.putfield 30, 3) := by decide +kernel
theorem dX9_init_56 : decode cX9_init 56 = .ok (.aload_n 0, 1) := by decide +kernel
theorem dX9_init_57 : decode cX9_init 57 = .ok (.sipush 256, 3) := by decide +kernel
theorem dX9_init_60 : decode cX9_init 60 = .ok (.newarray .int, 2) := by decide +kernel
theorem dX9_init_62 : decode cX9_init 62 = .ok (.putfield 33, 3) := by decide +kernel
theorem dX9_init_65 : decode cX9_init 65 = .ok (.aload_n 0, 1) := by decide +kernel
theorem dX9_init_66 : decode cX9_init 66 = .ok (.sipush 256, 3) := by decide +kernel
theorem dX9_init_69 : decode cX9_init 69 = .ok (.newarray .int, 2) := by decide +kernel
theorem dX9_init_71 : decode cX9_init 71 = .ok (.putfield 36, 3) := by decide +kernel
theorem dX9_init_74 : decode cX9_init 74 = .ok (.aload_n 0, 1) := by decide +kernel
theorem dX9_init_75 : decode cX9_init 75 = .ok (.iconst 4, 1) := by decide +kernel
theorem dX9_init_76 : decode cX9_init 76 = .ok (.newarray .int, 2) := by decide +kernel
theorem dX9_init_78 : decode cX9_init 78 = .ok (.putfield 39, 3) := by decide +kernel
theorem dX9_init_81 : decode cX9_init 81 = .ok (.aload_n 0, 1) := by decide +kernel
theorem dX9_init_82 : decode cX9_init 82 = .ok (.iconst 4, 1) := by decide +kernel
theorem dX9_init_83 : decode cX9_init 83 = .ok (.newarray .boolean, 2) := by decide +kernel
theorem dX9_init_85 : decode cX9_init 85 = .ok (.putfield 42, 3) := by decide +kernel
theorem dX9_init_88 : decode cX9_init 88 = .ok (.aload_n 0, 1) := by decide +kernel
theorem dX9_init_89 : decode cX9_init 89 = .ok (.bipush 10, 2) := by decide +kernel
theorem dX9_init_91 : decode cX9_init 91 = .ok (.newarray .int, 2) := by decide +kernel
theorem dX9_init_93 : decode cX9_init 93 = .ok (.putfield 46, 3) := by decide +kernel
theorem dX9_init_96 : decode cX9_init 96 = .ok (.aload_n 0, 1) := by decide +kernel
theorem dX9_init_97 : decode cX9_init 97 = .ok (.bipush 10, 2) := by decide +kernel
theorem dX9_init_99 : decode cX9_init 99 = .ok (.newarray .int, 2) := by decide +kernel
theorem dX9_init_101 : decode cX9_init 101 = .ok (.putfield 49, 3) := by decide +kernel
theorem dX9_init_104 : decode cX9_init 104 = .ok (.aload_n 0, 1) := by decide +kernel
theorem dX9_init_105 : decode cX9_init 105 = .ok (.bipush 10, 2) := by decide +kernel
theorem dX9_init_107 : decode cX9_init 107 = .ok (.newarray .int, 2) := by decide +kernel
theorem dX9_init_109 : decode cX9_init 109 = .ok (.putfield 52, 3) := by decide +kernel
theorem dX9_init_112 : decode cX9_init 112 = .ok (.aload_n 0, 1) := by decide +kernel
theorem dX9_init_113 : decode cX9_init 113 = .ok (.bipush 10, 2) := by decide +kernel
theorem dX9_init_115 : decode cX9_init 115 = .ok (.newarray .int, 2) := by decide +kernel
theorem dX9_init_117 : decode cX9_init 117 = .ok (.putfield 55, 3) := by decide +kernel
theorem dX9_init_120 : decode cX9_init 120 = .ok (.aload_n 0, 1) := by decide +kernel
theorem dX9_init_121 : decode cX9_init 121 = .ok (.bipush 10, 2) := by decide +kernel
theorem dX9_init_123 : decode cX9_init 123 = .ok (.newarray .int, 2) := by decide +kernel
theorem dX9_init_125 : decode cX9_init 125 = .ok (.putfield 58, 3) := by decide +kernel
theorem dX9_init_128 : decode cX9_init 128 = .ok (.aload_n 0, 1) := by decide +kernel
theorem dX9_init_129 : decode cX9_init 129 = .ok (.iconst (-1), 1) := by decide +kernel
theorem dX9_init_130 : decode cX9_init 130 = .ok (.putfield 61, 3) := by decide +kernel
theorem dX9_init_133 : decode cX9_init 133 = .ok (.aload_n 0, 1) := by decide +kernel
theorem dX9_init_134 : decode cX9_init 134 = .ok (.ldc 64, 2) := by decide +kernel
theorem dX9_init_136 : decode cX9_init 136 = .ok (.newarray .int, 2) := by decide +kernel
theorem dX9_init_138 : decode cX9_init 138 = .ok (.putfield 65, 3) := by decide +kernel
theorem dX9_init_141 : decode cX9_init 141 = .ok (.aload_n 0, 1) := by decide +kernel
theorem dX9_init_142 : decode cX9_init 142 = .ok (.ldc 64, 2) := by decide +kernel
theorem dX9_init_144 : decode cX9_init 144 = .ok (.newarray .int, 2) := by decide +kernel
theorem dX9_init_146 : decode cX9_init 146 = .ok (.putfield 68, 3) := by decide +kernel
theorem dX9_init_149 : decode cX9_init 149 = .ok (.aload_n 0, 1) := by decide +kernel
theorem dX9_init_150 : decode cX9_init 150 = .ok (.ldc 64, 2) := by decide +kernel
theorem dX9_init_152 : decode cX9_init 152 = .ok (.newarray .int, 2) := by decide +kernel
theorem dX9_init_154 : decode cX9_init 154 = .ok (.putfield 71, 3) := by decide +kernel
theorem dX9_init_157 : decode cX9_init 157 = .ok (.aload_n 0, 1) := by decide +kernel
theorem dX9_init_158 : decode cX9_init 158 = .ok (.ldc 64, 2) := by decide +kernel
theorem dX9_init_160 : decode cX9_init 160 = .ok (.newarray .int, 2) := by decide +kernel
theorem dX9_init_162 : decode cX9_init 162 = .ok (.putfield 74, 3) := by decide +kernel
theorem dX9_init_165 : decode cX9_init 165 = .ok (.aload_n 0, 1) := by decide +kernel
theorem dX9_init_166 : decode cX9_init 166 = .ok (.ldc 64, 2) := by decide +kernel
theorem dX9_init_168 : decode cX9_init 168 = .ok (.newarray .int, 2) := by decide +kernel
theorem dX9_init_170 : decode cX9_init 170 = .ok (.putfield 77, 3) := by decide +kernel
theorem dX9_init_173 : decode cX9_init 173 = .ok (.aload_n 0, 1) := by decide +kernel
theorem dX9_init_174 : decode cX9_init 174 = .ok (.iconst 2, 1) := by decide +kernel
theorem dX9_init_175 : decode cX9_init 175 = .ok (.newarray .int, 2) := by decide +kernel
theorem dX9_init_177 : decode cX9_init 177 = .ok (.putfield 80, 3) := by decide +kernel
theorem dX9_init_180 : decode cX9_init 180 = .ok (.aload_n 0, 1) := by decide +kernel
theorem dX9_init_181 : decode cX9_init 181 = .ok (.bipush 32, 2) := by decide +kernel
theorem dX9_init_183 : decode cX9_init 183 = .ok (.newarray .int, 2) := by decide +kernel
theorem dX9_init_185 : decode cX9_init 185 = .ok (.putfield 83, 3) := by decide +kernel
theorem dX9_init_188 : decode cX9_init 188 = .ok (.return_, 1) := by decide +kernel
theorem dX9_lies_0 : decode cX9_lies 0 = .ok (.iload_n 0, 1) := by decide +kernel
theorem dX9_lies_1 : decode cX9_lies 1 = .ok (.iload_n 1, 1) := by decide +kernel
theorem dX9_lies_2 : decode cX9_lies 2 = .ok (.if_icmp .lt 12, 3) := by decide +kernel
theorem dX9_lies_5 : decode cX9_lies 5 = .ok (.iload_n 0, 1) := by decide +kernel
theorem dX9_lies_6 : decode cX9_lies 6 = .ok (.iload_n 2, 1) := by decide +kernel
theorem dX9_lies_7 : decode cX9_lies 7 = .ok (.if_icmp .gt 7, 3) := by decide +kernel
theorem dX9_lies_10 : decode cX9_lies 10 = .ok (.iconst 1, 1) := by decide +kernel
theorem dX9_lies_11 : decode cX9_lies 11 = .ok (.goto 4, 3) := by decide +kernel
theorem dX9_lies_14 : decode cX9_lies 14 = .ok (.iconst 0, 1) := by decide +kernel
theorem dX9_lies_15 : decode cX9_lies 15 = .ok (.ireturn, 1) := by decide +kernel
set_option maxRecDepth 20000 in
theorem ggX9_isProgram_X9_lies : GoodIn wsX9_isProgram wsX9_lies := goodIn_r _ [4] (by decide +kernel) (by decide +kernel)
set_option maxRecDepth 20000 in
theorem gX9_isProgram_X9_lies : GoodIn wsX9_isProgram (va_wsS RX9 86 yX9_lies wsX9_lies) := goodIn_app (goodIn_of _ (by decide +kernel)) ggX9_isProgram_X9_lies
theorem dX9_isProgram_0 : decode cX9_isProgram 0 = .ok (.iload_n 0, 1) := by decide +kernel
theorem dX9_isProgram_1 : decode cX9_isProgram 1 = .ok (.iconst 0, 1) := by decide +kernel
theorem dX9_isProgram_2 : decode cX9_isProgram 2 = .ok (.iconst 3, 1) := by decide +kernel
theorem dX9_isProgram_3 : decode cX9_isProgram 3 = .ok (.invokestatic 86, 3) := by decide +kernel
theorem dX9_isProgram_6 : decode cX9_isProgram 6 = .ok (.ireturn, 1) := by decide +kernel
set_option maxRecDepth 20000 in
theorem ggX9_isGood_X9_lies : GoodIn wsX9_isGood wsX9_lies := goodIn_r _ [4] (by decide +kernel) (by decide +kernel)
set_option maxRecDepth 20000 in
theorem gX9_isGood_X9_lies : GoodIn wsX9_isGood (va_wsS RX9 86 yX9_lies wsX9_lies) := goodIn_app (goodIn_of _ (by decide +kernel)) ggX9_isGood_X9_lies
theorem dX9_isGood_0 : decode cX9_isGood 0 = .ok (.iload_n 0, 1) := by decide +kernel
theorem dX9_isGood_1 : decode cX9_isGood 1 = .ok (.iconst 0, 1) := by decide +kernel
theorem dX9_isGood_2 : decode cX9_isGood 2 = .ok (.bipush 9, 2) := by decide +kernel
theorem dX9_isGood_4 : decode cX9_isGood 4 = .ok (.invokestatic 86, 3) := by decide +kernel
theorem dX9_isGood_7 : decode cX9_isGood 7 = .ok (.ifCond .eq 36, 3) := by decide +kernel
theorem dX9_isGood_10 : decode cX9_isGood 10 = .ok (.iload_n 1, 1) := by decide +kernel
theorem dX9_isGood_11 : decode cX9_isGood 11 = .ok (.iconst 0, 1) := by decide +kernel
theorem dX9_isGood_12 : decode cX9_isGood 12 = .ok (.iconst 1, 1) := by decide +kernel
theorem dX9_isGood_13 : decode cX9_isGood 13 = .ok (.invokestatic 86, 3) := by decide +kernel
theorem dX9_isGood_16 : decode cX9_isGood 16 = .ok (.ifCond .eq 27, 3) := by decide +kernel
theorem dX9_isGood_19 : decode cX9_isGood 19 = .ok (.iload_n 2, 1) := by decide +kernel
theorem dX9_isGood_20 : decode cX9_isGood 20 = .ok (.iconst 0, 1) := by decide +kernel
theorem dX9_isGood_21 : decode cX9_isGood 21 = .ok (.bipush 31, 2) := by decide +kernel
theorem dX9_isGood_23 : decode cX9_isGood 23 = .ok (.invokestatic 86, 3) := by decide +kernel
theorem dX9_isGood_26 : decode cX9_isGood 26 = .ok (.ifCond .eq 17, 3) := by decide +kernel
theorem dX9_isGood_29 : decode cX9_isGood 29 = .ok (.iload_n 3, 1) := by decide +kernel
theorem dX9_isGood_30 : decode cX9_isGood 30 = .ok (.iconst 0, 1) := by decide +kernel
theorem dX9_isGood_31 : decode cX9_isGood 31 = .ok (.bipush 24, 2) := by decide +kernel
theorem dX9_isGood_33 : decode cX9_isGood 33 = .ok (.invokestatic 86, 3) := by decide +kernel
theorem dX9_isGood_36 : decode cX9_isGood 36 = .ok (.ifCond .eq 7, 3) := by decide +kernel
theorem dX9_isGood_39 : decode cX9_isGood 39 = .ok (.iconst 1, 1) := by decide +kernel
theorem dX9_isGood_40 : decode cX9_isGood 40 = .ok (.goto 4, 3) := by decide +kernel
theorem dX9_isGood_43 : decode cX9_isGood 43 = .ok (.iconst 0, 1) := by decide +kernel
theorem dX9_isGood_44 : decode cX9_isGood 44 = .ok (.ireturn, 1) := by decide +kernel
theorem dX9_puts_0 : decode cX9_puts 0 = .ok (.aload_n 0, 1) := by decide +kernel
theorem dX9_puts_1 : decode cX9_puts 1 = .ok (.getfield 21, 3) := by decide +kernel
theorem dX9_puts_4 : decode cX9_puts 4 = .ok (.iload_n 1, 1) := by decide +kernel
theorem dX9_puts_5 : decode cX9_puts 5 = .ok (.iload_n 2, 1) := by decide +kernel
theorem dX9_puts_6 : decode cX9_puts 6 = .ok (.iastore, 1) := by decide +kernel
theorem dX9_puts_7 : decode cX9_puts 7 = .ok (.aload_n 0, 1) := by decide +kernel
theorem dX9_puts_8 : decode cX9_puts 8 = .ok (.getfield 24, 3) := by decide +kernel
theorem dX9_puts_11 : decode cX9_puts 11 = .ok (.iload_n 1, 1) := by decide +kernel
theorem dX9_puts_12 : decode cX9_puts 12 = .ok (.iload_n 3, 1) := by decide +kernel
theorem dX9_puts_13 : decode cX9_puts 13 = .ok (.iastore, 1) := by decide +kernel
theorem dX9_puts_14 : decode cX9_puts 14 = .ok (.aload_n 0, 1) := by decide +kernel
theorem dX9_puts_15 : decode cX9_puts 15 = .ok (.getfield 27, 3) := by decide +kernel
theorem dX9_puts_18 : decode cX9_puts 18 = .ok (.iload_n 1, 1) := by decide +kernel
theorem dX9_puts_19 : decode cX9_puts 19 = .ok (.iload 4, 2) := by decide +kernel
theorem dX9_puts_21 : decode cX9_puts 21 = .ok (.iastore, 1) := by decide +kernel
theorem dX9_puts_22 : decode cX9_puts 22 = .ok (.aload_n 0, 1) := by decide +kernel
theorem dX9_puts_23 : decode cX9_puts 23 = .ok (.getfield 30, 3) := by decide +kernel
theorem dX9_puts_26 : decode cX9_puts 26 = .ok (.iload_n 1, 1) := by decide +kernel
theorem dX9_puts_27 : decode cX9_puts 27 = .ok (.iload 5, 2) := by decide +kernel
theorem dX9_puts_29 : decode cX9_puts 29 = .ok (.iastore, 1) := by decide +kernel
theorem dX9_puts_30 : decode cX9_puts 30 = .ok (.return_, 1) := by decide +kernel
theorem dX9_changes_0 : decode cX9_changes 0 = .ok (.aload_n 0, 1) := by decide +kernel
theorem dX9_changes_1 : decode cX9_changes 1 = .ok (.getfield 42, 3) := by decide +kernel
theorem dX9_changes_4 : decode cX9_changes 4 = .ok (.iload_n 1, 1) := by decide +kernel
theorem dX9_changes_5 : decode cX9_changes 5 = .ok (.iconst 0, 1) := by decide +kernel
theorem dX9_changes_6 : decode cX9_changes 6 = .ok (.bastore, 1) := by decide +kernel
theorem dX9_changes_7 : decode cX9_changes 7 = .ok (.aload_n 0, 1) := by decide +kernel
theorem dX9_changes_8 : decode cX9_changes 8 = .ok (.aload_n 0, 1) := by decide +kernel
theorem dX9_changes_9 : decode cX9_changes 9 = .ok (.getfield 61, 3) := by decide +kernel
theorem dX9_changes_12 : decode cX9_changes 12 = .ok (.iload_n 1, 1) := by decide +kernel
theorem dX9_changes_13 : decode cX9_changes 13 = .ok (.if_icmp .ne 7, 3) := by decide +kernel
theorem dX9_changes_16 : decode cX9_changes 16 = .ok (.iconst (-1), 1) := by decide +kernel
theorem dX9_changes_17 : decode cX9_changes 17 = .ok (.goto 7, 3) := by decide +kernel
theorem dX9_changes_20 : decode cX9_changes 20 = .ok (.aload_n 0, 1) := by decide +kernel
theorem dX9_changes_21 : decode cX9_changes 21 = .ok (.getfield 61, 3) := by decide +kernel
theorem dX9_changes_24 : decode cX9_changes 24 = .ok (.putfield 61, 3) := by decide +kernel
theorem dX9_changes_27 : decode cX9_changes 27 = .ok (.return_, 1) := by decide +kernel
set_option maxRecDepth 20000 in
theorem ggX9_code_X9_isProgram : GoodIn wsX9_code wsX9_isProgram := goodIn_r _ [5, 6, 7, 4, 8] (by decide +kernel) (by decide +kernel)
set_option maxRecDepth 20000 in
theorem gX9_code_X9_isProgram : GoodIn wsX9_code (va_wsS RX9 90 yX9_isProgram wsX9_isProgram) := goodIn_app (goodIn_of _ (by decide +kernel)) ggX9_code_X9_isProgram
set_option maxRecDepth 20000 in
theorem ggX9_code_X9_isGood : GoodIn wsX9_code wsX9_isGood := goodIn_r _ [11, 6, 7, 4, 8] (by decide +kernel) (by decide +kernel)
set_option maxRecDepth 20000 in
theorem gX9_code_X9_isGood : GoodIn wsX9_code (va_wsS RX9 94 yX9_isGood wsX9_isGood) := goodIn_app (goodIn_of _ (by decide +kernel)) ggX9_code_X9_isGood
set_option maxRecDepth 20000 in
theorem ggX9_code_X9_puts : GoodIn wsX9_code wsX9_puts := goodIn_r _ [15, 16, 17, 18, 19, 26, 27, 28, 29, 30, 31, 32, 33, 34, 35, 36, 37, 38, 39, 40, 41, 42, 43, 44, 45, 46, 47, 48, 49, 50, 51, 52, 53, 54, 55, 56, 57, 58] (by decide +kernel) (by decide +kernel)
set_option maxRecDepth 20000 in
theorem gX9_code_X9_puts : GoodIn wsX9_code (wsV RX9 98 RX9 yX9_puts wsX9_puts) := goodIn_app (goodIn_of _ (by decide +kernel)) ggX9_code_X9_puts
set_option maxRecDepth 20000 in
theorem ggX9_code_X9_changes : GoodIn wsX9_code wsX9_changes := goodIn_r _ [23, 24, 25, 26, 27, 28, 29, 30, 31, 32, 33, 34, 35, 36, 37, 38, 39, 40, 41, 42, 43, 44, 45, 46, 47, 48, 49, 50, 51, 52, 53, 54, 55, 56, 57, 58] (by decide +kernel) (by decide +kernel)
set_option maxRecDepth 20000 in
theorem gX9_code_X9_changes : GoodIn wsX9_code (wsV RX9 102 RX9 yX9_changes wsX9_changes) := goodIn_app (goodIn_of _ (by decide +kernel)) ggX9_code_X9_changes
theorem dX9_code_0 : decode cX9_code 0 = .ok (.iload_n 1, 1) := by decide +kernel
theorem dX9_code_1 : decode cX9_code 1 = .ok (.invokestatic 90, 3) := by decide +kernel
theorem dX9_code_4 : decode cX9_code 4 = .ok (.ifCond .eq 26, 3) := by decide +kernel
theorem dX9_code_7 : decode cX9_code 7 = .ok (.aload_n 0, 1) := by decide +kernel
theorem dX9_code_8 : decode cX9_code 8 = .ok (.getfield 17, 3) := by decide +kernel
theorem dX9_code_11 : decode cX9_code 11 = .ok (.iload_n 1, 1) := by decide +kernel
theorem dX9_code_12 : decode cX9_code 12 = .ok (.iaload, 1) := by decide +kernel
theorem dX9_code_13 : decode cX9_code 13 = .ok (.bipush 24, 2) := by decide +kernel
theorem dX9_code_15 : decode cX9_code 15 = .ok (.if_icmp .eq 15, 3) := by decide +kernel
theorem dX9_code_18 : decode cX9_code 18 = .ok (.iload_n 2, 1) := by decide +kernel
theorem dX9_code_19 : decode cX9_code 19 = .ok (.iload_n 3, 1) := by decide +kernel
theorem dX9_code_20 : decode cX9_code 20 = .ok (.iload 4, 2) := by decide +kernel
theorem dX9_code_22 : decode cX9_code 22 = .ok (.iload 5, 2) := by decide +kernel
theorem dX9_code_24 : decode cX9_code 24 = .ok (.invokestatic 94, 3) := by decide +kernel
theorem dX9_code_27 : decode cX9_code 27 = .ok (.ifCond .ne 5, 3) := by decide +kernel
theorem dX9_code_30 : decode cX9_code 30 = .ok (.iconst (-1), 1) := by decide +kernel
theorem dX9_code_31 : decode cX9_code 31 = .ok (.ireturn, 1) := by decide +kernel
theorem dX9_code_32 : decode cX9_code 32 = .ok (.aload_n 0, 1) := by decide +kernel
theorem dX9_code_33 : decode cX9_code 33 = .ok (.bipush 24, 2) := by decide +kernel
theorem dX9_code_35 : decode cX9_code 35 = .ok (.iload_n 1, 1) := by decide +kernel
theorem dX9_code_36 : decode cX9_code 36 = .ok (.imul, 1) := by decide +kernel
theorem dX9_code_37 : decode cX9_code 37 = .ok (.aload_n 0, 1) := by decide +kernel
theorem dX9_code_38 : decode cX9_code 38 = .ok (.getfield 17, 3) := by decide +kernel
theorem dX9_code_41 : decode cX9_code 41 = .ok (.iload_n 1, 1) := by decide +kernel
theorem dX9_code_42 : decode cX9_code 42 = .ok (.iaload, 1) := by decide +kernel
theorem dX9_code_43 : decode cX9_code 43 = .ok (.iadd, 1) := by decide +kernel
theorem dX9_code_44 : decode cX9_code 44 = .ok (.iload_n 2, 1) := by decide +kernel
theorem dX9_code_45 : decode cX9_code 45 = .ok (.iload_n 3, 1) := by decide +kernel
theorem dX9_code_46 : decode cX9_code 46 = .ok (.iload 4, 2) := by decide +kernel
theorem dX9_code_48 : decode cX9_code 48 = .ok (.iload 5, 2) := by decide +kernel
theorem dX9_code_50 : decode cX9_code 50 = .ok (.invokevirtual 98, 3) := by decide +kernel
theorem dX9_code_53 : decode cX9_code 53 = .ok (.aload_n 0, 1) := by decide +kernel
theorem dX9_code_54 : decode cX9_code 54 = .ok (.getfield 17, 3) := by decide +kernel
theorem dX9_code_57 : decode cX9_code 57 = .ok (.iload_n 1, 1) := by decide +kernel
theorem dX9_code_58 : decode cX9_code 58 = .ok (.dup2, 1) := by decide +kernel
theorem dX9_code_59 : decode cX9_code 59 = .ok (.iaload, 1) := by decide +kernel
theorem dX9_code_60 : decode cX9_code 60 = .ok (.iconst 1, 1) := by decide +kernel
theorem dX9_code_61 : decode cX9_code 61 = .ok (.iadd, 1) := by decide +kernel
theorem dX9_code_62 : decode cX9_code 62 = .ok (.iastore, 1) := by decide +kernel
theorem dX9_code_63 : decode cX9_code 63 = .ok (.aload_n 0, 1) := by decide +kernel
theorem dX9_code_64 : decode cX9_code 64 = .ok (.iload_n 1, 1) := by decide +kernel
theorem dX9_code_65 : decode cX9_code 65 = .ok (.invokevirtual 102, 3) := by decide +kernel
theorem dX9_code_68 : decode cX9_code 68 = .ok (.aload_n 0, 1) := by decide +kernel
theorem dX9_code_69 : decode cX9_code 69 = .ok (.getfield 17, 3) := by decide +kernel
theorem dX9_code_72 : decode cX9_code 72 = .ok (.iload_n 1, 1) := by decide +kernel
theorem dX9_code_73 : decode cX9_code 73 = .ok (.iaload, 1) := by decide +kernel
theorem dX9_code_74 : decode cX9_code 74 = .ok (.iconst 1, 1) := by decide +kernel
theorem dX9_code_75 : decode cX9_code 75 = .ok (.isub, 1) := by decide +kernel
theorem dX9_code_76 : decode cX9_code 76 = .ok (.ireturn, 1) := by decide +kernel
set_option maxRecDepth 20000 in
theorem ggX9_change_X9_isProgram : GoodIn wsX9_change wsX9_isProgram := goodIn_r _ [5, 6, 7, 4, 8] (by decide +kernel) (by decide +kernel)
set_option maxRecDepth 20000 in
theorem gX9_change_X9_isProgram : GoodIn wsX9_change (va_wsS RX9 90 yX9_isProgram wsX9_isProgram) := goodIn_app (goodIn_of _ (by decide +kernel)) ggX9_change_X9_isProgram
set_option maxRecDepth 20000 in
theorem ggX9_change_X9_lies : GoodIn wsX9_change wsX9_lies := goodIn_r _ [8] (by decide +kernel) (by decide +kernel)
set_option maxRecDepth 20000 in
theorem gX9_change_X9_lies : GoodIn wsX9_change (va_wsS RX9 86 yX9_lies wsX9_lies) := goodIn_app (goodIn_of _ (by decide +kernel)) ggX9_change_X9_lies
set_option maxRecDepth 20000 in
theorem ggX9_change_X9_isGood : GoodIn wsX9_change wsX9_isGood := goodIn_r _ [11, 6, 7, 4, 8] (by decide +kernel) (by decide +kernel)
set_option maxRecDepth 20000 in
theorem gX9_change_X9_isGood : GoodIn wsX9_change (va_wsS RX9 94 yX9_isGood wsX9_isGood) := goodIn_app (goodIn_of _ (by decide +kernel)) ggX9_change_X9_isGood
set_option maxRecDepth 20000 in
theorem ggX9_change_X9_puts : GoodIn wsX9_change wsX9_puts := goodIn_r _ [15, 16, 17, 18, 19, 26, 27, 28, 29, 30, 31, 32, 33, 34, 35, 36, 37, 38, 39, 40, 41, 42, 43, 44, 45, 46, 47, 48, 49, 50, 51, 52, 53, 54, 55, 56, 57, 58] (by decide +kernel) (by decide +kernel)
set_option maxRecDepth 20000 in
theorem gX9_change_X9_puts : GoodIn wsX9_change (wsV RX9 98 RX9 yX9_puts wsX9_puts) := goodIn_app (goodIn_of _ (by decide +kernel)) ggX9_change_X9_puts
set_option maxRecDepth 20000 in
theorem ggX9_change_X9_changes : GoodIn wsX9_change wsX9_changes := goodIn_r _ [23, 24, 25, 26, 27, 28, 29, 30, 31, 32, 33, 34, 35, 36, 37, 38, 39, 40, 41, 42, 43, 44, 45, 46, 47, 48, 49, 50, 51, 52, 53, 54, 55, 56, 57, 58] (by decide +kernel) (by decide +kernel)
set_option maxRecDepth 20000 in
theorem gX9_change_X9_changes : GoodIn wsX9_change (wsV RX9 102 RX9 yX9_changes wsX9_changes) := goodIn_app (goodIn_of _ (by decide +kernel)) ggX9_change_X9_changes
theorem dX9_change_0 : decode cX9_change 0 = .ok (.iload_n 1, 1) := by decide +kernel
theorem dX9_change_1 : decode cX9_change 1 = .ok (.invokestatic 90, 3) := by decide +kernel
theorem dX9_change_4 : decode cX9_change 4 = .ok (.ifCond .eq 32, 3) := by decide +kernel
theorem dX9_change_7 : decode cX9_change 7 = .ok (.iload_n 2, 1) := by decide +kernel
theorem dX9_change_8 : decode cX9_change 8 = .ok (.iconst 0, 1) := by decide +kernel
theorem dX9_change_9 : decode cX9_change 9 = .ok (.aload_n 0, 1) := by decide +kernel
theorem dX9_change_10 : decode cX9_change 10 = .ok (.getfield 17, 3) := by decide +kernel
theorem dX9_change_13 : decode cX9_change 13 = .ok (.iload_n 1, 1) := by decide +kernel
theorem dX9_change_14 : decode cX9_change 14 = .ok (.iaload, 1) := by decide +kernel
theorem dX9_change_15 : decode cX9_change 15 = .ok (.iconst 1, 1) := by decide +kernel
theorem dX9_change_16 : decode cX9_change 16 = .ok (.isub, 1) := by decide +kernel
theorem dX9_change_17 : decode cX9_change 17 = .ok (.invokestatic 86, 3) := by decide +kernel
theorem dX9_change_20 : decode cX9_change 20 = .ok (.ifCond .eq 16, 3) := by decide +kernel
theorem dX9_change_23 : decode cX9_change 23 = .ok (.iload_n 3, 1) := by decide +kernel
theorem dX9_change_24 : decode cX9_change 24 = .ok (.iload 4, 2) := by decide +kernel
theorem dX9_change_26 : decode cX9_change 26 = .ok (.iload 5, 2) := by decide +kernel
theorem dX9_change_28 : decode cX9_change 28 = .ok (.iload 6, 2) := by decide +kernel
theorem dX9_change_30 : decode cX9_change 30 = .ok (.invokestatic 94, 3) := by decide +kernel
theorem dX9_change_33 : decode cX9_change 33 = .ok (.ifCond .ne 5, 3) := by decide +kernel
theorem dX9_change_36 : decode cX9_change 36 = .ok (.iconst 0, 1) := by decide +kernel
theorem dX9_change_37 : decode cX9_change 37 = .ok (.ireturn, 1) := by decide +kernel
theorem dX9_change_38 : decode cX9_change 38 = .ok (.aload_n 0, 1) := by decide +kernel
theorem dX9_change_39 : decode cX9_change 39 = .ok (.bipush 24, 2) := by decide +kernel
theorem dX9_change_41 : decode cX9_change 41 = .ok (.iload_n 1, 1) := by decide +kernel
theorem dX9_change_42 : decode cX9_change 42 = .ok (.imul, 1) := by decide +kernel
theorem dX9_change_43 : decode cX9_change 43 = .ok (.iload_n 2, 1) := by decide +kernel
theorem dX9_change_44 : decode cX9_change 44 = .ok (.iadd, 1) := by decide +kernel
theorem dX9_change_45 : decode cX9_change 45 = .ok (.iload_n 3, 1) := by decide +kernel
theorem dX9_change_46 : decode cX9_change 46 = .ok (.iload 4, 2) := by decide +kernel
theorem dX9_change_48 : decode cX9_change 48 = .ok (.iload 5, 2) := by decide +kernel
theorem dX9_change_50 : decode cX9_change 50 = .ok (.iload 6, 2) := by decide +kernel
theorem dX9_change_52 : decode cX9_change 52 = .ok (.invokevirtual 98, 3) := by decide +kernel
theorem dX9_change_55 : decode cX9_change 55 = .ok (.aload_n 0, 1) := by decide +kernel
theorem dX9_change_56 : decode cX9_change 56 = .ok (.iload_n 1, 1) := by decide +kernel
theorem dX9_change_57 : decode cX9_change 57 = .ok (.invokevirtual 102, 3) := by decide +kernel
theorem dX9_change_60 : decode cX9_change 60 = .ok (.iconst 1, 1) := by decide +kernel
theorem dX9_change_61 : decode cX9_change 61 = .ok (.ireturn, 1) := by decide +kernel
set_option maxRecDepth 20000 in
theorem ggX9_copy_X9_isProgram : GoodIn wsX9_copy wsX9_isProgram := goodIn_r _ [9, 10, 11, 8, 12] (by decide +kernel) (by decide +kernel)
set_option maxRecDepth 20000 in
theorem gX9_copy_X9_isProgram : GoodIn wsX9_copy (va_wsS RX9 90 yX9_isProgram wsX9_isProgram) := goodIn_app (goodIn_of _ (by decide +kernel)) ggX9_copy_X9_isProgram
set_option maxRecDepth 20000 in
theorem ggX9_copy_X9_puts : GoodIn wsX9_copy wsX9_puts := goodIn_r _ [16, 2, 3, 4, 5, 23, 24, 25, 26, 27, 28, 29, 30, 31, 32, 33, 34, 35, 36, 37, 38, 39, 40, 41, 42, 43, 44, 45, 46, 47, 48, 49, 50, 51, 52, 53, 54, 55] (by decide +kernel) (by decide +kernel)
set_option maxRecDepth 20000 in
theorem gX9_copy_X9_puts : GoodIn wsX9_copy (wsV RX9 98 RX9 yX9_puts wsX9_puts) := goodIn_app (goodIn_of _ (by decide +kernel)) ggX9_copy_X9_puts
set_option maxRecDepth 20000 in
theorem ggX9_copy_X9_changes : GoodIn wsX9_copy wsX9_changes := goodIn_r _ [20, 21, 22, 23, 24, 25, 26, 27, 28, 29, 30, 31, 32, 33, 34, 35, 36, 37, 38, 39, 40, 41, 42, 43, 44, 45, 46, 47, 48, 49, 50, 51, 52, 53, 54, 55] (by decide +kernel) (by decide +kernel)
set_option maxRecDepth 20000 in
theorem gX9_copy_X9_changes : GoodIn wsX9_copy (wsV RX9 102 RX9 yX9_changes wsX9_changes) := goodIn_app (goodIn_of _ (by decide +kernel)) ggX9_copy_X9_changes
theorem dX9_copy_0 : decode cX9_copy 0 = .ok (.iload_n 1, 1) := by decide +kernel
theorem dX9_copy_1 : decode cX9_copy 1 = .ok (.invokestatic 90, 3) := by decide +kernel
theorem dX9_copy_4 : decode cX9_copy 4 = .ok (.ifCond .eq 15, 3) := by decide +kernel
theorem dX9_copy_7 : decode cX9_copy 7 = .ok (.iload_n 2, 1) := by decide +kernel
theorem dX9_copy_8 : decode cX9_copy 8 = .ok (.invokestatic 90, 3) := by decide +kernel
theorem dX9_copy_11 : decode cX9_copy 11 = .ok (.ifCond .eq 8, 3) := by decide +kernel
theorem dX9_copy_14 : decode cX9_copy 14 = .ok (.iload_n 1, 1) := by decide +kernel
theorem dX9_copy_15 : decode cX9_copy 15 = .ok (.iload_n 2, 1) := by decide +kernel
theorem dX9_copy_16 : decode cX9_copy 16 = .ok (.if_icmp .ne 5, 3) := by decide +kernel
theorem dX9_copy_19 : decode cX9_copy 19 = .ok (.iconst 0, 1) := by decide +kernel
theorem dX9_copy_20 : decode cX9_copy 20 = .ok (.ireturn, 1) := by decide +kernel
theorem dX9_copy_21 : decode cX9_copy 21 = .ok (.iconst 0, 1) := by decide +kernel
theorem dX9_copy_22 : decode cX9_copy 22 = .ok (.istore_n 3, 1) := by decide +kernel
theorem dX9_copy_23 : decode cX9_copy 23 = .ok (.iload_n 3, 1) := by decide +kernel
theorem dX9_copy_24 : decode cX9_copy 24 = .ok (.aload_n 0, 1) := by decide +kernel
theorem dX9_copy_25 : decode cX9_copy 25 = .ok (.getfield 17, 3) := by decide +kernel
theorem dX9_copy_28 : decode cX9_copy 28 = .ok (.iload_n 2, 1) := by decide +kernel
theorem dX9_copy_29 : decode cX9_copy 29 = .ok (.iaload, 1) := by decide +kernel
theorem dX9_copy_30 : decode cX9_copy 30 = .ok (.if_icmp .ge 63, 3) := by decide +kernel
theorem dX9_copy_33 : decode cX9_copy 33 = .ok (.aload_n 0, 1) := by decide +kernel
theorem dX9_copy_34 : decode cX9_copy 34 = .ok (.bipush 24, 2) := by decide +kernel
theorem dX9_copy_36 : decode cX9_copy 36 = .ok (.iload_n 1, 1) := by decide +kernel
theorem dX9_copy_37 : decode cX9_copy 37 = .ok (.imul, 1) := by decide +kernel
theorem dX9_copy_38 : decode cX9_copy 38 = .ok (.iload_n 3, 1) := by decide +kernel
theorem dX9_copy_39 : decode cX9_copy 39 = .ok (.iadd, 1) := by decide +kernel
theorem dX9_copy_40 : decode cX9_copy 40 = .ok (.aload_n 0, 1) := by decide +kernel
theorem dX9_copy_41 : decode cX9_copy 41 = .ok (.getfield 21, 3) := by decide +kernel
theorem dX9_copy_44 : decode cX9_copy 44 = .ok (.bipush 24, 2) := by decide +kernel
theorem dX9_copy_46 : decode cX9_copy 46 = .ok (.iload_n 2, 1) := by decide +kernel
theorem dX9_copy_47 : decode cX9_copy 47 = .ok (.imul, 1) := by decide +kernel
theorem dX9_copy_48 : decode cX9_copy 48 = .ok (.iload_n 3, 1) := by decide +kernel
theorem dX9_copy_49 : decode cX9_copy 49 = .ok (.iadd, 1) := by decide +kernel
theorem dX9_copy_50 : decode cX9_copy 50 = .ok (.iaload, 1) := by decide +kernel
theorem dX9_copy_51 : decode cX9_copy 51 = .ok (.aload_n 0, 1) := by decide +kernel
theorem dX9_copy_52 : decode cX9_copy 52 = .ok (.getfield 24, 3) := by decide +kernel
theorem dX9_copy_55 : decode cX9_copy 55 = .ok (.bipush 24, 2) := by decide +kernel
theorem dX9_copy_57 : decode cX9_copy 57 = .ok (.iload_n 2, 1) := by decide +kernel
theorem dX9_copy_58 : decode cX9_copy 58 = .ok (.imul, 1) := by decide +kernel
theorem dX9_copy_59 : decode cX9_copy 59 = .ok (.iload_n 3, 1) := by decide +kernel
theorem dX9_copy_60 : decode cX9_copy 60 = .ok (.iadd, 1) := by decide +kernel
theorem dX9_copy_61 : decode cX9_copy 61 = .ok (.iaload, 1) := by decide +kernel
theorem dX9_copy_62 : decode cX9_copy 62 = .ok (.aload_n 0, 1) := by decide +kernel
theorem dX9_copy_63 : decode cX9_copy 63 = .ok (.getfield 27, 3) := by decide +kernel
theorem dX9_copy_66 : decode cX9_copy 66 = .ok (.bipush 24, 2) := by decide +kernel
theorem dX9_copy_68 : decode cX9_copy 68 = .ok (.iload_n 2, 1) := by decide +kernel
theorem dX9_copy_69 : decode cX9_copy 69 = .ok (.imul, 1) := by decide +kernel
theorem dX9_copy_70 : decode cX9_copy 70 = .ok (.iload_n 3, 1) := by decide +kernel
theorem dX9_copy_71 : decode cX9_copy 71 = .ok (.iadd, 1) := by decide +kernel
theorem dX9_copy_72 : decode cX9_copy 72 = .ok (.iaload, 1) := by decide +kernel
theorem dX9_copy_73 : decode cX9_copy 73 = .ok (.aload_n 0, 1) := by decide +kernel
theorem dX9_copy_74 : decode cX9_copy 74 = .ok (.getfield 30, 3) := by decide +kernel
theorem dX9_copy_77 : decode cX9_copy 77 = .ok (.bipush 24, 2) := by decide +kernel
theorem dX9_copy_79 : decode cX9_copy 79 = .ok (.iload_n 2, 1) := by decide +kernel
theorem dX9_copy_80 : decode cX9_copy 80 = .ok (.imul, 1) := by decide +kernel
theorem dX9_copy_81 : decode cX9_copy 81 = .ok (.iload_n 3, 1) := by decide +kernel
theorem dX9_copy_82 : decode cX9_copy 82 = .ok (.iadd, 1) := by decide +kernel
theorem dX9_copy_83 : decode cX9_copy 83 = .ok (.iaload, 1) := by decide +kernel
theorem dX9_copy_84 : decode cX9_copy 84 = .ok (.invokevirtual 98, 3) := by decide +kernel
theorem dX9_copy_87 : decode cX9_copy 87 = .ok (.iinc 3 1, 3) := by decide +kernel
theorem dX9_copy_90 : decode cX9_copy 90 = .ok (.goto (-67), 3) := by decide +kernel
theorem dX9_copy_93 : decode cX9_copy 93 = .ok (.aload_n 0, 1) := by decide +kernel
theorem dX9_copy_94 : decode cX9_copy 94 = .ok (.getfield 17, 3) := by decide +kernel
theorem dX9_copy_97 : decode cX9_copy 97 = .ok (.iload_n 1, 1) := by decide +kernel
theorem dX9_copy_98 : decode cX9_copy 98 = .ok (.aload_n 0, 1) := by decide +kernel
theorem dX9_copy_99 : decode cX9_copy 99 = .ok (.getfield 17, 3) := by decide +kernel
theorem dX9_copy_102 : decode cX9_copy 102 = .ok (.iload_n 2, 1) := by decide +kernel
theorem dX9_copy_103 : decode cX9_copy 103 = .ok (.iaload, 1) := by decide +kernel
theorem dX9_copy_104 : decode cX9_copy 104 = .ok (.iastore, 1) := by decide +kernel
theorem dX9_copy_105 : decode cX9_copy 105 = .ok (.aload_n 0, 1) := by decide +kernel
theorem dX9_copy_106 : decode cX9_copy 106 = .ok (.iload_n 1, 1) := by decide +kernel
theorem dX9_copy_107 : decode cX9_copy 107 = .ok (.invokevirtual 102, 3) := by decide +kernel
theorem dX9_copy_110 : decode cX9_copy 110 = .ok (.iconst 1, 1) := by decide +kernel
theorem dX9_copy_111 : decode cX9_copy 111 = .ok (.ireturn, 1) := by decide +kernel
theorem dX9_stateOf_0 : decode cX9_stateOf 0 = .ok (.sipush 2048, 3) := by decide +kernel
theorem dX9_stateOf_3 : decode cX9_stateOf 3 = .ok (.iload_n 0, 1) := by decide +kernel
theorem dX9_stateOf_4 : decode cX9_stateOf 4 = .ok (.imul, 1) := by decide +kernel
theorem dX9_stateOf_5 : decode cX9_stateOf 5 = .ok (.sipush 1024, 3) := by decide +kernel
theorem dX9_stateOf_8 : decode cX9_stateOf 8 = .ok (.iload_n 1, 1) := by decide +kernel
theorem dX9_stateOf_9 : decode cX9_stateOf 9 = .ok (.imul, 1) := by decide +kernel
theorem dX9_stateOf_10 : decode cX9_stateOf 10 = .ok (.iadd, 1) := by decide +kernel
theorem dX9_stateOf_11 : decode cX9_stateOf 11 = .ok (.bipush 32, 2) := by decide +kernel
theorem dX9_stateOf_13 : decode cX9_stateOf 13 = .ok (.iload_n 2, 1) := by decide +kernel
theorem dX9_stateOf_14 : decode cX9_stateOf 14 = .ok (.imul, 1) := by decide +kernel
theorem dX9_stateOf_15 : decode cX9_stateOf 15 = .ok (.iadd, 1) := by decide +kernel
theorem dX9_stateOf_16 : decode cX9_stateOf 16 = .ok (.iload_n 3, 1) := by decide +kernel
theorem dX9_stateOf_17 : decode cX9_stateOf 17 = .ok (.iadd, 1) := by decide +kernel
theorem dX9_stateOf_18 : decode cX9_stateOf 18 = .ok (.ireturn, 1) := by decide +kernel
theorem dX9_endOf_0 : decode cX9_endOf 0 = .ok (.iload_n 2, 1) := by decide +kernel
theorem dX9_endOf_1 : decode cX9_endOf 1 = .ok (.aload_n 0, 1) := by decide +kernel
theorem dX9_endOf_2 : decode cX9_endOf 2 = .ok (.getfield 17, 3) := by decide +kernel
theorem dX9_endOf_5 : decode cX9_endOf 5 = .ok (.iload_n 1, 1) := by decide +kernel
theorem dX9_endOf_6 : decode cX9_endOf 6 = .ok (.iaload, 1) := by decide +kernel
theorem dX9_endOf_7 : decode cX9_endOf 7 = .ok (.if_icmp .ge 7, 3) := by decide +kernel
theorem dX9_endOf_10 : decode cX9_endOf 10 = .ok (.iload_n 2, 1) := by decide +kernel
theorem dX9_endOf_11 : decode cX9_endOf 11 = .ok (.goto 5, 3) := by decide +kernel
theorem dX9_endOf_14 : decode cX9_endOf 14 = .ok (.bipush 24, 2) := by decide +kernel
theorem dX9_endOf_16 : decode cX9_endOf 16 = .ok (.ireturn, 1) := by decide +kernel
theorem dX9_finds_0 : decode cX9_finds 0 = .ok (.aload_n 0, 1) := by decide +kernel
theorem dX9_finds_1 : decode cX9_finds 1 = .ok (.getfield 71, 3) := by decide +kernel
theorem dX9_finds_4 : decode cX9_finds 4 = .ok (.iload_n 1, 1) := by decide +kernel
theorem dX9_finds_5 : decode cX9_finds 5 = .ok (.iaload, 1) := by decide +kernel
theorem dX9_finds_6 : decode cX9_finds 6 = .ok (.iconst (-1), 1) := by decide +kernel
theorem dX9_finds_7 : decode cX9_finds 7 = .ok (.if_icmp .eq 4, 3) := by decide +kernel
theorem dX9_finds_10 : decode cX9_finds 10 = .ok (.return_, 1) := by decide +kernel
theorem dX9_finds_11 : decode cX9_finds 11 = .ok (.aload_n 0, 1) := by decide +kernel
theorem dX9_finds_12 : decode cX9_finds 12 = .ok (.getfield 71, 3) := by decide +kernel
theorem dX9_finds_15 : decode cX9_finds 15 = .ok (.iload_n 1, 1) := by decide +kernel
theorem dX9_finds_16 : decode cX9_finds 16 = .ok (.aload_n 0, 1) := by decide +kernel
theorem dX9_finds_17 : decode cX9_finds 17 = .ok (.getfield 71, 3) := by decide +kernel
theorem dX9_finds_20 : decode cX9_finds 20 = .ok (.iload_n 2, 1) := by decide +kernel
theorem dX9_finds_21 : decode cX9_finds 21 = .ok (.iaload, 1) := by decide +kernel
theorem dX9_finds_22 : decode cX9_finds 22 = .ok (.iconst 1, 1) := by decide +kernel
theorem dX9_finds_23 : decode cX9_finds 23 = .ok (.iadd, 1) := by decide +kernel
theorem dX9_finds_24 : decode cX9_finds 24 = .ok (.iastore, 1) := by decide +kernel
theorem dX9_finds_25 : decode cX9_finds 25 = .ok (.aload_n 0, 1) := by decide +kernel
theorem dX9_finds_26 : decode cX9_finds 26 = .ok (.getfield 68, 3) := by decide +kernel
theorem dX9_finds_29 : decode cX9_finds 29 = .ok (.iload_n 1, 1) := by decide +kernel
theorem dX9_finds_30 : decode cX9_finds 30 = .ok (.iload_n 2, 1) := by decide +kernel
theorem dX9_finds_31 : decode cX9_finds 31 = .ok (.iastore, 1) := by decide +kernel
theorem dX9_finds_32 : decode cX9_finds 32 = .ok (.aload_n 0, 1) := by decide +kernel
theorem dX9_finds_33 : decode cX9_finds 33 = .ok (.getfield 77, 3) := by decide +kernel
theorem dX9_finds_36 : decode cX9_finds 36 = .ok (.aload_n 0, 1) := by decide +kernel
theorem dX9_finds_37 : decode cX9_finds 37 = .ok (.getfield 106, 3) := by decide +kernel
theorem dX9_finds_40 : decode cX9_finds 40 = .ok (.iload_n 1, 1) := by decide +kernel
theorem dX9_finds_41 : decode cX9_finds 41 = .ok (.iastore, 1) := by decide +kernel
theorem dX9_finds_42 : decode cX9_finds 42 = .ok (.aload_n 0, 1) := by decide +kernel
theorem dX9_finds_43 : decode cX9_finds 43 = .ok (.dup, 1) := by decide +kernel
theorem dX9_finds_44 : decode cX9_finds 44 = .ok (.getfield 106, 3) := by decide +kernel
theorem dX9_finds_47 : decode cX9_finds 47 = .ok (.iconst 1, 1) := by decide +kernel
theorem dX9_finds_48 : decode cX9_finds 48 = .ok (.iadd, 1) := by decide +kernel
theorem dX9_finds_49 : decode cX9_finds 49 = .ok (.putfield 106, 3) := by decide +kernel
theorem dX9_finds_52 : decode cX9_finds 52 = .ok (.return_, 1) := by decide +kernel
set_option maxRecDepth 20000 in
theorem ggX9_with_X9_stateOf : GoodIn wsX9_with wsX9_stateOf := goodIn_r _ [4] (by decide +kernel) (by decide +kernel)
set_option maxRecDepth 20000 in
theorem gX9_with_X9_stateOf : GoodIn wsX9_with (va_wsS RX9 109 yX9_stateOf wsX9_stateOf) := goodIn_app (goodIn_of _ (by decide +kernel)) ggX9_with_X9_stateOf
theorem dX9_with_0 : decode cX9_with 0 = .ok (.iload 4, 2) := by decide +kernel
theorem dX9_with_2 : decode cX9_with 2 = .ok (.ifCond .ne 14, 3) := by decide +kernel
theorem dX9_with_5 : decode cX9_with 5 = .ok (.iload_n 3, 1) := by decide +kernel
theorem dX9_with_6 : decode cX9_with 6 = .ok (.iload_n 0, 1) := by decide +kernel
theorem dX9_with_7 : decode cX9_with 7 = .ok (.iload 5, 2) := by decide +kernel
theorem dX9_with_9 : decode cX9_with 9 = .ok (.iload_n 2, 1) := by decide +kernel
theorem dX9_with_10 : decode cX9_with 10 = .ok (.invokestatic 109, 3) := by decide +kernel
theorem dX9_with_13 : decode cX9_with 13 = .ok (.goto 11, 3) := by decide +kernel
theorem dX9_with_16 : decode cX9_with 16 = .ok (.iload_n 3, 1) := by decide +kernel
theorem dX9_with_17 : decode cX9_with 17 = .ok (.iload_n 0, 1) := by decide +kernel
theorem dX9_with_18 : decode cX9_with 18 = .ok (.iload_n 1, 1) := by decide +kernel
theorem dX9_with_19 : decode cX9_with 19 = .ok (.iload 5, 2) := by decide +kernel
theorem dX9_with_21 : decode cX9_with 21 = .ok (.invokestatic 109, 3) := by decide +kernel
theorem dX9_with_24 : decode cX9_with 24 = .ok (.ireturn, 1) := by decide +kernel
set_option maxRecDepth 20000 in
theorem ggX9_goesOn_X9_endOf : GoodIn wsX9_goesOn wsX9_endOf := goodIn_r _ [11, 1, 26, 27, 28, 29, 30, 31, 32, 33, 34, 35, 36, 37, 38, 39, 40, 41, 42, 43, 44, 45, 46, 47, 48, 49, 50, 51, 52, 53, 54, 55, 56, 57, 58] (by decide +kernel) (by decide +kernel)
set_option maxRecDepth 20000 in
theorem gX9_goesOn_X9_endOf : GoodIn wsX9_goesOn (wsV RX9 113 RX9 yX9_endOf wsX9_endOf) := goodIn_app (goodIn_of _ (by decide +kernel)) ggX9_goesOn_X9_endOf
set_option maxRecDepth 20000 in
theorem ggX9_goesOn_X9_with : GoodIn wsX9_goesOn wsX9_with := goodIn_r _ [14, 15, 16, 10, 17] (by decide +kernel) (by decide +kernel)
set_option maxRecDepth 20000 in
theorem gX9_goesOn_X9_with : GoodIn wsX9_goesOn (va_wsS RX9 117 yX9_with wsX9_with) := goodIn_app (goodIn_of _ (by decide +kernel)) ggX9_goesOn_X9_with
set_option maxRecDepth 20000 in
theorem ggX9_goesOn_X9_finds : GoodIn wsX9_goesOn wsX9_finds := goodIn_r _ [21, 22, 23, 24, 25, 26, 27, 28, 29, 30, 31, 32, 33, 34, 35, 36, 37, 38, 39, 40, 41, 42, 43, 44, 45, 46, 47, 48, 49, 50, 51, 52, 53, 54, 55, 56, 57, 58] (by decide +kernel) (by decide +kernel)
set_option maxRecDepth 20000 in
theorem gX9_goesOn_X9_finds : GoodIn wsX9_goesOn (wsV RX9 121 RX9 yX9_finds wsX9_finds) := goodIn_app (goodIn_of _ (by decide +kernel)) ggX9_goesOn_X9_finds
set_option maxRecDepth 20000 in
theorem ggX9_goesOn_X9_stateOf : GoodIn wsX9_goesOn wsX9_stateOf := goodIn_r _ [17] (by decide +kernel) (by decide +kernel)
set_option maxRecDepth 20000 in
theorem gX9_goesOn_X9_stateOf : GoodIn wsX9_goesOn (va_wsS RX9 109 yX9_stateOf wsX9_stateOf) := goodIn_app (goodIn_of _ (by decide +kernel)) ggX9_goesOn_X9_stateOf
theorem dX9_goesOn_0 : decode cX9_goesOn 0 = .ok (.iload_n 2, 1) := by decide +kernel
theorem dX9_goesOn_1 : decode cX9_goesOn 1 = .ok (.sipush 2048, 3) := by decide +kernel
theorem dX9_goesOn_4 : decode cX9_goesOn 4 = .ok (.idiv, 1) := by decide +kernel
theorem dX9_goesOn_5 : decode cX9_goesOn 5 = .ok (.istore_n 3, 1) := by decide +kernel
theorem dX9_goesOn_6 : decode cX9_goesOn 6 = .ok (.iload_n 3, 1) := by decide +kernel
theorem dX9_goesOn_7 : decode cX9_goesOn 7 = .ok (.aload_n 0, 1) := by decide +kernel
theorem dX9_goesOn_8 : decode cX9_goesOn 8 = .ok (.getfield 17, 3) := by decide +kernel
theorem dX9_goesOn_11 : decode cX9_goesOn 11 = .ok (.iload_n 1, 1) := by decide +kernel
theorem dX9_goesOn_12 : decode cX9_goesOn 12 = .ok (.iaload, 1) := by decide +kernel
theorem dX9_goesOn_13 : decode cX9_goesOn 13 = .ok (.if_icmp .lt 4, 3) := by decide +kernel
theorem dX9_goesOn_16 : decode cX9_goesOn 16 = .ok (.return_, 1) := by decide +kernel
theorem dX9_goesOn_17 : decode cX9_goesOn 17 = .ok (.iload_n 2, 1) := by decide +kernel
theorem dX9_goesOn_18 : decode cX9_goesOn 18 = .ok (.sipush 1024, 3) := by decide +kernel
theorem dX9_goesOn_21 : decode cX9_goesOn 21 = .ok (.idiv, 1) := by decide +kernel
theorem dX9_goesOn_22 : decode cX9_goesOn 22 = .ok (.iconst 2, 1) := by decide +kernel
theorem dX9_goesOn_23 : decode cX9_goesOn 23 = .ok (.irem, 1) := by decide +kernel
theorem dX9_goesOn_24 : decode cX9_goesOn 24 = .ok (.istore 4, 2) := by decide +kernel
theorem dX9_goesOn_26 : decode cX9_goesOn 26 = .ok (.iload_n 2, 1) := by decide +kernel
theorem dX9_goesOn_27 : decode cX9_goesOn 27 = .ok (.bipush 32, 2) := by decide +kernel
theorem dX9_goesOn_29 : decode cX9_goesOn 29 = .ok (.idiv, 1) := by decide +kernel
theorem dX9_goesOn_30 : decode cX9_goesOn 30 = .ok (.bipush 32, 2) := by decide +kernel
theorem dX9_goesOn_32 : decode cX9_goesOn 32 = .ok (.irem, 1) := by decide +kernel
theorem dX9_goesOn_33 : decode cX9_goesOn 33 = .ok (.istore 5, 2) := by decide +kernel
theorem dX9_goesOn_35 : decode cX9_goesOn 35 = .ok (.iload_n 2, 1) := by decide +kernel
theorem dX9_goesOn_36 : decode cX9_goesOn 36 = .ok (.bipush 32, 2) := by decide +kernel
theorem dX9_goesOn_38 : decode cX9_goesOn 38 = .ok (.irem, 1) := by decide +kernel
theorem dX9_goesOn_39 : decode cX9_goesOn 39 = .ok (.istore 6, 2) := by decide +kernel
theorem dX9_goesOn_41 : decode cX9_goesOn 41 = .ok (.bipush 24, 2) := by decide +kernel
theorem dX9_goesOn_43 : decode cX9_goesOn 43 = .ok (.iload_n 1, 1) := by decide +kernel
theorem dX9_goesOn_44 : decode cX9_goesOn 44 = .ok (.imul, 1) := by decide +kernel
theorem dX9_goesOn_45 : decode cX9_goesOn 45 = .ok (.iload_n 3, 1) := by decide +kernel
theorem dX9_goesOn_46 : decode cX9_goesOn 46 = .ok (.iadd, 1) := by decide +kernel
theorem dX9_goesOn_47 : decode cX9_goesOn 47 = .ok (.istore 7, 2) := by decide +kernel
theorem dX9_goesOn_49 : decode cX9_goesOn 49 = .ok (.aload_n 0, 1) := by decide +kernel
theorem dX9_goesOn_50 : decode cX9_goesOn 50 = .ok (.iload_n 1, 1) := by decide +kernel
theorem dX9_goesOn_51 : decode cX9_goesOn 51 = .ok (.iload_n 3, 1) := by decide +kernel
theorem dX9_goesOn_52 : decode cX9_goesOn 52 = .ok (.iconst 1, 1) := by decide +kernel
theorem dX9_goesOn_53 : decode cX9_goesOn 53 = .ok (.iadd, 1) := by decide +kernel
theorem dX9_goesOn_54 : decode cX9_goesOn 54 = .ok (.invokevirtual 113, 3) := by decide +kernel
theorem dX9_goesOn_57 : decode cX9_goesOn 57 = .ok (.istore 8, 2) := by decide +kernel
theorem dX9_goesOn_59 : decode cX9_goesOn 59 = .ok (.aload_n 0, 1) := by decide +kernel
theorem dX9_goesOn_60 : decode cX9_goesOn 60 = .ok (.getfield 24, 3) := by decide +kernel
theorem dX9_goesOn_63 : decode cX9_goesOn 63 = .ok (.iload 7, 2) := by decide +kernel
theorem dX9_goesOn_65 : decode cX9_goesOn 65 = .ok (.iaload, 1) := by decide +kernel
theorem dX9_goesOn_66 : decode cX9_goesOn 66 = .ok (.ifCond .ne 8, 3) := by decide +kernel
theorem dX9_goesOn_69 : decode cX9_goesOn 69 = .ok (.iload 5, 2) := by decide +kernel
theorem dX9_goesOn_71 : decode cX9_goesOn 71 = .ok (.goto 5, 3) := by decide +kernel
theorem dX9_goesOn_74 : decode cX9_goesOn 74 = .ok (.iload 6, 2) := by decide +kernel
theorem dX9_goesOn_76 : decode cX9_goesOn 76 = .ok (.istore 9, 2) := by decide +kernel
theorem dX9_goesOn_78 : decode cX9_goesOn 78 = .ok (.aload_n 0, 1) := by decide +kernel
theorem dX9_goesOn_79 : decode cX9_goesOn 79 = .ok (.getfield 21, 3) := by decide +kernel
theorem dX9_goesOn_82 : decode cX9_goesOn 82 = .ok (.iload 7, 2) := by decide +kernel
theorem dX9_goesOn_84 : decode cX9_goesOn 84 = .ok (.iaload, 1) := by decide +kernel
theorem dX9_goesOn_85 : decode cX9_goesOn 85 = .ok (.tableswitch 383 0 8 #[51, 84, 123, 166, 210, 246, 292, 321, 365], 51) := by decide +kernel
theorem dX9_goesOn_136 : decode cX9_goesOn 136 = .ok (.aload_n 0, 1) := by decide +kernel
theorem dX9_goesOn_137 : decode cX9_goesOn 137 = .ok (.iload 4, 2) := by decide +kernel
theorem dX9_goesOn_139 : decode cX9_goesOn 139 = .ok (.iload 5, 2) := by decide +kernel
theorem dX9_goesOn_141 : decode cX9_goesOn 141 = .ok (.iload 6, 2) := by decide +kernel
theorem dX9_goesOn_143 : decode cX9_goesOn 143 = .ok (.iload 8, 2) := by decide +kernel
theorem dX9_goesOn_145 : decode cX9_goesOn 145 = .ok (.aload_n 0, 1) := by decide +kernel
theorem dX9_goesOn_146 : decode cX9_goesOn 146 = .ok (.getfield 24, 3) := by decide +kernel
theorem dX9_goesOn_149 : decode cX9_goesOn 149 = .ok (.iload 7, 2) := by decide +kernel
theorem dX9_goesOn_151 : decode cX9_goesOn 151 = .ok (.iaload, 1) := by decide +kernel
theorem dX9_goesOn_152 : decode cX9_goesOn 152 = .ok (.aload_n 0, 1) := by decide +kernel
theorem dX9_goesOn_153 : decode cX9_goesOn 153 = .ok (.getfield 27, 3) := by decide +kernel
theorem dX9_goesOn_156 : decode cX9_goesOn 156 = .ok (.iload 7, 2) := by decide +kernel
theorem dX9_goesOn_158 : decode cX9_goesOn 158 = .ok (.iaload, 1) := by decide +kernel
theorem dX9_goesOn_159 : decode cX9_goesOn 159 = .ok (.invokestatic 117, 3) := by decide +kernel
theorem dX9_goesOn_162 : decode cX9_goesOn 162 = .ok (.iload_n 2, 1) := by decide +kernel
theorem dX9_goesOn_163 : decode cX9_goesOn 163 = .ok (.invokevirtual 121, 3) := by decide +kernel
theorem dX9_goesOn_166 : decode cX9_goesOn 166 = .ok (.goto 302, 3) := by decide +kernel
theorem dX9_goesOn_169 : decode cX9_goesOn 169 = .ok (.aload_n 0, 1) := by decide +kernel
theorem dX9_goesOn_170 : decode cX9_goesOn 170 = .ok (.iload 4, 2) := by decide +kernel
theorem dX9_goesOn_172 : decode cX9_goesOn 172 = .ok (.iload 5, 2) := by decide +kernel
theorem dX9_goesOn_174 : decode cX9_goesOn 174 = .ok (.iload 6, 2) := by decide +kernel
theorem dX9_goesOn_176 : decode cX9_goesOn 176 = .ok (.iload 8, 2) := by decide +kernel
theorem dX9_goesOn_178 : decode cX9_goesOn 178 = .ok (.aload_n 0, 1) := by decide +kernel
theorem dX9_goesOn_179 : decode cX9_goesOn 179 = .ok (.getfield 24, 3) := by decide +kernel
theorem dX9_goesOn_182 : decode cX9_goesOn 182 = .ok (.iload 7, 2) := by decide +kernel
theorem dX9_goesOn_184 : decode cX9_goesOn 184 = .ok (.iaload, 1) := by decide +kernel
theorem dX9_goesOn_185 : decode cX9_goesOn 185 = .ok (.iload 9, 2) := by decide +kernel
theorem dX9_goesOn_187 : decode cX9_goesOn 187 = .ok (.aload_n 0, 1) := by decide +kernel
theorem dX9_goesOn_188 : decode cX9_goesOn 188 = .ok (.getfield 27, 3) := by decide +kernel
theorem dX9_goesOn_191 : decode cX9_goesOn 191 = .ok (.iload 7, 2) := by decide +kernel
theorem dX9_goesOn_193 : decode cX9_goesOn 193 = .ok (.iaload, 1) := by decide +kernel
theorem dX9_goesOn_194 : decode cX9_goesOn 194 = .ok (.iadd, 1) := by decide +kernel
theorem dX9_goesOn_195 : decode cX9_goesOn 195 = .ok (.bipush 32, 2) := by decide +kernel
theorem dX9_goesOn_197 : decode cX9_goesOn 197 = .ok (.irem, 1) := by decide +kernel
theorem dX9_goesOn_198 : decode cX9_goesOn 198 = .ok (.invokestatic 117, 3) := by decide +kernel
theorem dX9_goesOn_201 : decode cX9_goesOn 201 = .ok (.iload_n 2, 1) := by decide +kernel
theorem dX9_goesOn_202 : decode cX9_goesOn 202 = .ok (.invokevirtual 121, 3) := by decide +kernel
theorem dX9_goesOn_205 : decode cX9_goesOn 205 = .ok (.goto 263, 3) := by decide +kernel
theorem dX9_goesOn_208 : decode cX9_goesOn 208 = .ok (.aload_n 0, 1) := by decide +kernel
theorem dX9_goesOn_209 : decode cX9_goesOn 209 = .ok (.iload 4, 2) := by decide +kernel
theorem dX9_goesOn_211 : decode cX9_goesOn 211 = .ok (.iload 5, 2) := by decide +kernel
theorem dX9_goesOn_213 : decode cX9_goesOn 213 = .ok (.iload 6, 2) := by decide +kernel
theorem dX9_goesOn_215 : decode cX9_goesOn 215 = .ok (.iload 8, 2) := by decide +kernel
theorem dX9_goesOn_217 : decode cX9_goesOn 217 = .ok (.aload_n 0, 1) := by decide +kernel
theorem dX9_goesOn_218 : decode cX9_goesOn 218 = .ok (.getfield 24, 3) := by decide +kernel
theorem dX9_goesOn_221 : decode cX9_goesOn 221 = .ok (.iload 7, 2) := by decide +kernel
theorem dX9_goesOn_223 : decode cX9_goesOn 223 = .ok (.iaload, 1) := by decide +kernel
theorem dX9_goesOn_224 : decode cX9_goesOn 224 = .ok (.aload_n 0, 1) := by decide +kernel
theorem dX9_goesOn_225 : decode cX9_goesOn 225 = .ok (.getfield 24, 3) := by decide +kernel
theorem dX9_goesOn_228 : decode cX9_goesOn 228 = .ok (.iload 7, 2) := by decide +kernel
theorem dX9_goesOn_230 : decode cX9_goesOn 230 = .ok (.iaload, 1) := by decide +kernel
theorem dX9_goesOn_231 : decode cX9_goesOn 231 = .ok (.ifCond .ne 8, 3) := by decide +kernel
theorem dX9_goesOn_234 : decode cX9_goesOn 234 = .ok (.iload 6, 2) := by decide +kernel
theorem dX9_goesOn_236 : decode cX9_goesOn 236 = .ok (.goto 5, 3) := by decide +kernel
theorem dX9_goesOn_239 : decode cX9_goesOn 239 = .ok (.iload 5, 2) := by decide +kernel
theorem dX9_goesOn_241 : decode cX9_goesOn 241 = .ok (.invokestatic 117, 3) := by decide +kernel
theorem dX9_goesOn_244 : decode cX9_goesOn 244 = .ok (.iload_n 2, 1) := by decide +kernel
theorem dX9_goesOn_245 : decode cX9_goesOn 245 = .ok (.invokevirtual 121, 3) := by decide +kernel
theorem dX9_goesOn_248 : decode cX9_goesOn 248 = .ok (.goto 220, 3) := by decide +kernel
theorem dX9_goesOn_251 : decode cX9_goesOn 251 = .ok (.iconst 0, 1) := by decide +kernel
theorem dX9_goesOn_252 : decode cX9_goesOn 252 = .ok (.istore 10, 2) := by decide +kernel
theorem dX9_goesOn_254 : decode cX9_goesOn 254 = .ok (.iload 10, 2) := by decide +kernel
theorem dX9_goesOn_256 : decode cX9_goesOn 256 = .ok (.bipush 32, 2) := by decide +kernel
theorem dX9_goesOn_258 : decode cX9_goesOn 258 = .ok (.if_icmp .ge 34, 3) := by decide +kernel
theorem dX9_goesOn_261 : decode cX9_goesOn 261 = .ok (.aload_n 0, 1) := by decide +kernel
theorem dX9_goesOn_262 : decode cX9_goesOn 262 = .ok (.iload 4, 2) := by decide +kernel
theorem dX9_goesOn_264 : decode cX9_goesOn 264 = .ok (.iload 5, 2) := by decide +kernel
theorem dX9_goesOn_266 : decode cX9_goesOn 266 = .ok (.iload 6, 2) := by decide +kernel
theorem dX9_goesOn_268 : decode cX9_goesOn 268 = .ok (.iload 8, 2) := by decide +kernel
theorem dX9_goesOn_270 : decode cX9_goesOn 270 = .ok (.aload_n 0, 1) := by decide +kernel
theorem dX9_goesOn_271 : decode cX9_goesOn 271 = .ok (.getfield 24, 3) := by decide +kernel
theorem dX9_goesOn_274 : decode cX9_goesOn 274 = .ok (.iload 7, 2) := by decide +kernel
theorem dX9_goesOn_276 : decode cX9_goesOn 276 = .ok (.iaload, 1) := by decide +kernel
theorem dX9_goesOn_277 : decode cX9_goesOn 277 = .ok (.iload 10, 2) := by decide +kernel
theorem dX9_goesOn_279 : decode cX9_goesOn 279 = .ok (.invokestatic 117, 3) := by decide +kernel
theorem dX9_goesOn_282 : decode cX9_goesOn 282 = .ok (.iload_n 2, 1) := by decide +kernel
theorem dX9_goesOn_283 : decode cX9_goesOn 283 = .ok (.invokevirtual 121, 3) := by decide +kernel
theorem dX9_goesOn_286 : decode cX9_goesOn 286 = .ok (.iinc 10 1, 3) := by decide +kernel
theorem dX9_goesOn_289 : decode cX9_goesOn 289 = .ok (.goto (-35), 3) := by decide +kernel
theorem dX9_goesOn_292 : decode cX9_goesOn 292 = .ok (.goto 176, 3) := by decide +kernel
theorem dX9_goesOn_295 : decode cX9_goesOn 295 = .ok (.aload_n 0, 1) := by decide +kernel
theorem dX9_goesOn_296 : decode cX9_goesOn 296 = .ok (.iload 4, 2) := by decide +kernel
theorem dX9_goesOn_298 : decode cX9_goesOn 298 = .ok (.iload 5, 2) := by decide +kernel
theorem dX9_goesOn_300 : decode cX9_goesOn 300 = .ok (.iload 6, 2) := by decide +kernel
theorem dX9_goesOn_302 : decode cX9_goesOn 302 = .ok (.iload 8, 2) := by decide +kernel
theorem dX9_goesOn_304 : decode cX9_goesOn 304 = .ok (.aload_n 0, 1) := by decide +kernel
theorem dX9_goesOn_305 : decode cX9_goesOn 305 = .ok (.getfield 24, 3) := by decide +kernel
theorem dX9_goesOn_308 : decode cX9_goesOn 308 = .ok (.iload 7, 2) := by decide +kernel
theorem dX9_goesOn_310 : decode cX9_goesOn 310 = .ok (.iaload, 1) := by decide +kernel
theorem dX9_goesOn_311 : decode cX9_goesOn 311 = .ok (.iload 9, 2) := by decide +kernel
theorem dX9_goesOn_313 : decode cX9_goesOn 313 = .ok (.aload_n 0, 1) := by decide +kernel
theorem dX9_goesOn_314 : decode cX9_goesOn 314 = .ok (.getfield 27, 3) := by decide +kernel
theorem dX9_goesOn_317 : decode cX9_goesOn 317 = .ok (.iload 7, 2) := by decide +kernel
theorem dX9_goesOn_319 : decode cX9_goesOn 319 = .ok (.iaload, 1) := by decide +kernel
theorem dX9_goesOn_320 : decode cX9_goesOn 320 = .ok (.iand, 1) := by decide +kernel
theorem dX9_goesOn_321 : decode cX9_goesOn 321 = .ok (.invokestatic 117, 3) := by decide +kernel
theorem dX9_goesOn_324 : decode cX9_goesOn 324 = .ok (.iload_n 2, 1) := by decide +kernel
theorem dX9_goesOn_325 : decode cX9_goesOn 325 = .ok (.invokevirtual 121, 3) := by decide +kernel
theorem dX9_goesOn_328 : decode cX9_goesOn 328 = .ok (.goto 140, 3) := by decide +kernel
theorem dX9_goesOn_331 : decode cX9_goesOn 331 = .ok (.aload_n 0, 1) := by decide +kernel
