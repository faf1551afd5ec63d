theorem dX0_init_0 : decode cX0_init 0 = .ok (.aload_n 0, 1) := by decide +kernel
theorem dX0_init_1 : decode cX0_init 1 = .ok (.invokespecial 3, 3) := by decide +kernel
theorem dX0_init_4 : decode cX0_init 4 = .ok (.aload_n 0, 1) := by decide +kernel
theorem dX0_init_5 : decode cX0_init 5 = .ok (.bipush 64, 2) := by decide +kernel
theorem dX0_init_7 : decode cX0_init 7 = .ok (.newarray .int, 2) := by decide +kernel
theorem dX0_init_9 : decode cX0_init 9 = .ok (.putfield 9, 3) := by decide +kernel
theorem dX0_init_12 : decode cX0_init 12 = .ok (.return_, 1) := by decide +kernel
set_option maxRecDepth 20000 in
theorem ggX0_clear_J7_fill_53178 : GoodIn wsX0_clear wsJ7_fill_53178 := goodIn_r _ [5] (by decide +kernel) (by decide +kernel)
set_option maxRecDepth 20000 in
theorem gX0_clear_J7_fill_53178 : GoodIn wsX0_clear (va_wsS RX0 15 yJ7_fill_53178 wsJ7_fill_53178) := goodIn_app (goodIn_of _ (by decide +kernel)) ggX0_clear_J7_fill_53178
theorem dX0_clear_0 : decode cX0_clear 0 = .ok (.aload_n 0, 1) := by decide +kernel
theorem dX0_clear_1 : decode cX0_clear 1 = .ok (.getfield 9, 3) := by decide +kernel
theorem dX0_clear_4 : decode cX0_clear 4 = .ok (.iconst 0, 1) := by decide +kernel
theorem dX0_clear_5 : decode cX0_clear 5 = .ok (.invokestatic 15, 3) := by decide +kernel
theorem dX0_clear_8 : decode cX0_clear 8 = .ok (.return_, 1) := by decide +kernel
theorem dX0_arguments_0 : decode cX0_arguments 0 = .ok (.aload_n 0, 1) := by decide +kernel
theorem dX0_arguments_1 : decode cX0_arguments 1 = .ok (.getfield 9, 3) := by decide +kernel
theorem dX0_arguments_4 : decode cX0_arguments 4 = .ok (.iload_n 1, 1) := by decide +kernel
theorem dX0_arguments_5 : decode cX0_arguments 5 = .ok (.bipush 32, 2) := by decide +kernel
theorem dX0_arguments_7 : decode cX0_arguments 7 = .ok (.imul, 1) := by decide +kernel
theorem dX0_arguments_8 : decode cX0_arguments 8 = .ok (.iload_n 2, 1) := by decide +kernel
theorem dX0_arguments_9 : decode cX0_arguments 9 = .ok (.iadd, 1) := by decide +kernel
theorem dX0_arguments_10 : decode cX0_arguments 10 = .ok (.iaload, 1) := by decide +kernel
theorem dX0_arguments_11 : decode cX0_arguments 11 = .ok (.ireturn, 1) := by decide +kernel
theorem dX0_add_0 : decode cX0_add 0 = .ok (.aload_n 0, 1) := by decide +kernel
theorem dX0_add_1 : decode cX0_add 1 = .ok (.getfield 9, 3) := by decide +kernel
theorem dX0_add_4 : decode cX0_add 4 = .ok (.iload_n 1, 1) := by decide +kernel
theorem dX0_add_5 : decode cX0_add 5 = .ok (.bipush 32, 2) := by decide +kernel
theorem dX0_add_7 : decode cX0_add 7 = .ok (.imul, 1) := by decide +kernel
theorem dX0_add_8 : decode cX0_add 8 = .ok (.iload_n 2, 1) := by decide +kernel
theorem dX0_add_9 : decode cX0_add 9 = .ok (.iadd, 1) := by decide +kernel
theorem dX0_add_10 : decode cX0_add 10 = .ok (.dup2, 1) := by decide +kernel
theorem dX0_add_11 : decode cX0_add 11 = .ok (.iaload, 1) := by decide +kernel
theorem dX0_add_12 : decode cX0_add 12 = .ok (.iload_n 3, 1) := by decide +kernel
theorem dX0_add_13 : decode cX0_add 13 = .ok (.ior, 1) := by decide +kernel
theorem dX0_add_14 : decode cX0_add 14 = .ok (.iastore, 1) := by decide +kernel
theorem dX0_add_15 : decode cX0_add 15 = .ok (.return_, 1) := by decide +kernel
set_option maxRecDepth 20000 in
theorem ggX0_addTo_X0_arguments : GoodIn wsX0_addTo wsX0_arguments := goodIn_r _ [5, 6, 7] (by decide +kernel) (by decide +kernel)
set_option maxRecDepth 20000 in
theorem gX0_addTo_X0_arguments : GoodIn wsX0_addTo (wsV RX0 21 RX0 yX0_arguments wsX0_arguments) := goodIn_app (goodIn_of _ (by decide +kernel)) ggX0_addTo_X0_arguments
theorem dX0_addTo_0 : decode cX0_addTo 0 = .ok (.iconst 0, 1) := by decide +kernel
theorem dX0_addTo_1 : decode cX0_addTo 1 = .ok (.istore_n 3, 1) := by decide +kernel
theorem dX0_addTo_2 : decode cX0_addTo 2 = .ok (.iload_n 3, 1) := by decide +kernel
theorem dX0_addTo_3 : decode cX0_addTo 3 = .ok (.bipush 32, 2) := by decide +kernel
theorem dX0_addTo_5 : decode cX0_addTo 5 = .ok (.if_icmp .ge 27, 3) := by decide +kernel
theorem dX0_addTo_8 : decode cX0_addTo 8 = .ok (.iload_n 3, 1) := by decide +kernel
theorem dX0_addTo_9 : decode cX0_addTo 9 = .ok (.aload_n 1, 1) := by decide +kernel
theorem dX0_addTo_10 : decode cX0_addTo 10 = .ok (.arraylength, 1) := by decide +kernel
theorem dX0_addTo_11 : decode cX0_addTo 11 = .ok (.if_icmp .ge 21, 3) := by decide +kernel
theorem dX0_addTo_14 : decode cX0_addTo 14 = .ok (.aload_n 1, 1) := by decide +kernel
theorem dX0_addTo_15 : decode cX0_addTo 15 = .ok (.iload_n 3, 1) := by decide +kernel
theorem dX0_addTo_16 : decode cX0_addTo 16 = .ok (.dup2, 1) := by decide +kernel
theorem dX0_addTo_17 : decode cX0_addTo 17 = .ok (.iaload, 1) := by decide +kernel
theorem dX0_addTo_18 : decode cX0_addTo 18 = .ok (.aload_n 0, 1) := by decide +kernel
theorem dX0_addTo_19 : decode cX0_addTo 19 = .ok (.iload_n 2, 1) := by decide +kernel
theorem dX0_addTo_20 : decode cX0_addTo 20 = .ok (.iload_n 3, 1) := by decide +kernel
theorem dX0_addTo_21 : decode cX0_addTo 21 = .ok (.invokevirtual 21, 3) := by decide +kernel
theorem dX0_addTo_24 : decode cX0_addTo 24 = .ok (.ior, 1) := by decide +kernel
theorem dX0_addTo_25 : decode cX0_addTo 25 = .ok (.iastore, 1) := by decide +kernel
theorem dX0_addTo_26 : decode cX0_addTo 26 = .ok (.iinc 3 1, 3) := by decide +kernel
theorem dX0_addTo_29 : decode cX0_addTo 29 = .ok (.goto (-27), 3) := by decide +kernel
theorem dX0_addTo_32 : decode cX0_addTo 32 = .ok (.return_, 1) := by decide +kernel
set_option maxRecDepth 20000 in
theorem ggX0_callsIn_X0_arguments : GoodIn wsX0_callsIn wsX0_arguments := goodIn_r _ [5, 6, 14] (by decide +kernel) (by decide +kernel)
set_option maxRecDepth 20000 in
theorem gX0_callsIn_X0_arguments : GoodIn wsX0_callsIn (wsV RX0 21 RX0 yX0_arguments wsX0_arguments) := goodIn_app (goodIn_of _ (by decide +kernel)) ggX0_callsIn_X0_arguments
set_option maxRecDepth 20000 in
theorem ggX0_callsIn_J6_bitCount_0f7a4 : GoodIn wsX0_callsIn wsJ6_bitCount_0f7a4 := goodIn_r _ [10, 11, 12, 13] (by decide +kernel) (by decide +kernel)
set_option maxRecDepth 20000 in
theorem gX0_callsIn_J6_bitCount_0f7a4 : GoodIn wsX0_callsIn (va_wsS RX0 25 yJ6_bitCount_0f7a4 wsJ6_bitCount_0f7a4) := goodIn_app (goodIn_of _ (by decide +kernel)) ggX0_callsIn_J6_bitCount_0f7a4
theorem dX0_callsIn_0 : decode cX0_callsIn 0 = .ok (.iconst 0, 1) := by decide +kernel
theorem dX0_callsIn_1 : decode cX0_callsIn 1 = .ok (.istore_n 2, 1) := by decide +kernel
theorem dX0_callsIn_2 : decode cX0_callsIn 2 = .ok (.iconst 0, 1) := by decide +kernel
theorem dX0_callsIn_3 : decode cX0_callsIn 3 = .ok (.istore_n 3, 1) := by decide +kernel
theorem dX0_callsIn_4 : decode cX0_callsIn 4 = .ok (.iload_n 3, 1) := by decide +kernel
theorem dX0_callsIn_5 : decode cX0_callsIn 5 = .ok (.bipush 32, 2) := by decide +kernel
theorem dX0_callsIn_7 : decode cX0_callsIn 7 = .ok (.if_icmp .ge 21, 3) := by decide +kernel
theorem dX0_callsIn_10 : decode cX0_callsIn 10 = .ok (.iload_n 2, 1) := by decide +kernel
theorem dX0_callsIn_11 : decode cX0_callsIn 11 = .ok (.aload_n 0, 1) := by decide +kernel
theorem dX0_callsIn_12 : decode cX0_callsIn 12 = .ok (.iload_n 1, 1) := by decide +kernel
theorem dX0_callsIn_13 : decode cX0_callsIn 13 = .ok (.iload_n 3, 1) := by decide +kernel
theorem dX0_callsIn_14 : decode cX0_callsIn 14 = .ok (.invokevirtual 21, 3) := by decide +kernel
theorem dX0_callsIn_17 : decode cX0_callsIn 17 = .ok (.invokestatic 25, 3) := by decide +kernel
theorem dX0_callsIn_20 : decode cX0_callsIn 20 = .ok (.iadd, 1) := by decide +kernel
theorem dX0_callsIn_21 : decode cX0_callsIn 21 = .ok (.istore_n 2, 1) := by decide +kernel
theorem dX0_callsIn_22 : decode cX0_callsIn 22 = .ok (.iinc 3 1, 3) := by decide +kernel
theorem dX0_callsIn_25 : decode cX0_callsIn 25 = .ok (.goto (-21), 3) := by decide +kernel
theorem dX0_callsIn_28 : decode cX0_callsIn 28 = .ok (.iload_n 2, 1) := by decide +kernel
theorem dX0_callsIn_29 : decode cX0_callsIn 29 = .ok (.ireturn, 1) := by decide +kernel
set_option maxRecDepth 20000 in
theorem ggX0_spansIn_X0_arguments : GoodIn wsX0_spansIn wsX0_arguments := goodIn_r _ [5, 6, 17] (by decide +kernel) (by decide +kernel)
set_option maxRecDepth 20000 in
theorem gX0_spansIn_X0_arguments : GoodIn wsX0_spansIn (wsV RX0 21 RX0 yX0_arguments wsX0_arguments) := goodIn_app (goodIn_of _ (by decide +kernel)) ggX0_spansIn_X0_arguments
set_option maxRecDepth 20000 in
theorem ggX0_spansIn_X0_firstsOf : GoodIn wsX0_spansIn wsX0_firstsOf := goodIn_r _ [9] (by decide +kernel) (by decide +kernel)
set_option maxRecDepth 20000 in
theorem gX0_spansIn_X0_firstsOf : GoodIn wsX0_spansIn (va_wsS RX0 31 yX0_firstsOf wsX0_firstsOf) := goodIn_app (goodIn_of _ (by decide +kernel)) ggX0_spansIn_X0_firstsOf
set_option maxRecDepth 20000 in
theorem ggX0_spansIn_J6_bitCount_0f7a4 : GoodIn wsX0_spansIn wsJ6_bitCount_0f7a4 := goodIn_r _ [13, 14, 15, 16] (by decide +kernel) (by decide +kernel)
set_option maxRecDepth 20000 in
theorem gX0_spansIn_J6_bitCount_0f7a4 : GoodIn wsX0_spansIn (va_wsS RX0 25 yJ6_bitCount_0f7a4 wsJ6_bitCount_0f7a4) := goodIn_app (goodIn_of _ (by decide +kernel)) ggX0_spansIn_J6_bitCount_0f7a4
theorem dX0_spansIn_0 : decode cX0_spansIn 0 = .ok (.iconst 0, 1) := by decide +kernel
theorem dX0_spansIn_1 : decode cX0_spansIn 1 = .ok (.istore_n 2, 1) := by decide +kernel
theorem dX0_spansIn_2 : decode cX0_spansIn 2 = .ok (.iconst 0, 1) := by decide +kernel
theorem dX0_spansIn_3 : decode cX0_spansIn 3 = .ok (.istore_n 3, 1) := by decide +kernel
theorem dX0_spansIn_4 : decode cX0_spansIn 4 = .ok (.iload_n 3, 1) := by decide +kernel
theorem dX0_spansIn_5 : decode cX0_spansIn 5 = .ok (.bipush 32, 2) := by decide +kernel
theorem dX0_spansIn_7 : decode cX0_spansIn 7 = .ok (.if_icmp .ge 24, 3) := by decide +kernel
theorem dX0_spansIn_10 : decode cX0_spansIn 10 = .ok (.iload_n 2, 1) := by decide +kernel
theorem dX0_spansIn_11 : decode cX0_spansIn 11 = .ok (.aload_n 0, 1) := by decide +kernel
theorem dX0_spansIn_12 : decode cX0_spansIn 12 = .ok (.iload_n 1, 1) := by decide +kernel
theorem dX0_spansIn_13 : decode cX0_spansIn 13 = .ok (.iload_n 3, 1) := by decide +kernel
theorem dX0_spansIn_14 : decode cX0_spansIn 14 = .ok (.invokevirtual 21, 3) := by decide +kernel
theorem dX0_spansIn_17 : decode cX0_spansIn 17 = .ok (.invokestatic 31, 3) := by decide +kernel
theorem dX0_spansIn_20 : decode cX0_spansIn 20 = .ok (.invokestatic 25, 3) := by decide +kernel
theorem dX0_spansIn_23 : decode cX0_spansIn 23 = .ok (.iadd, 1) := by decide +kernel
theorem dX0_spansIn_24 : decode cX0_spansIn 24 = .ok (.istore_n 2, 1) := by decide +kernel
theorem dX0_spansIn_25 : decode cX0_spansIn 25 = .ok (.iinc 3 1, 3) := by decide +kernel
theorem dX0_spansIn_28 : decode cX0_spansIn 28 = .ok (.goto (-24), 3) := by decide +kernel
theorem dX0_spansIn_31 : decode cX0_spansIn 31 = .ok (.iload_n 2, 1) := by decide +kernel
theorem dX0_spansIn_32 : decode cX0_spansIn 32 = .ok (.ireturn, 1) := by decide +kernel
set_option maxRecDepth 20000 in
theorem ggX0_spanPart_X0_arguments : GoodIn wsX0_spanPart wsX0_arguments := goodIn_r _ [5, 6, 26] (by decide +kernel) (by decide +kernel)
set_option maxRecDepth 20000 in
theorem gX0_spanPart_X0_arguments : GoodIn wsX0_spanPart (wsV RX0 21 RX0 yX0_arguments wsX0_arguments) := goodIn_app (goodIn_of _ (by decide +kernel)) ggX0_spanPart_X0_arguments
set_option maxRecDepth 20000 in
theorem ggX0_spanPart_X0_firstsOf : GoodIn wsX0_spanPart wsX0_firstsOf := goodIn_r _ [9] (by decide +kernel) (by decide +kernel)
set_option maxRecDepth 20000 in
theorem gX0_spanPart_X0_firstsOf : GoodIn wsX0_spanPart (va_wsS RX0 31 yX0_firstsOf wsX0_firstsOf) := goodIn_app (goodIn_of _ (by decide +kernel)) ggX0_spanPart_X0_firstsOf
set_option maxRecDepth 20000 in
theorem ggX0_spanPart_J6_bitCount_0f7a4 : GoodIn wsX0_spanPart wsJ6_bitCount_0f7a4 := goodIn_r _ [13, 14, 15, 16] (by decide +kernel) (by decide +kernel)
set_option maxRecDepth 20000 in
theorem gX0_spanPart_J6_bitCount_0f7a4 : GoodIn wsX0_spanPart (va_wsS RX0 25 yJ6_bitCount_0f7a4 wsJ6_bitCount_0f7a4) := goodIn_app (goodIn_of _ (by decide +kernel)) ggX0_spanPart_J6_bitCount_0f7a4
set_option maxRecDepth 20000 in
theorem ggX0_spanPart_X0_partOf : GoodIn wsX0_spanPart wsX0_partOf := goodIn_r _ [19, 7, 8, 4, 9, 20, 21, 22, 23, 24, 25] (by decide +kernel) (by decide +kernel)
set_option maxRecDepth 20000 in
theorem gX0_spanPart_X0_partOf : GoodIn wsX0_spanPart (va_wsS RX0 34 yX0_partOf wsX0_partOf) := goodIn_app (goodIn_of _ (by decide +kernel)) ggX0_spanPart_X0_partOf
theorem dX0_spanPart_0 : decode cX0_spanPart 0 = .ok (.iconst 0, 1) := by decide +kernel
theorem dX0_spanPart_1 : decode cX0_spanPart 1 = .ok (.istore 4, 2) := by decide +kernel
theorem dX0_spanPart_3 : decode cX0_spanPart 3 = .ok (.iconst 0, 1) := by decide +kernel
theorem dX0_spanPart_4 : decode cX0_spanPart 4 = .ok (.istore 5, 2) := by decide +kernel
theorem dX0_spanPart_6 : decode cX0_spanPart 6 = .ok (.iload 5, 2) := by decide +kernel
theorem dX0_spanPart_8 : decode cX0_spanPart 8 = .ok (.bipush 32, 2) := by decide +kernel
theorem dX0_spanPart_10 : decode cX0_spanPart 10 = .ok (.if_icmp .ge 57, 3) := by decide +kernel
theorem dX0_spanPart_13 : decode cX0_spanPart 13 = .ok (.aload_n 0, 1) := by decide +kernel
theorem dX0_spanPart_14 : decode cX0_spanPart 14 = .ok (.iload_n 1, 1) := by decide +kernel
theorem dX0_spanPart_15 : decode cX0_spanPart 15 = .ok (.iload 5, 2) := by decide +kernel
theorem dX0_spanPart_17 : decode cX0_spanPart 17 = .ok (.invokevirtual 21, 3) := by decide +kernel
theorem dX0_spanPart_20 : decode cX0_spanPart 20 = .ok (.istore 6, 2) := by decide +kernel
theorem dX0_spanPart_22 : decode cX0_spanPart 22 = .ok (.iload 6, 2) := by decide +kernel
theorem dX0_spanPart_24 : decode cX0_spanPart 24 = .ok (.invokestatic 31, 3) := by decide +kernel
theorem dX0_spanPart_27 : decode cX0_spanPart 27 = .ok (.invokestatic 25, 3) := by decide +kernel
theorem dX0_spanPart_30 : decode cX0_spanPart 30 = .ok (.istore 7, 2) := by decide +kernel
theorem dX0_spanPart_32 : decode cX0_spanPart 32 = .ok (.iload_n 2, 1) := by decide +kernel
theorem dX0_spanPart_33 : decode cX0_spanPart 33 = .ok (.iload 4, 2) := by decide +kernel
theorem dX0_spanPart_35 : decode cX0_spanPart 35 = .ok (.iload 7, 2) := by decide +kernel
theorem dX0_spanPart_37 : decode cX0_spanPart 37 = .ok (.iadd, 1) := by decide +kernel
theorem dX0_spanPart_38 : decode cX0_spanPart 38 = .ok (.if_icmp .ge 16, 3) := by decide +kernel
theorem dX0_spanPart_41 : decode cX0_spanPart 41 = .ok (.iload 5, 2) := by decide +kernel
theorem dX0_spanPart_43 : decode cX0_spanPart 43 = .ok (.iload 6, 2) := by decide +kernel
theorem dX0_spanPart_45 : decode cX0_spanPart 45 = .ok (.iload_n 2, 1) := by decide +kernel
theorem dX0_spanPart_46 : decode cX0_spanPart 46 = .ok (.iload 4, 2) := by decide +kernel
theorem dX0_spanPart_48 : decode cX0_spanPart 48 = .ok (.isub, 1) := by decide +kernel
theorem dX0_spanPart_49 : decode cX0_spanPart 49 = .ok (.iload_n 3, 1) := by decide +kernel
theorem dX0_spanPart_50 : decode cX0_spanPart 50 = .ok (.invokestatic 34, 3) := by decide +kernel
theorem dX0_spanPart_53 : decode cX0_spanPart 53 = .ok (.ireturn, 1) := by decide +kernel
theorem dX0_spanPart_54 : decode cX0_spanPart 54 = .ok (.iload 4, 2) := by decide +kernel
theorem dX0_spanPart_56 : decode cX0_spanPart 56 = .ok (.iload 7, 2) := by decide +kernel
theorem dX0_spanPart_58 : decode cX0_spanPart 58 = .ok (.iadd, 1) := by decide +kernel
theorem dX0_spanPart_59 : decode cX0_spanPart 59 = .ok (.istore 4, 2) := by decide +kernel
theorem dX0_spanPart_61 : decode cX0_spanPart 61 = .ok (.iinc 5 1, 3) := by decide +kernel
theorem dX0_spanPart_64 : decode cX0_spanPart 64 = .ok (.goto (-58), 3) := by decide +kernel
theorem dX0_spanPart_67 : decode cX0_spanPart 67 = .ok (.iconst (-1), 1) := by decide +kernel
theorem dX0_spanPart_68 : decode cX0_spanPart 68 = .ok (.ireturn, 1) := by decide +kernel
theorem dX0_firstsOf_0 : decode cX0_firstsOf 0 = .ok (.iload_n 0, 1) := by decide +kernel
theorem dX0_firstsOf_1 : decode cX0_firstsOf 1 = .ok (.iload_n 0, 1) := by decide +kernel
theorem dX0_firstsOf_2 : decode cX0_firstsOf 2 = .ok (.iconst 1, 1) := by decide +kernel
theorem dX0_firstsOf_3 : decode cX0_firstsOf 3 = .ok (.ishl, 1) := by decide +kernel
theorem dX0_firstsOf_4 : decode cX0_firstsOf 4 = .ok (.iconst (-1), 1) := by decide +kernel
theorem dX0_firstsOf_5 : decode cX0_firstsOf 5 = .ok (.ixor, 1) := by decide +kernel
theorem dX0_firstsOf_6 : decode cX0_firstsOf 6 = .ok (.iand, 1) := by decide +kernel
theorem dX0_firstsOf_7 : decode cX0_firstsOf 7 = .ok (.ireturn, 1) := by decide +kernel
set_option maxRecDepth 20000 in
theorem ggX0_partOf_X0_firstsOf : GoodIn wsX0_partOf wsX0_firstsOf := goodIn_r _ [4] (by decide +kernel) (by decide +kernel)
set_option maxRecDepth 20000 in
theorem gX0_partOf_X0_firstsOf : GoodIn wsX0_partOf (va_wsS RX0 31 yX0_firstsOf wsX0_firstsOf) := goodIn_app (goodIn_of _ (by decide +kernel)) ggX0_partOf_X0_firstsOf
set_option maxRecDepth 20000 in
theorem ggX0_partOf_X0_bitNumber : GoodIn wsX0_partOf wsX0_bitNumber := goodIn_r _ [7, 8, 9, 10] (by decide +kernel) (by decide +kernel)
set_option maxRecDepth 20000 in
theorem gX0_partOf_X0_bitNumber : GoodIn wsX0_partOf (va_wsS RX0 38 yX0_bitNumber wsX0_bitNumber) := goodIn_app (goodIn_of _ (by decide +kernel)) ggX0_partOf_X0_bitNumber
theorem dX0_partOf_0 : decode cX0_partOf 0 = .ok (.iload_n 3, 1) := by decide +kernel
theorem dX0_partOf_1 : decode cX0_partOf 1 = .ok (.tableswitch 50 0 2 #[27, 29, 38], 27) := by decide +kernel
theorem dX0_partOf_28 : decode cX0_partOf 28 = .ok (.iload_n 0, 1) := by decide +kernel
theorem dX0_partOf_29 : decode cX0_partOf 29 = .ok (.ireturn, 1) := by decide +kernel
theorem dX0_partOf_30 : decode cX0_partOf 30 = .ok (.iload_n 1, 1) := by decide +kernel
theorem dX0_partOf_31 : decode cX0_partOf 31 = .ok (.invokestatic 31, 3) := by decide +kernel
theorem dX0_partOf_34 : decode cX0_partOf 34 = .ok (.iload_n 2, 1) := by decide +kernel
theorem dX0_partOf_35 : decode cX0_partOf 35 = .ok (.invokestatic 38, 3) := by decide +kernel
theorem dX0_partOf_38 : decode cX0_partOf 38 = .ok (.ireturn, 1) := by decide +kernel
theorem dX0_partOf_39 : decode cX0_partOf 39 = .ok (.iload_n 1, 1) := by decide +kernel
theorem dX0_partOf_40 : decode cX0_partOf 40 = .ok (.iload_n 1, 1) := by decide +kernel
theorem dX0_partOf_41 : decode cX0_partOf 41 = .ok (.iconst 1, 1) := by decide +kernel
theorem dX0_partOf_42 : decode cX0_partOf 42 = .ok (.iushr, 1) := by decide +kernel
theorem dX0_partOf_43 : decode cX0_partOf 43 = .ok (.iconst (-1), 1) := by decide +kernel
theorem dX0_partOf_44 : decode cX0_partOf 44 = .ok (.ixor, 1) := by decide +kernel
theorem dX0_partOf_45 : decode cX0_partOf 45 = .ok (.iand, 1) := by decide +kernel
theorem dX0_partOf_46 : decode cX0_partOf 46 = .ok (.iload_n 2, 1) := by decide +kernel
theorem dX0_partOf_47 : decode cX0_partOf 47 = .ok (.invokestatic 38, 3) := by decide +kernel
theorem dX0_partOf_50 : decode cX0_partOf 50 = .ok (.ireturn, 1) := by decide +kernel
theorem dX0_partOf_51 : decode cX0_partOf 51 = .ok (.iconst (-1), 1) := by decide +kernel
theorem dX0_partOf_52 : decode cX0_partOf 52 = .ok (.ireturn, 1) := by decide +kernel
set_option maxRecDepth 20000 in
theorem ggX0_bitNumber_X8_holds : GoodIn wsX0_bitNumber wsX8_holds := goodIn_r _ [3] (by decide +kernel) (by decide +kernel)
set_option maxRecDepth 20000 in
theorem gX0_bitNumber_X8_holds_n41 : GoodIn wsX0_bitNumber (wsX8_holds) := ggX0_bitNumber_X8_holds
theorem dX0_bitNumber_0 : decode cX0_bitNumber 0 = .ok (.iconst 0, 1) := by decide +kernel
theorem dX0_bitNumber_1 : decode cX0_bitNumber 1 = .ok (.istore_n 2, 1) := by decide +kernel
theorem dX0_bitNumber_2 : decode cX0_bitNumber 2 = .ok (.iconst 0, 1) := by decide +kernel
theorem dX0_bitNumber_3 : decode cX0_bitNumber 3 = .ok (.istore_n 3, 1) := by decide +kernel
theorem dX0_bitNumber_4 : decode cX0_bitNumber 4 = .ok (.iload_n 3, 1) := by decide +kernel
theorem dX0_bitNumber_5 : decode cX0_bitNumber 5 = .ok (.bipush 32, 2) := by decide +kernel
theorem dX0_bitNumber_7 : decode cX0_bitNumber 7 = .ok (.if_icmp .ge 27, 3) := by decide +kernel
theorem dX0_bitNumber_10 : decode cX0_bitNumber 10 = .ok (.iload_n 0, 1) := by decide +kernel
theorem dX0_bitNumber_11 : decode cX0_bitNumber 11 = .ok (.iload_n 3, 1) := by decide +kernel
theorem dX0_bitNumber_12 : decode cX0_bitNumber 12 = .ok (.invokestatic 41, 3) := by decide +kernel
theorem dX0_bitNumber_15 : decode cX0_bitNumber 15 = .ok (.ifCond .eq 13, 3) := by decide +kernel
theorem dX0_bitNumber_18 : decode cX0_bitNumber 18 = .ok (.iload_n 2, 1) := by decide +kernel
theorem dX0_bitNumber_19 : decode cX0_bitNumber 19 = .ok (.iload_n 1, 1) := by decide +kernel
theorem dX0_bitNumber_20 : decode cX0_bitNumber 20 = .ok (.if_icmp .ne 5, 3) := by decide +kernel
theorem dX0_bitNumber_23 : decode cX0_bitNumber 23 = .ok (.iload_n 3, 1) := by decide +kernel
theorem dX0_bitNumber_24 : decode cX0_bitNumber 24 = .ok (.ireturn, 1) := by decide +kernel
theorem dX0_bitNumber_25 : decode cX0_bitNumber 25 = .ok (.iinc 2 1, 3) := by decide +kernel
theorem dX0_bitNumber_28 : decode cX0_bitNumber 28 = .ok (.iinc 3 1, 3) := by decide +kernel
theorem dX0_bitNumber_31 : decode cX0_bitNumber 31 = .ok (.goto (-27), 3) := by decide +kernel
theorem dX0_bitNumber_34 : decode cX0_bitNumber 34 = .ok (.iconst (-1), 1) := by decide +kernel
theorem dX0_bitNumber_35 : decode cX0_bitNumber 35 = .ok (.ireturn, 1) := by decide +kernel
theorem dX1_init_0 : decode cX1_init 0 = .ok (.aload_n 0, 1) := by decide +kernel
theorem dX1_init_1 : decode cX1_init 1 = .ok (.invokespecial 3, 3) := by decide +kernel
theorem dX1_init_4 : decode cX1_init 4 = .ok (.aload_n 0, 1) := by decide +kernel
theorem dX1_init_5 : decode cX1_init 5 = .ok (.bipush 24, 2) := by decide +kernel
theorem dX1_init_7 : decode cX1_init 7 = .ok (.newarray .int, 2) := by decide +kernel
theorem dX1_init_9 : decode cX1_init 9 = .ok (.putfield 9, 3) := by decide +kernel
theorem dX1_init_12 : decode cX1_init 12 = .ok (.aload_n 0, 1) := by decide +kernel
theorem dX1_init_13 : decode cX1_init 13 = .ok (.bipush 24, 2) := by decide +kernel
theorem dX1_init_15 : decode cX1_init 15 = .ok (.newarray .int, 2) := by decide +kernel
theorem dX1_init_17 : decode cX1_init 17 = .ok (.putfield 15, 3) := by decide +kernel
theorem dX1_init_20 : decode cX1_init 20 = .ok (.aload_n 0, 1) := by decide +kernel
theorem dX1_init_21 : decode cX1_init 21 = .ok (.bipush 24, 2) := by decide +kernel
theorem dX1_init_23 : decode cX1_init 23 = .ok (.newarray .int, 2) := by decide +kernel
theorem dX1_init_25 : decode cX1_init 25 = .ok (.putfield 18, 3) := by decide +kernel
theorem dX1_init_28 : decode cX1_init 28 = .ok (.aload_n 0, 1) := by decide +kernel
theorem dX1_init_29 : decode cX1_init 29 = .ok (.bipush 24, 2) := by decide +kernel
theorem dX1_init_31 : decode cX1_init 31 = .ok (.newarray .int, 2) := by decide +kernel
theorem dX1_init_33 : decode cX1_init 33 = .ok (.putfield 21, 3) := by decide +kernel
theorem dX1_init_36 : decode cX1_init 36 = .ok (.aload_n 0, 1) := by decide +kernel
theorem dX1_init_37 : decode cX1_init 37 = .ok (.iconst 0, 1) := by decide +kernel
theorem dX1_init_38 : decode cX1_init 38 = .ok (.putfield 24, 3) := by decide +kernel
theorem dX1_init_41 : decode cX1_init 41 = .ok (.return_, 1) := by decide +kernel
theorem dX1_length_0 : decode cX1_length 0 = .ok (.aload_n 0, 1) := by decide +kernel
theorem dX1_length_1 : decode cX1_length 1 = .ok (.getfield 24, 3) := by decide +kernel
theorem dX1_length_4 : decode cX1_length 4 = .ok (.ireturn, 1) := by decide +kernel
theorem dX1_has_0 : decode cX1_has 0 = .ok (.iload_n 1, 1) := by decide +kernel
theorem dX1_has_1 : decode cX1_has 1 = .ok (.ifCond .lt 15, 3) := by decide +kernel
theorem dX1_has_4 : decode cX1_has 4 = .ok (.iload_n 1, 1) := by decide +kernel
theorem dX1_has_5 : decode cX1_has 5 = .ok (.aload_n 0, 1) := by decide +kernel
theorem dX1_has_6 : decode cX1_has 6 = .ok (.getfield 24, 3) := by decide +kernel
theorem dX1_has_9 : decode cX1_has 9 = .ok (.if_icmp .ge 7, 3) := by decide +kernel
theorem dX1_has_12 : decode cX1_has 12 = .ok (.iconst 1, 1) := by decide +kernel
theorem dX1_has_13 : decode cX1_has 13 = .ok (.goto 4, 3) := by decide +kernel
theorem dX1_has_16 : decode cX1_has 16 = .ok (.iconst 0, 1) := by decide +kernel
theorem dX1_has_17 : decode cX1_has 17 = .ok (.ireturn, 1) := by decide +kernel
set_option maxRecDepth 20000 in
theorem ggX1_isEnd_X1_has : GoodIn wsX1_isEnd wsX1_has := goodIn_r _ [6, 7, 8, 9, 10, 11, 12] (by decide +kernel) (by decide +kernel)
set_option maxRecDepth 20000 in
theorem gX1_isEnd_X1_has : GoodIn wsX1_isEnd (wsV RX1 28 RX1 yX1_has wsX1_has) := goodIn_app (goodIn_of _ (by decide +kernel)) ggX1_isEnd_X1_has
theorem dX1_isEnd_0 : decode cX1_isEnd 0 = .ok (.aload_n 0, 1) := by decide +kernel
theorem dX1_isEnd_1 : decode cX1_isEnd 1 = .ok (.iload_n 1, 1) := by decide +kernel
theorem dX1_isEnd_2 : decode cX1_isEnd 2 = .ok (.invokevirtual 28, 3) := by decide +kernel
theorem dX1_isEnd_5 : decode cX1_isEnd 5 = .ok (.ifCond .eq 14, 3) := by decide +kernel
theorem dX1_isEnd_8 : decode cX1_isEnd 8 = .ok (.aload_n 0, 1) := by decide +kernel
theorem dX1_isEnd_9 : decode cX1_isEnd 9 = .ok (.getfield 9, 3) := by decide +kernel
theorem dX1_isEnd_12 : decode cX1_isEnd 12 = .ok (.iload_n 1, 1) := by decide +kernel
theorem dX1_isEnd_13 : decode cX1_isEnd 13 = .ok (.iaload, 1) := by decide +kernel
theorem dX1_isEnd_14 : decode cX1_isEnd 14 = .ok (.bipush 9, 2) := by decide +kernel
theorem dX1_isEnd_16 : decode cX1_isEnd 16 = .ok (.if_icmp .ne 7, 3) := by decide +kernel
theorem dX1_isEnd_19 : decode cX1_isEnd 19 = .ok (.iconst 1, 1) := by decide +kernel
theorem dX1_isEnd_20 : decode cX1_isEnd 20 = .ok (.goto 4, 3) := by decide +kernel
theorem dX1_isEnd_23 : decode cX1_isEnd 23 = .ok (.iconst 0, 1) := by decide +kernel
theorem dX1_isEnd_24 : decode cX1_isEnd 24 = .ok (.ireturn, 1) := by decide +kernel
theorem dX1_kind_0 : decode cX1_kind 0 = .ok (.aload_n 0, 1) := by decide +kernel
theorem dX1_kind_1 : decode cX1_kind 1 = .ok (.getfield 9, 3) := by decide +kernel
theorem dX1_kind_4 : decode cX1_kind 4 = .ok (.iload_n 1, 1) := by decide +kernel
theorem dX1_kind_5 : decode cX1_kind 5 = .ok (.iaload, 1) := by decide +kernel
theorem dX1_kind_6 : decode cX1_kind 6 = .ok (.ireturn, 1) := by decide +kernel
theorem dX1_x_0 : decode cX1_x 0 = .ok (.aload_n 0, 1) := by decide +kernel
theorem dX1_x_1 : decode cX1_x 1 = .ok (.getfield 15, 3) := by decide +kernel
theorem dX1_x_4 : decode cX1_x 4 = .ok (.iload_n 1, 1) := by decide +kernel
theorem dX1_x_5 : decode cX1_x 5 = .ok (.iaload, 1) := by decide +kernel
theorem dX1_x_6 : decode cX1_x 6 = .ok (.ireturn, 1) := by decide +kernel
theorem dX1_n_0 : decode cX1_n 0 = .ok (.aload_n 0, 1) := by decide +kernel
theorem dX1_n_1 : decode cX1_n 1 = .ok (.getfield 18, 3) := by decide +kernel
theorem dX1_n_4 : decode cX1_n 4 = .ok (.iload_n 1, 1) := by decide +kernel
theorem dX1_n_5 : decode cX1_n 5 = .ok (.iaload, 1) := by decide +kernel
theorem dX1_n_6 : decode cX1_n 6 = .ok (.ireturn, 1) := by decide +kernel
theorem dX1_to_0 : decode cX1_to 0 = .ok (.aload_n 0, 1) := by decide +kernel
theorem dX1_to_1 : decode cX1_to 1 = .ok (.getfield 21, 3) := by decide +kernel
theorem dX1_to_4 : decode cX1_to 4 = .ok (.iload_n 1, 1) := by decide +kernel
theorem dX1_to_5 : decode cX1_to 5 = .ok (.iaload, 1) := by decide +kernel
theorem dX1_to_6 : decode cX1_to 6 = .ok (.ireturn, 1) := by decide +kernel
theorem dX1_grow_0 : decode cX1_grow 0 = .ok (.aload_n 0, 1) := by decide +kernel
theorem dX1_grow_1 : decode cX1_grow 1 = .ok (.getfield 24, 3) := by decide +kernel
theorem dX1_grow_4 : decode cX1_grow 4 = .ok (.bipush 24, 2) := by decide +kernel
theorem dX1_grow_6 : decode cX1_grow 6 = .ok (.if_icmp .lt 5, 3) := by decide +kernel
theorem dX1_grow_9 : decode cX1_grow 9 = .ok (.iconst 0, 1) := by decide +kernel
theorem dX1_grow_10 : decode cX1_grow 10 = .ok (.ireturn, 1) := by decide +kernel
theorem dX1_grow_11 : decode cX1_grow 11 = .ok (.aload_n 0, 1) := by decide +kernel
theorem dX1_grow_12 : decode cX1_grow 12 = .ok (.dup, 1) := by decide +kernel
theorem dX1_grow_13 : decode cX1_grow 13 = .ok (.getfield 24, 3) := by decide +kernel
theorem dX1_grow_16 : decode cX1_grow 16 = .ok (.iconst 1, 1) := by decide +kernel
theorem dX1_grow_17 : decode cX1_grow 17 = .ok (.iadd, 1) := by decide +kernel
theorem dX1_grow_18 : decode cX1_grow 18 = .ok (.putfield 24, 3) := by decide +kernel
theorem dX1_grow_21 : decode cX1_grow 21 = .ok (.iconst 1, 1) := by decide +kernel
theorem dX1_grow_22 : decode cX1_grow 22 = .ok (.ireturn, 1) := by decide +kernel
theorem dX1_put_0 : decode cX1_put 0 = .ok (.aload_n 0, 1) := by decide +kernel
theorem dX1_put_1 : decode cX1_put 1 = .ok (.getfield 9, 3) := by decide +kernel
theorem dX1_put_4 : decode cX1_put 4 = .ok (.iload_n 1, 1) := by decide +kernel
theorem dX1_put_5 : decode cX1_put 5 = .ok (.iload_n 2, 1) := by decide +kernel
theorem dX1_put_6 : decode cX1_put 6 = .ok (.iastore, 1) := by decide +kernel
theorem dX1_put_7 : decode cX1_put 7 = .ok (.aload_n 0, 1) := by decide +kernel
theorem dX1_put_8 : decode cX1_put 8 = .ok (.getfield 15, 3) := by decide +kernel
theorem dX1_put_11 : decode cX1_put 11 = .ok (.iload_n 1, 1) := by decide +kernel
theorem dX1_put_12 : decode cX1_put 12 = .ok (.iload_n 3, 1) := by decide +kernel
theorem dX1_put_13 : decode cX1_put 13 = .ok (.iastore, 1) := by decide +kernel
theorem dX1_put_14 : decode cX1_put 14 = .ok (.aload_n 0, 1) := by decide +kernel
theorem dX1_put_15 : decode cX1_put 15 = .ok (.getfield 18, 3) := by decide +kernel
theorem dX1_put_18 : decode cX1_put 18 = .ok (.iload_n 1, 1) := by decide +kernel
theorem dX1_put_19 : decode cX1_put 19 = .ok (.iload 4, 2) := by decide +kernel
theorem dX1_put_21 : decode cX1_put 21 = .ok (.iastore, 1) := by decide +kernel
theorem dX1_put_22 : decode cX1_put 22 = .ok (.aload_n 0, 1) := by decide +kernel
theorem dX1_put_23 : decode cX1_put 23 = .ok (.getfield 21, 3) := by decide +kernel
theorem dX1_put_26 : decode cX1_put 26 = .ok (.iload_n 1, 1) := by decide +kernel
theorem dX1_put_27 : decode cX1_put 27 = .ok (.iload 5, 2) := by decide +kernel
theorem dX1_put_29 : decode cX1_put 29 = .ok (.iastore, 1) := by decide +kernel
theorem dX1_put_30 : decode cX1_put 30 = .ok (.return_, 1) := by decide +kernel
set_option maxRecDepth 20000 in
theorem ggX1_become_X1_put : GoodIn wsX1_become wsX1_put := goodIn_r _ [10, 2, 3, 4, 5, 11, 12, 13, 14, 15] (by decide +kernel) (by decide +kernel)
set_option maxRecDepth 20000 in
theorem gX1_become_X1_put : GoodIn wsX1_become (wsV RX1 32 RX1 yX1_put wsX1_put) := goodIn_app (goodIn_of _ (by decide +kernel)) ggX1_become_X1_put
theorem dX1_become_0 : decode cX1_become 0 = .ok (.aload_n 0, 1) := by decide +kernel
theorem dX1_become_1 : decode cX1_become 1 = .ok (.aload_n 1, 1) := by decide +kernel
theorem dX1_become_2 : decode cX1_become 2 = .ok (.getfield 24, 3) := by decide +kernel
theorem dX1_become_5 : decode cX1_become 5 = .ok (.putfield 24, 3) := by decide +kernel
theorem dX1_become_8 : decode cX1_become 8 = .ok (.iconst 0, 1) := by decide +kernel
theorem dX1_become_9 : decode cX1_become 9 = .ok (.istore_n 2, 1) := by decide +kernel
theorem dX1_become_10 : decode cX1_become 10 = .ok (.iload_n 2, 1) := by decide +kernel
theorem dX1_become_11 : decode cX1_become 11 = .ok (.aload_n 0, 1) := by decide +kernel
theorem dX1_become_12 : decode cX1_become 12 = .ok (.getfield 24, 3) := by decide +kernel
theorem dX1_become_15 : decode cX1_become 15 = .ok (.if_icmp .ge 38, 3) := by decide +kernel
theorem dX1_become_18 : decode cX1_become 18 = .ok (.aload_n 0, 1) := by decide +kernel
theorem dX1_become_19 : decode cX1_become 19 = .ok (.iload_n 2, 1) := by decide +kernel
theorem dX1_become_20 : decode cX1_become 20 = .ok (.aload_n 1, 1) := by decide +kernel
theorem dX1_become_21 : decode cX1_become 21 = .ok (.getfield 9, 3) := by decide +kernel
theorem dX1_become_24 : decode cX1_become 24 = .ok (.iload_n 2, 1) := by decide +kernel
theorem dX1_become_25 : decode cX1_become 25 = .ok (.iaload, 1) := by decide +kernel
theorem dX1_become_26 : decode cX1_become 26 = .ok (.aload_n 1, 1) := by decide +kernel
theorem dX1_become_27 : decode cX1_become 27 = .ok (.getfield 15, 3) := by decide +kernel
theorem dX1_become_30 : decode cX1_become 30 = .ok (.iload_n 2, 1) := by decide +kernel
theorem dX1_become_31 : decode cX1_become 31 = .ok (.iaload, 1) := by decide +kernel
theorem dX1_become_32 : decode cX1_become 32 = .ok (.aload_n 1, 1) := by decide +kernel
theorem dX1_become_33 : decode cX1_become 33 = .ok (.getfield 18, 3) := by decide +kernel
theorem dX1_become_36 : decode cX1_become 36 = .ok (.iload_n 2, 1) := by decide +kernel
theorem dX1_become_37 : decode cX1_become 37 = .ok (.iaload, 1) := by decide +kernel
theorem dX1_become_38 : decode cX1_become 38 = .ok (.aload_n 1, 1) := by decide +kernel
theorem dX1_become_39 : decode cX1_become 39 = .ok (.getfield 21, 3) := by decide +kernel
theorem dX1_become_42 : decode cX1_become 42 = .ok (.iload_n 2, 1) := by decide +kernel
theorem dX1_become_43 : decode cX1_become 43 = .ok (.iaload, 1) := by decide +kernel
theorem dX1_become_44 : decode cX1_become 44 = .ok (.invokevirtual 32, 3) := by decide +kernel
theorem dX1_become_47 : decode cX1_become 47 = .ok (.iinc 2 1, 3) := by decide +kernel
theorem dX1_become_50 : decode cX1_become 50 = .ok (.goto (-40), 3) := by decide +kernel
theorem dX1_become_53 : decode cX1_become 53 = .ok (.return_, 1) := by decide +kernel
theorem dX2_init_0 : decode cX2_init 0 = .ok (.aload_n 0, 1) := by decide +kernel
theorem dX2_init_1 : decode cX2_init 1 = .ok (.invokespecial 3, 3) := by decide +kernel
theorem dX2_init_4 : decode cX2_init 4 = .ok (.aload_n 0, 1) := by decide +kernel
theorem dX2_init_5 : decode cX2_init 5 = .ok (.bipush 10, 2) := by decide +kernel
theorem dX2_init_7 : decode cX2_init 7 = .ok (.newarray .int, 2) := by decide +kernel
theorem dX2_init_9 : decode cX2_init 9 = .ok (.putfield 9, 3) := by decide +kernel
theorem dX2_init_12 : decode cX2_init 12 = .ok (.aload_n 0, 1) := by decide +kernel
theorem dX2_init_13 : decode cX2_init 13 = .ok (.bipush 10, 2) := by decide +kernel
theorem dX2_init_15 : decode cX2_init 15 = .ok (.newarray .int, 2) := by decide +kernel
theorem dX2_init_17 : decode cX2_init 17 = .ok (.putfield 15, 3) := by decide +kernel
theorem dX2_init_20 : decode cX2_init 20 = .ok (.aload_n 0, 1) := by decide +kernel
theorem dX2_init_21 : decode cX2_init 21 = .ok (.bipush 10, 2) := by decide +kernel
theorem dX2_init_23 : decode cX2_init 23 = .ok (.newarray .int, 2) := by decide +kernel
theorem dX2_init_25 : decode cX2_init 25 = .ok (.putfield 18, 3) := by decide +kernel
theorem dX2_init_28 : decode cX2_init 28 = .ok (.aload_n 0, 1) := by decide +kernel
theorem dX2_init_29 : decode cX2_init 29 = .ok (.bipush 10, 2) := by decide +kernel
theorem dX2_init_31 : decode cX2_init 31 = .ok (.newarray .int, 2) := by decide +kernel
theorem dX2_init_33 : decode cX2_init 33 = .ok (.putfield 21, 3) := by decide +kernel
theorem dX2_init_36 : decode cX2_init 36 = .ok (.aload_n 0, 1) := by decide +kernel
theorem dX2_init_37 : decode cX2_init 37 = .ok (.bipush 32, 2) := by decide +kernel
theorem dX2_init_39 : decode cX2_init 39 = .ok (.newarray .int, 2) := by decide +kernel
theorem dX2_init_41 : decode cX2_init 41 = .ok (.putfield 24, 3) := by decide +kernel
theorem dX2_init_44 : decode cX2_init 44 = .ok (.aload_n 0, 1) := by decide +kernel
theorem dX2_init_45 : decode cX2_init 45 = .ok (.iconst 0, 1) := by decide +kernel
theorem dX2_init_46 : decode cX2_init 46 = .ok (.putfield 27, 3) := by decide +kernel
theorem dX2_init_49 : decode cX2_init 49 = .ok (.return_, 1) := by decide +kernel
theorem dX2_size_0 : decode cX2_size 0 = .ok (.aload_n 0, 1) := by decide +kernel
theorem dX2_size_1 : decode cX2_size 1 = .ok (.getfield 27, 3) := by decide +kernel
theorem dX2_size_4 : decode cX2_size 4 = .ok (.ireturn, 1) := by decide +kernel
theorem dX2_append_0 : decode cX2_append 0 = .ok (.aload_n 0, 1) := by decide +kernel
theorem dX2_append_1 : decode cX2_append 1 = .ok (.getfield 27, 3) := by decide +kernel
theorem dX2_append_4 : decode cX2_append 4 = .ok (.bipush 10, 2) := by decide +kernel
theorem dX2_append_6 : decode cX2_append 6 = .ok (.if_icmp .lt 5, 3) := by decide +kernel
theorem dX2_append_9 : decode cX2_append 9 = .ok (.iconst (-1), 1) := by decide +kernel
theorem dX2_append_10 : decode cX2_append 10 = .ok (.ireturn, 1) := by decide +kernel
theorem dX2_append_11 : decode cX2_append 11 = .ok (.aload_n 0, 1) := by decide +kernel
theorem dX2_append_12 : decode cX2_append 12 = .ok (.getfield 9, 3) := by decide +kernel
theorem dX2_append_15 : decode cX2_append 15 = .ok (.aload_n 0, 1) := by decide +kernel
theorem dX2_append_16 : decode cX2_append 16 = .ok (.getfield 27, 3) := by decide +kernel
theorem dX2_append_19 : decode cX2_append 19 = .ok (.iload_n 1, 1) := by decide +kernel
theorem dX2_append_20 : decode cX2_append 20 = .ok (.iastore, 1) := by decide +kernel
theorem dX2_append_21 : decode cX2_append 21 = .ok (.aload_n 0, 1) := by decide +kernel
theorem dX2_append_22 : decode cX2_append 22 = .ok (.getfield 15, 3) := by decide +kernel
theorem dX2_append_25 : decode cX2_append 25 = .ok (.aload_n 0, 1) := by decide +kernel
theorem dX2_append_26 : decode cX2_append 26 = .ok (.getfield 27, 3) := by decide +kernel
theorem dX2_append_29 : decode cX2_append 29 = .ok (.iload_n 2, 1) := by decide +kernel
theorem dX2_append_30 : decode cX2_append 30 = .ok (.iastore, 1) := by decide +kernel
theorem dX2_append_31 : decode cX2_append 31 = .ok (.aload_n 0, 1) := by decide +kernel
theorem dX2_append_32 : decode cX2_append 32 = .ok (.getfield 18, 3) := by decide +kernel
theorem dX2_append_35 : decode cX2_append 35 = .ok (.aload_n 0, 1) := by decide +kernel
theorem dX2_append_36 : decode cX2_append 36 = .ok (.getfield 27, 3) := by decide +kernel
theorem dX2_append_39 : decode cX2_append 39 = .ok (.iload_n 3, 1) := by decide +kernel
theorem dX2_append_40 : decode cX2_append 40 = .ok (.iastore, 1) := by decide +kernel
theorem dX2_append_41 : decode cX2_append 41 = .ok (.aload_n 0, 1) := by decide +kernel
theorem dX2_append_42 : decode cX2_append 42 = .ok (.getfield 21, 3) := by decide +kernel
theorem dX2_append_45 : decode cX2_append 45 = .ok (.aload_n 0, 1) := by decide +kernel
theorem dX2_append_46 : decode cX2_append 46 = .ok (.getfield 27, 3) := by decide +kernel
theorem dX2_append_49 : decode cX2_append 49 = .ok (.iload 4, 2) := by decide +kernel
theorem dX2_append_51 : decode cX2_append 51 = .ok (.iastore, 1) := by decide +kernel
theorem dX2_append_52 : decode cX2_append 52 = .ok (.aload_n 0, 1) := by decide +kernel
theorem dX2_append_53 : decode cX2_append 53 = .ok (.dup, 1) := by decide +kernel
theorem dX2_append_54 : decode cX2_append 54 = .ok (.getfield 27, 3) := by decide +kernel
theorem dX2_append_57 : decode cX2_append 57 = .ok (.iconst 1, 1) := by decide +kernel
theorem dX2_append_58 : decode cX2_append 58 = .ok (.iadd, 1) := by decide +kernel
theorem dX2_append_59 : decode cX2_append 59 = .ok (.putfield 27, 3) := by decide +kernel
theorem dX2_append_62 : decode cX2_append 62 = .ok (.aload_n 0, 1) := by decide +kernel
theorem dX2_append_63 : decode cX2_append 63 = .ok (.getfield 27, 3) := by decide +kernel
theorem dX2_append_66 : decode cX2_append 66 = .ok (.iconst 1, 1) := by decide +kernel
theorem dX2_append_67 : decode cX2_append 67 = .ok (.isub, 1) := by decide +kernel
theorem dX2_append_68 : decode cX2_append 68 = .ok (.ireturn, 1) := by decide +kernel
set_option maxRecDepth 20000 in
theorem ggX2_powersBy_X2_callsOf : GoodIn wsX2_powersBy wsX2_callsOf := goodIn_r _ [8, 9, 10, 11, 12, 13, 14, 15, 16] (by decide +kernel) (by decide +kernel)
set_option maxRecDepth 20000 in
theorem gX2_powersBy_X2_callsOf : GoodIn wsX2_powersBy (wsV RX2 31 RX2 yX2_callsOf wsX2_callsOf) := goodIn_app (goodIn_of _ (by decide +kernel)) ggX2_powersBy_X2_callsOf
theorem dX2_powersBy_0 : decode cX2_powersBy 0 = .ok (.iconst 0, 1) := by decide +kernel
theorem dX2_powersBy_1 : decode cX2_powersBy 1 = .ok (.istore_n 2, 1) := by decide +kernel
theorem dX2_powersBy_2 : decode cX2_powersBy 2 = .ok (.iconst 0, 1) := by decide +kernel
theorem dX2_powersBy_3 : decode cX2_powersBy 3 = .ok (.istore_n 3, 1) := by decide +kernel
theorem dX2_powersBy_4 : decode cX2_powersBy 4 = .ok (.iload_n 3, 1) := by decide +kernel
theorem dX2_powersBy_5 : decode cX2_powersBy 5 = .ok (.aload_n 0, 1) := by decide +kernel
theorem dX2_powersBy_6 : decode cX2_powersBy 6 = .ok (.getfield 27, 3) := by decide +kernel
theorem dX2_powersBy_9 : decode cX2_powersBy 9 = .ok (.if_icmp .ge 72, 3) := by decide +kernel
theorem dX2_powersBy_12 : decode cX2_powersBy 12 = .ok (.iload_n 2, 1) := by decide +kernel
theorem dX2_powersBy_13 : decode cX2_powersBy 13 = .ok (.istore 4, 2) := by decide +kernel
theorem dX2_powersBy_15 : decode cX2_powersBy 15 = .ok (.iconst 0, 1) := by decide +kernel
theorem dX2_powersBy_16 : decode cX2_powersBy 16 = .ok (.istore 5, 2) := by decide +kernel
theorem dX2_powersBy_18 : decode cX2_powersBy 18 = .ok (.iload 5, 2) := by decide +kernel
theorem dX2_powersBy_20 : decode cX2_powersBy 20 = .ok (.aload_n 0, 1) := by decide +kernel
theorem dX2_powersBy_21 : decode cX2_powersBy 21 = .ok (.getfield 27, 3) := by decide +kernel
theorem dX2_powersBy_24 : decode cX2_powersBy 24 = .ok (.if_icmp .ge 43, 3) := by decide +kernel
theorem dX2_powersBy_27 : decode cX2_powersBy 27 = .ok (.aload_n 0, 1) := by decide +kernel
theorem dX2_powersBy_28 : decode cX2_powersBy 28 = .ok (.iload 5, 2) := by decide +kernel
theorem dX2_powersBy_30 : decode cX2_powersBy 30 = .ok (.aload_n 1, 1) := by decide +kernel
theorem dX2_powersBy_31 : decode cX2_powersBy 31 = .ok (.invokevirtual 31, 3) := by decide +kernel
theorem dX2_powersBy_34 : decode cX2_powersBy 34 = .ok (.ifCond .eq 27, 3) := by decide +kernel
theorem dX2_powersBy_37 : decode cX2_powersBy 37 = .ok (.aload_n 0, 1) := by decide +kernel
theorem dX2_powersBy_38 : decode cX2_powersBy 38 = .ok (.getfield 18, 3) := by decide +kernel
theorem dX2_powersBy_41 : decode cX2_powersBy 41 = .ok (.iload 5, 2) := by decide +kernel
theorem dX2_powersBy_43 : decode cX2_powersBy 43 = .ok (.iaload, 1) := by decide +kernel
theorem dX2_powersBy_44 : decode cX2_powersBy 44 = .ok (.iload_n 2, 1) := by decide +kernel
theorem dX2_powersBy_45 : decode cX2_powersBy 45 = .ok (.iconst (-1), 1) := by decide +kernel
theorem dX2_powersBy_46 : decode cX2_powersBy 46 = .ok (.ixor, 1) := by decide +kernel
theorem dX2_powersBy_47 : decode cX2_powersBy 47 = .ok (.iand, 1) := by decide +kernel
theorem dX2_powersBy_48 : decode cX2_powersBy 48 = .ok (.ifCond .ne 13, 3) := by decide +kernel
theorem dX2_powersBy_51 : decode cX2_powersBy 51 = .ok (.iload_n 2, 1) := by decide +kernel
theorem dX2_powersBy_52 : decode cX2_powersBy 52 = .ok (.aload_n 0, 1) := by decide +kernel
theorem dX2_powersBy_53 : decode cX2_powersBy 53 = .ok (.getfield 21, 3) := by decide +kernel
theorem dX2_powersBy_56 : decode cX2_powersBy 56 = .ok (.iload 5, 2) := by decide +kernel
theorem dX2_powersBy_58 : decode cX2_powersBy 58 = .ok (.iaload, 1) := by decide +kernel
theorem dX2_powersBy_59 : decode cX2_powersBy 59 = .ok (.ior, 1) := by decide +kernel
theorem dX2_powersBy_60 : decode cX2_powersBy 60 = .ok (.istore_n 2, 1) := by decide +kernel
theorem dX2_powersBy_61 : decode cX2_powersBy 61 = .ok (.iinc 5 1, 3) := by decide +kernel
theorem dX2_powersBy_64 : decode cX2_powersBy 64 = .ok (.goto (-46), 3) := by decide +kernel
theorem dX2_powersBy_67 : decode cX2_powersBy 67 = .ok (.iload_n 2, 1) := by decide +kernel
theorem dX2_powersBy_68 : decode cX2_powersBy 68 = .ok (.iload 4, 2) := by decide +kernel
theorem dX2_powersBy_70 : decode cX2_powersBy 70 = .ok (.if_icmp .ne 5, 3) := by decide +kernel
theorem dX2_powersBy_73 : decode cX2_powersBy 73 = .ok (.iload_n 2, 1) := by decide +kernel
theorem dX2_powersBy_74 : decode cX2_powersBy 74 = .ok (.ireturn, 1) := by decide +kernel
theorem dX2_powersBy_75 : decode cX2_powersBy 75 = .ok (.iinc 3 1, 3) := by decide +kernel
theorem dX2_powersBy_78 : decode cX2_powersBy 78 = .ok (.goto (-74), 3) := by decide +kernel
theorem dX2_powersBy_81 : decode cX2_powersBy 81 = .ok (.iload_n 2, 1) := by decide +kernel
theorem dX2_powersBy_82 : decode cX2_powersBy 82 = .ok (.ireturn, 1) := by decide +kernel
set_option maxRecDepth 20000 in
theorem ggX2_leastCut_X2_cuttable : GoodIn wsX2_leastCut wsX2_cuttable := goodIn_r _ [6, 7, 8, 9, 10, 11, 5, 12, 13, 38, 39, 40, 41, 42, 43] (by decide +kernel) (by decide +kernel)
set_option maxRecDepth 20000 in
theorem gX2_leastCut_X2_cuttable : GoodIn wsX2_leastCut (wsV RX2 35 RX2 yX2_cuttable wsX2_cuttable) := goodIn_app (goodIn_of _ (by decide +kernel)) ggX2_leastCut_X2_cuttable
set_option maxRecDepth 20000 in
theorem ggX2_leastCut_X2_takeOut : GoodIn wsX2_leastCut wsX2_takeOut := goodIn_r _ [17, 1, 18, 19, 20, 21, 7, 8, 22, 23, 24, 9, 10, 11, 5, 12, 13, 25, 26, 27, 28, 29, 30, 31, 38, 39, 40, 41, 42, 43] (by decide +kernel) (by decide +kernel)
set_option maxRecDepth 20000 in
theorem gX2_leastCut_X2_takeOut : GoodIn wsX2_leastCut (wsV RX2 39 RX2 yX2_takeOut wsX2_takeOut) := goodIn_app (goodIn_of _ (by decide +kernel)) ggX2_leastCut_X2_takeOut
set_option maxRecDepth 20000 in
theorem ggX2_leastCut_X2_powersBy : GoodIn wsX2_leastCut wsX2_powersBy := goodIn_r _ [35, 7, 36, 37, 9, 10, 11, 5, 12, 8, 13, 38, 39, 40, 41, 42, 43] (by decide +kernel) (by decide +kernel)
set_option maxRecDepth 20000 in
theorem gX2_leastCut_X2_powersBy : GoodIn wsX2_leastCut (wsV RX2 43 RX2 yX2_powersBy wsX2_powersBy) := goodIn_app (goodIn_of _ (by decide +kernel)) ggX2_leastCut_X2_powersBy
set_option maxRecDepth 20000 in
theorem ggX2_leastCut_X8_holds : GoodIn wsX2_leastCut wsX8_holds := goodIn_r _ [24] (by decide +kernel) (by decide +kernel)
set_option maxRecDepth 20000 in
theorem gX2_leastCut_X8_holds_n47 : GoodIn wsX2_leastCut (wsX8_holds) := ggX2_leastCut_X8_holds
set_option maxRecDepth 20000 in
theorem ggX2_leastCut_J6_bitCount_0f7a4 : GoodIn wsX2_leastCut wsJ6_bitCount_0f7a4 := goodIn_r _ [28, 29, 30, 31] (by decide +kernel) (by decide +kernel)
set_option maxRecDepth 20000 in
theorem gX2_leastCut_J6_bitCount_0f7a4 : GoodIn wsX2_leastCut (va_wsS RX2 51 yJ6_bitCount_0f7a4 wsJ6_bitCount_0f7a4) := goodIn_app (goodIn_of _ (by decide +kernel)) ggX2_leastCut_J6_bitCount_0f7a4
theorem dX2_leastCut_0 : decode cX2_leastCut 0 = .ok (.aload_n 0, 1) := by decide +kernel
theorem dX2_leastCut_1 : decode cX2_leastCut 1 = .ok (.aload_n 1, 1) := by decide +kernel
theorem dX2_leastCut_2 : decode cX2_leastCut 2 = .ok (.aload_n 2, 1) := by decide +kernel
theorem dX2_leastCut_3 : decode cX2_leastCut 3 = .ok (.invokevirtual 35, 3) := by decide +kernel
theorem dX2_leastCut_6 : decode cX2_leastCut 6 = .ok (.istore 4, 2) := by decide +kernel
theorem dX2_leastCut_8 : decode cX2_leastCut 8 = .ok (.aload_n 0, 1) := by decide +kernel
theorem dX2_leastCut_9 : decode cX2_leastCut 9 = .ok (.aload_n 1, 1) := by decide +kernel
theorem dX2_leastCut_10 : decode cX2_leastCut 10 = .ok (.iload 4, 2) := by decide +kernel
theorem dX2_leastCut_12 : decode cX2_leastCut 12 = .ok (.invokevirtual 39, 3) := by decide +kernel
theorem dX2_leastCut_15 : decode cX2_leastCut 15 = .ok (.pop, 1) := by decide +kernel
theorem dX2_leastCut_16 : decode cX2_leastCut 16 = .ok (.aload_n 0, 1) := by decide +kernel
theorem dX2_leastCut_17 : decode cX2_leastCut 17 = .ok (.aload_n 0, 1) := by decide +kernel
theorem dX2_leastCut_18 : decode cX2_leastCut 18 = .ok (.getfield 24, 3) := by decide +kernel
theorem dX2_leastCut_21 : decode cX2_leastCut 21 = .ok (.invokevirtual 43, 3) := by decide +kernel
theorem dX2_leastCut_24 : decode cX2_leastCut 24 = .ok (.iload_n 3, 1) := by decide +kernel
theorem dX2_leastCut_25 : decode cX2_leastCut 25 = .ok (.invokestatic 47, 3) := by decide +kernel
theorem dX2_leastCut_28 : decode cX2_leastCut 28 = .ok (.ifCond .eq 5, 3) := by decide +kernel
theorem dX2_leastCut_31 : decode cX2_leastCut 31 = .ok (.iconst (-1), 1) := by decide +kernel
theorem dX2_leastCut_32 : decode cX2_leastCut 32 = .ok (.ireturn, 1) := by decide +kernel
theorem dX2_leastCut_33 : decode cX2_leastCut 33 = .ok (.iload 4, 2) := by decide +kernel
theorem dX2_leastCut_35 : decode cX2_leastCut 35 = .ok (.istore 5, 2) := by decide +kernel
theorem dX2_leastCut_37 : decode cX2_leastCut 37 = .ok (.sipush 1025, 3) := by decide +kernel
theorem dX2_leastCut_40 : decode cX2_leastCut 40 = .ok (.istore 6, 2) := by decide +kernel
theorem dX2_leastCut_42 : decode cX2_leastCut 42 = .ok (.iconst 0, 1) := by decide +kernel
theorem dX2_leastCut_43 : decode cX2_leastCut 43 = .ok (.istore 7, 2) := by decide +kernel
theorem dX2_leastCut_45 : decode cX2_leastCut 45 = .ok (.iload 7, 2) := by decide +kernel
theorem dX2_leastCut_47 : decode cX2_leastCut 47 = .ok (.iload 4, 2) := by decide +kernel
theorem dX2_leastCut_49 : decode cX2_leastCut 49 = .ok (.if_icmp .gt 95, 3) := by decide +kernel
theorem dX2_leastCut_52 : decode cX2_leastCut 52 = .ok (.iload 6, 2) := by decide +kernel
theorem dX2_leastCut_54 : decode cX2_leastCut 54 = .ok (.ifCond .le 90, 3) := by decide +kernel
theorem dX2_leastCut_57 : decode cX2_leastCut 57 = .ok (.iload 7, 2) := by decide +kernel
theorem dX2_leastCut_59 : decode cX2_leastCut 59 = .ok (.iload 4, 2) := by decide +kernel
theorem dX2_leastCut_61 : decode cX2_leastCut 61 = .ok (.iconst (-1), 1) := by decide +kernel
theorem dX2_leastCut_62 : decode cX2_leastCut 62 = .ok (.ixor, 1) := by decide +kernel
theorem dX2_leastCut_63 : decode cX2_leastCut 63 = .ok (.iand, 1) := by decide +kernel
theorem dX2_leastCut_64 : decode cX2_leastCut 64 = .ok (.ifCond .ne 74, 3) := by decide +kernel
theorem dX2_leastCut_67 : decode cX2_leastCut 67 = .ok (.aload_n 0, 1) := by decide +kernel
theorem dX2_leastCut_68 : decode cX2_leastCut 68 = .ok (.aload_n 1, 1) := by decide +kernel
theorem dX2_leastCut_69 : decode cX2_leastCut 69 = .ok (.iload 7, 2) := by decide +kernel
theorem dX2_leastCut_71 : decode cX2_leastCut 71 = .ok (.invokevirtual 39, 3) := by decide +kernel
theorem dX2_leastCut_74 : decode cX2_leastCut 74 = .ok (.istore 8, 2) := by decide +kernel
theorem dX2_leastCut_76 : decode cX2_leastCut 76 = .ok (.iload 8, 2) := by decide +kernel
theorem dX2_leastCut_78 : decode cX2_leastCut 78 = .ok (.iload 6, 2) := by decide +kernel
theorem dX2_leastCut_80 : decode cX2_leastCut 80 = .ok (.if_icmp .lt 23, 3) := by decide +kernel
theorem dX2_leastCut_83 : decode cX2_leastCut 83 = .ok (.iload 8, 2) := by decide +kernel
theorem dX2_leastCut_85 : decode cX2_leastCut 85 = .ok (.iload 6, 2) := by decide +kernel
theorem dX2_leastCut_87 : decode cX2_leastCut 87 = .ok (.if_icmp .ne 20, 3) := by decide +kernel
theorem dX2_leastCut_90 : decode cX2_leastCut 90 = .ok (.iload 7, 2) := by decide +kernel
theorem dX2_leastCut_92 : decode cX2_leastCut 92 = .ok (.invokestatic 51, 3) := by decide +kernel
theorem dX2_leastCut_95 : decode cX2_leastCut 95 = .ok (.iload 5, 2) := by decide +kernel
theorem dX2_leastCut_97 : decode cX2_leastCut 97 = .ok (.invokestatic 51, 3) := by decide +kernel
theorem dX2_leastCut_100 : decode cX2_leastCut 100 = .ok (.if_icmp .ge 7, 3) := by decide +kernel
theorem dX2_leastCut_103 : decode cX2_leastCut 103 = .ok (.iconst 1, 1) := by decide +kernel
theorem dX2_leastCut_104 : decode cX2_leastCut 104 = .ok (.goto 4, 3) := by decide +kernel
theorem dX2_leastCut_107 : decode cX2_leastCut 107 = .ok (.iconst 0, 1) := by decide +kernel
theorem dX2_leastCut_108 : decode cX2_leastCut 108 = .ok (.istore 9, 2) := by decide +kernel
theorem dX2_leastCut_110 : decode cX2_leastCut 110 = .ok (.iload 9, 2) := by decide +kernel
theorem dX2_leastCut_112 : decode cX2_leastCut 112 = .ok (.ifCond .eq 26, 3) := by decide +kernel
theorem dX2_leastCut_115 : decode cX2_leastCut 115 = .ok (.aload_n 0, 1) := by decide +kernel
theorem dX2_leastCut_116 : decode cX2_leastCut 116 = .ok (.aload_n 0, 1) := by decide +kernel
theorem dX2_leastCut_117 : decode cX2_leastCut 117 = .ok (.getfield 24, 3) := by decide +kernel
theorem dX2_leastCut_120 : decode cX2_leastCut 120 = .ok (.invokevirtual 43, 3) := by decide +kernel
theorem dX2_leastCut_123 : decode cX2_leastCut 123 = .ok (.iload_n 3, 1) := by decide +kernel
theorem dX2_leastCut_124 : decode cX2_leastCut 124 = .ok (.invokestatic 47, 3) := by decide +kernel
theorem dX2_leastCut_127 : decode cX2_leastCut 127 = .ok (.ifCond .ne 11, 3) := by decide +kernel
theorem dX2_leastCut_130 : decode cX2_leastCut 130 = .ok (.iload 7, 2) := by decide +kernel
theorem dX2_leastCut_132 : decode cX2_leastCut 132 = .ok (.istore 5, 2) := by decide +kernel
theorem dX2_leastCut_134 : decode cX2_leastCut 134 = .ok (.iload 8, 2) := by decide +kernel
theorem dX2_leastCut_136 : decode cX2_leastCut 136 = .ok (.istore 6, 2) := by decide +kernel
theorem dX2_leastCut_138 : decode cX2_leastCut 138 = .ok (.iinc 7 1, 3) := by decide +kernel
theorem dX2_leastCut_141 : decode cX2_leastCut 141 = .ok (.goto (-96), 3) := by decide +kernel
theorem dX2_leastCut_144 : decode cX2_leastCut 144 = .ok (.iload 5, 2) := by decide +kernel
theorem dX2_leastCut_146 : decode cX2_leastCut 146 = .ok (.ireturn, 1) := by decide +kernel
set_option maxRecDepth 20000 in
theorem ggX2_takeOut_X8_holds : GoodIn wsX2_takeOut wsX8_holds := goodIn_r _ [10] (by decide +kernel) (by decide +kernel)
set_option maxRecDepth 20000 in
theorem gX2_takeOut_X8_holds_n47 : GoodIn wsX2_takeOut (wsX8_holds) := ggX2_takeOut_X8_holds
set_option maxRecDepth 20000 in
theorem ggX2_takeOut_X2_callsOf : GoodIn wsX2_takeOut wsX2_callsOf := goodIn_r _ [15, 7, 16, 24, 25, 26, 27, 28, 29] (by decide +kernel) (by decide +kernel)
set_option maxRecDepth 20000 in
theorem gX2_takeOut_X2_callsOf : GoodIn wsX2_takeOut (wsV RX2 31 RX2 yX2_callsOf wsX2_callsOf) := goodIn_app (goodIn_of _ (by decide +kernel)) ggX2_takeOut_X2_callsOf
set_option maxRecDepth 20000 in
theorem ggX2_takeOut_J6_bitCount_0f7a4 : GoodIn wsX2_takeOut wsJ6_bitCount_0f7a4 := goodIn_r _ [20, 21, 22, 23] (by decide +kernel) (by decide +kernel)
set_option maxRecDepth 20000 in
theorem gX2_takeOut_J6_bitCount_0f7a4 : GoodIn wsX2_takeOut (va_wsS RX2 51 yJ6_bitCount_0f7a4 wsJ6_bitCount_0f7a4) := goodIn_app (goodIn_of _ (by decide +kernel)) ggX2_takeOut_J6_bitCount_0f7a4
theorem dX2_takeOut_0 : decode cX2_takeOut 0 = .ok (.aload_n 1, 1) := by decide +kernel
theorem dX2_takeOut_1 : decode cX2_takeOut 1 = .ok (.iconst 0, 1) := by decide +kernel
theorem dX2_takeOut_2 : decode cX2_takeOut 2 = .ok (.aload_n 0, 1) := by decide +kernel
theorem dX2_takeOut_3 : decode cX2_takeOut 3 = .ok (.getfield 24, 3) := by decide +kernel
theorem dX2_takeOut_6 : decode cX2_takeOut 6 = .ok (.iconst 0, 1) := by decide +kernel
theorem dX2_takeOut_7 : decode cX2_takeOut 7 = .ok (.bipush 32, 2) := by decide +kernel
theorem dX2_takeOut_9 : decode cX2_takeOut 9 = .ok (.invokestatic 57, 3) := by decide +kernel
theorem dX2_takeOut_12 : decode cX2_takeOut 12 = .ok (.iconst 0, 1) := by decide +kernel
theorem dX2_takeOut_13 : decode cX2_takeOut 13 = .ok (.istore_n 3, 1) := by decide +kernel
theorem dX2_takeOut_14 : decode cX2_takeOut 14 = .ok (.iconst 0, 1) := by decide +kernel
theorem dX2_takeOut_15 : decode cX2_takeOut 15 = .ok (.istore 4, 2) := by decide +kernel
theorem dX2_takeOut_17 : decode cX2_takeOut 17 = .ok (.iload 4, 2) := by decide +kernel
theorem dX2_takeOut_19 : decode cX2_takeOut 19 = .ok (.aload_n 0, 1) := by decide +kernel
theorem dX2_takeOut_20 : decode cX2_takeOut 20 = .ok (.getfield 27, 3) := by decide +kernel
theorem dX2_takeOut_23 : decode cX2_takeOut 23 = .ok (.if_icmp .ge 57, 3) := by decide +kernel
theorem dX2_takeOut_26 : decode cX2_takeOut 26 = .ok (.iload_n 2, 1) := by decide +kernel
theorem dX2_takeOut_27 : decode cX2_takeOut 27 = .ok (.iload 4, 2) := by decide +kernel
theorem dX2_takeOut_29 : decode cX2_takeOut 29 = .ok (.invokestatic 47, 3) := by decide +kernel
theorem dX2_takeOut_32 : decode cX2_takeOut 32 = .ok (.ifCond .eq 42, 3) := by decide +kernel
theorem dX2_takeOut_35 : decode cX2_takeOut 35 = .ok (.aload_n 0, 1) := by decide +kernel
theorem dX2_takeOut_36 : decode cX2_takeOut 36 = .ok (.iload 4, 2) := by decide +kernel
theorem dX2_takeOut_38 : decode cX2_takeOut 38 = .ok (.aload_n 0, 1) := by decide +kernel
theorem dX2_takeOut_39 : decode cX2_takeOut 39 = .ok (.getfield 24, 3) := by decide +kernel
theorem dX2_takeOut_42 : decode cX2_takeOut 42 = .ok (.invokevirtual 31, 3) := by decide +kernel
theorem dX2_takeOut_45 : decode cX2_takeOut 45 = .ok (.istore 5, 2) := by decide +kernel
theorem dX2_takeOut_47 : decode cX2_takeOut 47 = .ok (.iload_n 3, 1) := by decide +kernel
theorem dX2_takeOut_48 : decode cX2_takeOut 48 = .ok (.iload 5, 2) := by decide +kernel
theorem dX2_takeOut_50 : decode cX2_takeOut 50 = .ok (.invokestatic 51, 3) := by decide +kernel
theorem dX2_takeOut_53 : decode cX2_takeOut 53 = .ok (.iadd, 1) := by decide +kernel
theorem dX2_takeOut_54 : decode cX2_takeOut 54 = .ok (.istore_n 3, 1) := by decide +kernel
theorem dX2_takeOut_55 : decode cX2_takeOut 55 = .ok (.aload_n 0, 1) := by decide +kernel
theorem dX2_takeOut_56 : decode cX2_takeOut 56 = .ok (.getfield 24, 3) := by decide +kernel
theorem dX2_takeOut_59 : decode cX2_takeOut 59 = .ok (.aload_n 0, 1) := by decide +kernel
theorem dX2_takeOut_60 : decode cX2_takeOut 60 = .ok (.getfield 9, 3) := by decide +kernel
theorem dX2_takeOut_63 : decode cX2_takeOut 63 = .ok (.iload 4, 2) := by decide +kernel
theorem dX2_takeOut_65 : decode cX2_takeOut 65 = .ok (.iaload, 1) := by decide +kernel
theorem dX2_takeOut_66 : decode cX2_takeOut 66 = .ok (.dup2, 1) := by decide +kernel
theorem dX2_takeOut_67 : decode cX2_takeOut 67 = .ok (.iaload, 1) := by decide +kernel
theorem dX2_takeOut_68 : decode cX2_takeOut 68 = .ok (.iload 5, 2) := by decide +kernel
theorem dX2_takeOut_70 : decode cX2_takeOut 70 = .ok (.iconst (-1), 1) := by decide +kernel
theorem dX2_takeOut_71 : decode cX2_takeOut 71 = .ok (.ixor, 1) := by decide +kernel
theorem dX2_takeOut_72 : decode cX2_takeOut 72 = .ok (.iand, 1) := by decide +kernel
theorem dX2_takeOut_73 : decode cX2_takeOut 73 = .ok (.iastore, 1) := by decide +kernel
theorem dX2_takeOut_74 : decode cX2_takeOut 74 = .ok (.iinc 4 1, 3) := by decide +kernel
theorem dX2_takeOut_77 : decode cX2_takeOut 77 = .ok (.goto (-60), 3) := by decide +kernel
theorem dX2_takeOut_80 : decode cX2_takeOut 80 = .ok (.iload_n 3, 1) := by decide +kernel
theorem dX2_takeOut_81 : decode cX2_takeOut 81 = .ok (.ireturn, 1) := by decide +kernel
set_option maxRecDepth 20000 in
theorem ggX2_cuttable_X2_callsOf : GoodIn wsX2_cuttable wsX2_callsOf := goodIn_r _ [7, 2, 8, 9, 10, 11, 12, 13, 14] (by decide +kernel) (by decide +kernel)
set_option maxRecDepth 20000 in
theorem gX2_cuttable_X2_callsOf : GoodIn wsX2_cuttable (wsV RX2 31 RX2 yX2_callsOf wsX2_callsOf) := goodIn_app (goodIn_of _ (by decide +kernel)) ggX2_cuttable_X2_callsOf
theorem dX2_cuttable_0 : decode cX2_cuttable 0 = .ok (.iconst 0, 1) := by decide +kernel
theorem dX2_cuttable_1 : decode cX2_cuttable 1 = .ok (.istore_n 3, 1) := by decide +kernel
theorem dX2_cuttable_2 : decode cX2_cuttable 2 = .ok (.iconst 0, 1) := by decide +kernel
theorem dX2_cuttable_3 : decode cX2_cuttable 3 = .ok (.istore 4, 2) := by decide +kernel
theorem dX2_cuttable_5 : decode cX2_cuttable 5 = .ok (.iload 4, 2) := by decide +kernel
theorem dX2_cuttable_7 : decode cX2_cuttable 7 = .ok (.aload_n 0, 1) := by decide +kernel
theorem dX2_cuttable_8 : decode cX2_cuttable 8 = .ok (.getfield 27, 3) := by decide +kernel
theorem dX2_cuttable_11 : decode cX2_cuttable 11 = .ok (.if_icmp .ge 45, 3) := by decide +kernel
theorem dX2_cuttable_14 : decode cX2_cuttable 14 = .ok (.aload_n 0, 1) := by decide +kernel
theorem dX2_cuttable_15 : decode cX2_cuttable 15 = .ok (.iload 4, 2) := by decide +kernel
theorem dX2_cuttable_17 : decode cX2_cuttable 17 = .ok (.aload_n 1, 1) := by decide +kernel
theorem dX2_cuttable_18 : decode cX2_cuttable 18 = .ok (.invokevirtual 31, 3) := by decide +kernel
theorem dX2_cuttable_21 : decode cX2_cuttable 21 = .ok (.istore 5, 2) := by decide +kernel
theorem dX2_cuttable_23 : decode cX2_cuttable 23 = .ok (.iload 5, 2) := by decide +kernel
theorem dX2_cuttable_25 : decode cX2_cuttable 25 = .ok (.ifCond .eq 25, 3) := by decide +kernel
theorem dX2_cuttable_28 : decode cX2_cuttable 28 = .ok (.iload 5, 2) := by decide +kernel
theorem dX2_cuttable_30 : decode cX2_cuttable 30 = .ok (.aload_n 2, 1) := by decide +kernel
theorem dX2_cuttable_31 : decode cX2_cuttable 31 = .ok (.aload_n 0, 1) := by decide +kernel
theorem dX2_cuttable_32 : decode cX2_cuttable 32 = .ok (.getfield 9, 3) := by decide +kernel
theorem dX2_cuttable_35 : decode cX2_cuttable 35 = .ok (.iload 4, 2) := by decide +kernel
theorem dX2_cuttable_37 : decode cX2_cuttable 37 = .ok (.iaload, 1) := by decide +kernel
theorem dX2_cuttable_38 : decode cX2_cuttable 38 = .ok (.iaload, 1) := by decide +kernel
theorem dX2_cuttable_39 : decode cX2_cuttable 39 = .ok (.iand, 1) := by decide +kernel
theorem dX2_cuttable_40 : decode cX2_cuttable 40 = .ok (.ifCond .ne 10, 3) := by decide +kernel
theorem dX2_cuttable_43 : decode cX2_cuttable 43 = .ok (.iload_n 3, 1) := by decide +kernel
theorem dX2_cuttable_44 : decode cX2_cuttable 44 = .ok (.iconst 1, 1) := by decide +kernel
theorem dX2_cuttable_45 : decode cX2_cuttable 45 = .ok (.iload 4, 2) := by decide +kernel
theorem dX2_cuttable_47 : decode cX2_cuttable 47 = .ok (.ishl, 1) := by decide +kernel
theorem dX2_cuttable_48 : decode cX2_cuttable 48 = .ok (.ior, 1) := by decide +kernel
theorem dX2_cuttable_49 : decode cX2_cuttable 49 = .ok (.istore_n 3, 1) := by decide +kernel
theorem dX2_cuttable_50 : decode cX2_cuttable 50 = .ok (.iinc 4 1, 3) := by decide +kernel
theorem dX2_cuttable_53 : decode cX2_cuttable 53 = .ok (.goto (-48), 3) := by decide +kernel
theorem dX2_cuttable_56 : decode cX2_cuttable 56 = .ok (.iload_n 3, 1) := by decide +kernel
theorem dX2_cuttable_57 : decode cX2_cuttable 57 = .ok (.ireturn, 1) := by decide +kernel
theorem dX2_callsOf_0 : decode cX2_callsOf 0 = .ok (.aload_n 2, 1) := by decide +kernel
theorem dX2_callsOf_1 : decode cX2_callsOf 1 = .ok (.aload_n 0, 1) := by decide +kernel
theorem dX2_callsOf_2 : decode cX2_callsOf 2 = .ok (.getfield 9, 3) := by decide +kernel
theorem dX2_callsOf_5 : decode cX2_callsOf 5 = .ok (.iload_n 1, 1) := by decide +kernel
theorem dX2_callsOf_6 : decode cX2_callsOf 6 = .ok (.iaload, 1) := by decide +kernel
theorem dX2_callsOf_7 : decode cX2_callsOf 7 = .ok (.iaload, 1) := by decide +kernel
theorem dX2_callsOf_8 : decode cX2_callsOf 8 = .ok (.aload_n 0, 1) := by decide +kernel
theorem dX2_callsOf_9 : decode cX2_callsOf 9 = .ok (.getfield 15, 3) := by decide +kernel
theorem dX2_callsOf_12 : decode cX2_callsOf 12 = .ok (.iload_n 1, 1) := by decide +kernel
theorem dX2_callsOf_13 : decode cX2_callsOf 13 = .ok (.iaload, 1) := by decide +kernel
theorem dX2_callsOf_14 : decode cX2_callsOf 14 = .ok (.iand, 1) := by decide +kernel
theorem dX2_callsOf_15 : decode cX2_callsOf 15 = .ok (.ireturn, 1) := by decide +kernel
theorem dX3_init_0 : decode cX3_init 0 = .ok (.aload_n 0, 1) := by decide +kernel
theorem dX3_init_1 : decode cX3_init 1 = .ok (.invokespecial 3, 3) := by decide +kernel
theorem dX3_init_4 : decode cX3_init 4 = .ok (.aload_n 0, 1) := by decide +kernel
theorem dX3_init_5 : decode cX3_init 5 = .ok (.iconst 2, 1) := by decide +kernel
theorem dX3_init_6 : decode cX3_init 6 = .ok (.newarray .int, 2) := by decide +kernel
theorem dX3_init_8 : decode cX3_init 8 = .ok (.putfield 9, 3) := by decide +kernel
theorem dX3_init_11 : decode cX3_init 11 = .ok (.aload_n 0, 1) := by decide +kernel
theorem dX3_init_12 : decode cX3_init 12 = .ok (.iconst (-1), 1) := by decide +kernel
theorem dX3_init_13 : decode cX3_init 13 = .ok (.putfield 15, 3) := by decide +kernel
theorem dX3_init_16 : decode cX3_init 16 = .ok (.return_, 1) := by decide +kernel
theorem dX3_latestEnd_0 : decode cX3_latestEnd 0 = .ok (.aload_n 0, 1) := by decide +kernel
theorem dX3_latestEnd_1 : decode cX3_latestEnd 1 = .ok (.getfield 15, 3) := by decide +kernel
theorem dX3_latestEnd_4 : decode cX3_latestEnd 4 = .ok (.ireturn, 1) := by decide +kernel
set_option maxRecDepth 20000 in
theorem ggX3_perform_J7_fill_53178 : GoodIn wsX3_perform wsJ7_fill_53178 := goodIn_r _ [10] (by decide +kernel) (by decide +kernel)
set_option maxRecDepth 20000 in
theorem gX3_perform_J7_fill_53178 : GoodIn wsX3_perform (va_wsS RX3 19 yJ7_fill_53178 wsJ7_fill_53178) := goodIn_app (goodIn_of _ (by decide +kernel)) ggX3_perform_J7_fill_53178
set_option maxRecDepth 20000 in
theorem ggX3_perform_X3_endAfter : GoodIn wsX3_perform wsX3_endAfter := goodIn_r _ [15, 2, 4, 16, 17, 18, 19, 20, 21, 22, 23, 24, 25, 26, 27, 28, 29, 30, 67, 68, 69, 70, 71, 72, 73, 74, 75, 76, 77] (by decide +kernel) (by decide +kernel)
set_option maxRecDepth 20000 in
theorem gX3_perform_X3_endAfter : GoodIn wsX3_perform (wsV RX3 37 RX3 yX3_endAfter wsX3_endAfter) := goodIn_app (goodIn_of _ (by decide +kernel)) ggX3_perform_X3_endAfter
set_option maxRecDepth 20000 in
theorem ggX3_perform_X3_step : GoodIn wsX3_perform wsX3_step := goodIn_r _ [34, 2, 1, 3, 5, 27, 28, 29, 19, 30, 21, 35, 36, 37, 38, 39, 40, 41, 42, 43, 44, 45, 46, 47, 48, 49, 50, 51, 52, 53, 54, 55, 56, 57, 58, 14, 59, 4, 60, 61, 62, 63, 64, 65, 66, 67, 68, 69, 70, 71, 72, 73, 74, 75, 76, 77, 78, 79, 80] (by decide +kernel) (by decide +kernel)
set_option maxRecDepth 20000 in
theorem gX3_perform_X3_step : GoodIn wsX3_perform (wsV RX3 41 RX3 yX3_step wsX3_step) := goodIn_app (goodIn_of _ (by decide +kernel)) ggX3_perform_X3_step
theorem dX3_perform_0 : decode cX3_perform 0 = .ok (.aload_n 0, 1) := by decide +kernel
theorem dX3_perform_1 : decode cX3_perform 1 = .ok (.getfield 9, 3) := by decide +kernel
theorem dX3_perform_4 : decode cX3_perform 4 = .ok (.iconst 0, 1) := by decide +kernel
theorem dX3_perform_5 : decode cX3_perform 5 = .ok (.invokestatic 19, 3) := by decide +kernel
theorem dX3_perform_8 : decode cX3_perform 8 = .ok (.aload_n 0, 1) := by decide +kernel
theorem dX3_perform_9 : decode cX3_perform 9 = .ok (.iconst 0, 1) := by decide +kernel
theorem dX3_perform_10 : decode cX3_perform 10 = .ok (.putfield 25, 3) := by decide +kernel
theorem dX3_perform_13 : decode cX3_perform 13 = .ok (.aload_n 0, 1) := by decide +kernel
theorem dX3_perform_14 : decode cX3_perform 14 = .ok (.iconst 0, 1) := by decide +kernel
theorem dX3_perform_15 : decode cX3_perform 15 = .ok (.putfield 28, 3) := by decide +kernel
theorem dX3_perform_18 : decode cX3_perform 18 = .ok (.aload_n 0, 1) := by decide +kernel
theorem dX3_perform_19 : decode cX3_perform 19 = .ok (.iconst 0, 1) := by decide +kernel
theorem dX3_perform_20 : decode cX3_perform 20 = .ok (.putfield 31, 3) := by decide +kernel
theorem dX3_perform_23 : decode cX3_perform 23 = .ok (.aload_n 0, 1) := by decide +kernel
theorem dX3_perform_24 : decode cX3_perform 24 = .ok (.iconst 0, 1) := by decide +kernel
theorem dX3_perform_25 : decode cX3_perform 25 = .ok (.putfield 34, 3) := by decide +kernel
theorem dX3_perform_28 : decode cX3_perform 28 = .ok (.iconst (-1), 1) := by decide +kernel
theorem dX3_perform_29 : decode cX3_perform 29 = .ok (.istore 5, 2) := by decide +kernel
theorem dX3_perform_31 : decode cX3_perform 31 = .ok (.iconst 0, 1) := by decide +kernel
theorem dX3_perform_32 : decode cX3_perform 32 = .ok (.istore 6, 2) := by decide +kernel
theorem dX3_perform_34 : decode cX3_perform 34 = .ok (.iload 6, 2) := by decide +kernel
theorem dX3_perform_36 : decode cX3_perform 36 = .ok (.sipush 500, 3) := by decide +kernel
theorem dX3_perform_39 : decode cX3_perform 39 = .ok (.if_icmp .gt 39, 3) := by decide +kernel
theorem dX3_perform_42 : decode cX3_perform 42 = .ok (.iload 5, 2) := by decide +kernel
theorem dX3_perform_44 : decode cX3_perform 44 = .ok (.iconst (-1), 1) := by decide +kernel
theorem dX3_perform_45 : decode cX3_perform 45 = .ok (.if_icmp .ne 33, 3) := by decide +kernel
theorem dX3_perform_48 : decode cX3_perform 48 = .ok (.aload_n 0, 1) := by decide +kernel
theorem dX3_perform_49 : decode cX3_perform 49 = .ok (.iload 6, 2) := by decide +kernel
theorem dX3_perform_51 : decode cX3_perform 51 = .ok (.aload_n 1, 1) := by decide +kernel
theorem dX3_perform_52 : decode cX3_perform 52 = .ok (.iload_n 3, 1) := by decide +kernel
theorem dX3_perform_53 : decode cX3_perform 53 = .ok (.invokevirtual 37, 3) := by decide +kernel
theorem dX3_perform_56 : decode cX3_perform 56 = .ok (.istore 5, 2) := by decide +kernel
theorem dX3_perform_58 : decode cX3_perform 58 = .ok (.iload 5, 2) := by decide +kernel
theorem dX3_perform_60 : decode cX3_perform 60 = .ok (.iconst (-1), 1) := by decide +kernel
theorem dX3_perform_61 : decode cX3_perform 61 = .ok (.if_icmp .ne 11, 3) := by decide +kernel
theorem dX3_perform_64 : decode cX3_perform 64 = .ok (.aload_n 0, 1) := by decide +kernel
theorem dX3_perform_65 : decode cX3_perform 65 = .ok (.aload_n 1, 1) := by decide +kernel
theorem dX3_perform_66 : decode cX3_perform 66 = .ok (.aload_n 2, 1) := by decide +kernel
theorem dX3_perform_67 : decode cX3_perform 67 = .ok (.aload 4, 2) := by decide +kernel
theorem dX3_perform_69 : decode cX3_perform 69 = .ok (.invokevirtual 41, 3) := by decide +kernel
theorem dX3_perform_72 : decode cX3_perform 72 = .ok (.iinc 6 1, 3) := by decide +kernel
theorem dX3_perform_75 : decode cX3_perform 75 = .ok (.goto (-41), 3) := by decide +kernel
theorem dX3_perform_78 : decode cX3_perform 78 = .ok (.aload_n 0, 1) := by decide +kernel
theorem dX3_perform_79 : decode cX3_perform 79 = .ok (.iload 5, 2) := by decide +kernel
theorem dX3_perform_81 : decode cX3_perform 81 = .ok (.putfield 15, 3) := by decide +kernel
theorem dX3_perform_84 : decode cX3_perform 84 = .ok (.aload_n 0, 1) := by decide +kernel
theorem dX3_perform_85 : decode cX3_perform 85 = .ok (.getfield 34, 3) := by decide +kernel
theorem dX3_perform_88 : decode cX3_perform 88 = .ok (.ireturn, 1) := by decide +kernel
set_option maxRecDepth 20000 in
theorem ggX3_endAfter_X1_isEnd : GoodIn wsX3_endAfter wsX1_isEnd := goodIn_r _ [7, 8, 9, 10, 11, 6, 12, 13, 24, 25, 26, 27, 28] (by decide +kernel) (by decide +kernel)
set_option maxRecDepth 20000 in
theorem gX3_endAfter_X1_isEnd : GoodIn wsX3_endAfter (wsV RX3 45 RX1 yX1_isEnd wsX1_isEnd) := goodIn_app (goodIn_of _ (by decide +kernel)) ggX3_endAfter_X1_isEnd
set_option maxRecDepth 20000 in
theorem ggX3_endAfter_X1_kind : GoodIn wsX3_endAfter wsX1_kind := goodIn_r _ [17, 8, 24, 25, 26, 27, 28] (by decide +kernel) (by decide +kernel)
set_option maxRecDepth 20000 in
theorem gX3_endAfter_X1_kind : GoodIn wsX3_endAfter (wsV RX3 51 RX1 yX1_kind wsX1_kind) := goodIn_app (goodIn_of _ (by decide +kernel)) ggX3_endAfter_X1_kind
theorem dX3_endAfter_0 : decode cX3_endAfter 0 = .ok (.aload_n 2, 1) := by decide +kernel
theorem dX3_endAfter_1 : decode cX3_endAfter 1 = .ok (.aload_n 0, 1) := by decide +kernel
theorem dX3_endAfter_2 : decode cX3_endAfter 2 = .ok (.getfield 25, 3) := by decide +kernel
theorem dX3_endAfter_5 : decode cX3_endAfter 5 = .ok (.invokevirtual 45, 3) := by decide +kernel
theorem dX3_endAfter_8 : decode cX3_endAfter 8 = .ok (.ifCond .eq 5, 3) := by decide +kernel
theorem dX3_endAfter_11 : decode cX3_endAfter 11 = .ok (.iconst 0, 1) := by decide +kernel
theorem dX3_endAfter_12 : decode cX3_endAfter 12 = .ok (.ireturn, 1) := by decide +kernel
theorem dX3_endAfter_13 : decode cX3_endAfter 13 = .ok (.iload_n 1, 1) := by decide +kernel
theorem dX3_endAfter_14 : decode cX3_endAfter 14 = .ok (.sipush 500, 3) := by decide +kernel
theorem dX3_endAfter_17 : decode cX3_endAfter 17 = .ok (.if_icmp .lt 5, 3) := by decide +kernel
theorem dX3_endAfter_20 : decode cX3_endAfter 20 = .ok (.iconst 2, 1) := by decide +kernel
theorem dX3_endAfter_21 : decode cX3_endAfter 21 = .ok (.ireturn, 1) := by decide +kernel
theorem dX3_endAfter_22 : decode cX3_endAfter 22 = .ok (.aload_n 2, 1) := by decide +kernel
theorem dX3_endAfter_23 : decode cX3_endAfter 23 = .ok (.aload_n 0, 1) := by decide +kernel
theorem dX3_endAfter_24 : decode cX3_endAfter 24 = .ok (.getfield 25, 3) := by decide +kernel
theorem dX3_endAfter_27 : decode cX3_endAfter 27 = .ok (.invokevirtual 51, 3) := by decide +kernel
theorem dX3_endAfter_30 : decode cX3_endAfter 30 = .ok (.iconst 3, 1) := by decide +kernel
theorem dX3_endAfter_31 : decode cX3_endAfter 31 = .ok (.if_icmp .ne 15, 3) := by decide +kernel
theorem dX3_endAfter_34 : decode cX3_endAfter 34 = .ok (.aload_n 0, 1) := by decide +kernel
theorem dX3_endAfter_35 : decode cX3_endAfter 35 = .ok (.getfield 31, 3) := by decide +kernel
theorem dX3_endAfter_38 : decode cX3_endAfter 38 = .ok (.iload_n 3, 1) := by decide +kernel
theorem dX3_endAfter_39 : decode cX3_endAfter 39 = .ok (.if_icmp .lt 7, 3) := by decide +kernel
theorem dX3_endAfter_42 : decode cX3_endAfter 42 = .ok (.iconst 1, 1) := by decide +kernel
theorem dX3_endAfter_43 : decode cX3_endAfter 43 = .ok (.goto 4, 3) := by decide +kernel
theorem dX3_endAfter_46 : decode cX3_endAfter 46 = .ok (.iconst (-1), 1) := by decide +kernel
theorem dX3_endAfter_47 : decode cX3_endAfter 47 = .ok (.ireturn, 1) := by decide +kernel
set_option maxRecDepth 20000 in
theorem ggX3_step_X1_kind : GoodIn wsX3_step wsX1_kind := goodIn_r _ [9, 10, 51, 52, 53, 54, 55] (by decide +kernel) (by decide +kernel)
set_option maxRecDepth 20000 in
theorem gX3_step_X1_kind : GoodIn wsX3_step (wsV RX3 51 RX1 yX1_kind wsX1_kind) := goodIn_app (goodIn_of _ (by decide +kernel)) ggX3_step_X1_kind
set_option maxRecDepth 20000 in
theorem ggX3_step_X1_x : GoodIn wsX3_step wsX1_x := goodIn_r _ [14, 15, 51, 52, 53, 54, 55] (by decide +kernel) (by decide +kernel)
set_option maxRecDepth 20000 in
theorem gX3_step_X1_x : GoodIn wsX3_step (wsV RX3 55 RX1 yX1_x wsX1_x) := goodIn_app (goodIn_of _ (by decide +kernel)) ggX3_step_X1_x
set_option maxRecDepth 20000 in
theorem ggX3_step_X1_n : GoodIn wsX3_step wsX1_n := goodIn_r _ [19, 20, 51, 52, 53, 54, 55] (by decide +kernel) (by decide +kernel)
set_option maxRecDepth 20000 in
theorem gX3_step_X1_n : GoodIn wsX3_step (wsV RX3 58 RX1 yX1_n wsX1_n) := goodIn_app (goodIn_of _ (by decide +kernel)) ggX3_step_X1_n
set_option maxRecDepth 20000 in
theorem ggX3_step_X1_to : GoodIn wsX3_step wsX1_to := goodIn_r _ [24, 25, 51, 52, 53, 54, 55] (by decide +kernel) (by decide +kernel)
set_option maxRecDepth 20000 in
theorem gX3_step_X1_to : GoodIn wsX3_step (wsV RX3 61 RX1 yX1_to wsX1_to) := goodIn_app (goodIn_of _ (by decide +kernel)) ggX3_step_X1_to
set_option maxRecDepth 20000 in
theorem ggX3_step_X0_add : GoodIn wsX3_step wsX0_add := goodIn_r _ [30, 31, 56] (by decide +kernel) (by decide +kernel)
set_option maxRecDepth 20000 in
theorem gX3_step_X0_add : GoodIn wsX3_step (wsV RX3 64 RX0 yX0_add wsX0_add) := goodIn_app (goodIn_of _ (by decide +kernel)) ggX3_step_X0_add
set_option maxRecDepth 20000 in
theorem ggX3_step_X3_write : GoodIn wsX3_step wsX3_write := goodIn_r _ [36, 1, 2, 37, 11, 12, 13, 8, 14, 15, 16, 17, 18, 19, 20, 5, 6, 7, 9, 10, 38, 39, 40, 41, 42, 43, 44, 45, 46, 47, 48, 49, 50, 51, 52, 53, 54, 55, 57, 58] (by decide +kernel) (by decide +kernel)
set_option maxRecDepth 20000 in
theorem gX3_step_X3_write : GoodIn wsX3_step (wsV RX3 70 RX3 yX3_write wsX3_write) := goodIn_app (goodIn_of _ (by decide +kernel)) ggX3_step_X3_write
theorem dX3_step_0 : decode cX3_step 0 = .ok (.aload_n 0, 1) := by decide +kernel
theorem dX3_step_1 : decode cX3_step 1 = .ok (.getfield 25, 3) := by decide +kernel
theorem dX3_step_4 : decode cX3_step 4 = .ok (.iconst 1, 1) := by decide +kernel
theorem dX3_step_5 : decode cX3_step 5 = .ok (.iadd, 1) := by decide +kernel
theorem dX3_step_6 : decode cX3_step 6 = .ok (.istore 4, 2) := by decide +kernel
theorem dX3_step_8 : decode cX3_step 8 = .ok (.aload_n 1, 1) := by decide +kernel
theorem dX3_step_9 : decode cX3_step 9 = .ok (.aload_n 0, 1) := by decide +kernel
theorem dX3_step_10 : decode cX3_step 10 = .ok (.getfield 25, 3) := by decide +kernel
theorem dX3_step_13 : decode cX3_step 13 = .ok (.invokevirtual 51, 3) := by decide +kernel
theorem dX3_step_16 : decode cX3_step 16 = .ok (.tableswitch 130 5 8 #[32, 74, 87, 122], 32) := by decide +kernel
theorem dX3_step_48 : decode cX3_step 48 = .ok (.aload_n 0, 1) := by decide +kernel
theorem dX3_step_49 : decode cX3_step 49 = .ok (.aload_n 0, 1) := by decide +kernel
theorem dX3_step_50 : decode cX3_step 50 = .ok (.getfield 9, 3) := by decide +kernel
theorem dX3_step_53 : decode cX3_step 53 = .ok (.aload_n 1, 1) := by decide +kernel
theorem dX3_step_54 : decode cX3_step 54 = .ok (.aload_n 0, 1) := by decide +kernel
theorem dX3_step_55 : decode cX3_step 55 = .ok (.getfield 25, 3) := by decide +kernel
theorem dX3_step_58 : decode cX3_step 58 = .ok (.invokevirtual 55, 3) := by decide +kernel
theorem dX3_step_61 : decode cX3_step 61 = .ok (.iaload, 1) := by decide +kernel
theorem dX3_step_62 : decode cX3_step 62 = .ok (.aload_n 1, 1) := by decide +kernel
theorem dX3_step_63 : decode cX3_step 63 = .ok (.aload_n 0, 1) := by decide +kernel
theorem dX3_step_64 : decode cX3_step 64 = .ok (.getfield 25, 3) := by decide +kernel
theorem dX3_step_67 : decode cX3_step 67 = .ok (.invokevirtual 58, 3) := by decide +kernel
theorem dX3_step_70 : decode cX3_step 70 = .ok (.if_icmp .ge 14, 3) := by decide +kernel
theorem dX3_step_73 : decode cX3_step 73 = .ok (.aload_n 1, 1) := by decide +kernel
theorem dX3_step_74 : decode cX3_step 74 = .ok (.aload_n 0, 1) := by decide +kernel
theorem dX3_step_75 : decode cX3_step 75 = .ok (.getfield 25, 3) := by decide +kernel
theorem dX3_step_78 : decode cX3_step 78 = .ok (.invokevirtual 61, 3) := by decide +kernel
theorem dX3_step_81 : decode cX3_step 81 = .ok (.goto 5, 3) := by decide +kernel
theorem dX3_step_84 : decode cX3_step 84 = .ok (.iload 4, 2) := by decide +kernel
theorem dX3_step_86 : decode cX3_step 86 = .ok (.putfield 25, 3) := by decide +kernel
theorem dX3_step_89 : decode cX3_step 89 = .ok (.return_, 1) := by decide +kernel
theorem dX3_step_90 : decode cX3_step 90 = .ok (.aload_n 0, 1) := by decide +kernel
theorem dX3_step_91 : decode cX3_step 91 = .ok (.aload_n 1, 1) := by decide +kernel
theorem dX3_step_92 : decode cX3_step 92 = .ok (.aload_n 0, 1) := by decide +kernel
theorem dX3_step_93 : decode cX3_step 93 = .ok (.getfield 25, 3) := by decide +kernel
theorem dX3_step_96 : decode cX3_step 96 = .ok (.invokevirtual 61, 3) := by decide +kernel
theorem dX3_step_99 : decode cX3_step 99 = .ok (.putfield 25, 3) := by decide +kernel
theorem dX3_step_102 : decode cX3_step 102 = .ok (.return_, 1) := by decide +kernel
theorem dX3_step_103 : decode cX3_step 103 = .ok (.aload_n 3, 1) := by decide +kernel
theorem dX3_step_104 : decode cX3_step 104 = .ok (.aload_n 0, 1) := by decide +kernel
theorem dX3_step_105 : decode cX3_step 105 = .ok (.getfield 28, 3) := by decide +kernel
theorem dX3_step_108 : decode cX3_step 108 = .ok (.aload_n 0, 1) := by decide +kernel
theorem dX3_step_109 : decode cX3_step 109 = .ok (.getfield 9, 3) := by decide +kernel
theorem dX3_step_112 : decode cX3_step 112 = .ok (.iconst 0, 1) := by decide +kernel
theorem dX3_step_113 : decode cX3_step 113 = .ok (.iaload, 1) := by decide +kernel
theorem dX3_step_114 : decode cX3_step 114 = .ok (.iconst 1, 1) := by decide +kernel
theorem dX3_step_115 : decode cX3_step 115 = .ok (.aload_n 0, 1) := by decide +kernel
theorem dX3_step_116 : decode cX3_step 116 = .ok (.getfield 9, 3) := by decide +kernel
theorem dX3_step_119 : decode cX3_step 119 = .ok (.iconst 1, 1) := by decide +kernel
theorem dX3_step_120 : decode cX3_step 120 = .ok (.iaload, 1) := by decide +kernel
theorem dX3_step_121 : decode cX3_step 121 = .ok (.ishl, 1) := by decide +kernel
theorem dX3_step_122 : decode cX3_step 122 = .ok (.invokevirtual 64, 3) := by decide +kernel
theorem dX3_step_125 : decode cX3_step 125 = .ok (.aload_n 0, 1) := by decide +kernel
theorem dX3_step_126 : decode cX3_step 126 = .ok (.dup, 1) := by decide +kernel
theorem dX3_step_127 : decode cX3_step 127 = .ok (.getfield 34, 3) := by decide +kernel
theorem dX3_step_130 : decode cX3_step 130 = .ok (.iconst 1, 1) := by decide +kernel
theorem dX3_step_131 : decode cX3_step 131 = .ok (.iadd, 1) := by decide +kernel
theorem dX3_step_132 : decode cX3_step 132 = .ok (.putfield 34, 3) := by decide +kernel
theorem dX3_step_135 : decode cX3_step 135 = .ok (.goto 17, 3) := by decide +kernel
theorem dX3_step_138 : decode cX3_step 138 = .ok (.aload_n 0, 1) := by decide +kernel
theorem dX3_step_139 : decode cX3_step 139 = .ok (.iconst 1, 1) := by decide +kernel
theorem dX3_step_140 : decode cX3_step 140 = .ok (.putfield 28, 3) := by decide +kernel
theorem dX3_step_143 : decode cX3_step 143 = .ok (.goto 9, 3) := by decide +kernel
theorem dX3_step_146 : decode cX3_step 146 = .ok (.aload_n 0, 1) := by decide +kernel
theorem dX3_step_147 : decode cX3_step 147 = .ok (.aload_n 1, 1) := by decide +kernel
theorem dX3_step_148 : decode cX3_step 148 = .ok (.aload_n 2, 1) := by decide +kernel
theorem dX3_step_149 : decode cX3_step 149 = .ok (.invokevirtual 70, 3) := by decide +kernel
theorem dX3_step_152 : decode cX3_step 152 = .ok (.aload_n 0, 1) := by decide +kernel
theorem dX3_step_153 : decode cX3_step 153 = .ok (.iload 4, 2) := by decide +kernel
theorem dX3_step_155 : decode cX3_step 155 = .ok (.putfield 25, 3) := by decide +kernel
theorem dX3_step_158 : decode cX3_step 158 = .ok (.return_, 1) := by decide +kernel
set_option maxRecDepth 20000 in
theorem ggX3_write_X1_x : GoodIn wsX3_write wsX1_x := goodIn_r _ [8, 9, 33, 34, 35, 36, 37] (by decide +kernel) (by decide +kernel)
set_option maxRecDepth 20000 in
theorem gX3_write_X1_x : GoodIn wsX3_write (wsV RX3 55 RX1 yX1_x wsX1_x) := goodIn_app (goodIn_of _ (by decide +kernel)) ggX3_write_X1_x
set_option maxRecDepth 20000 in
theorem ggX3_write_X1_n : GoodIn wsX3_write wsX1_n := goodIn_r _ [13, 14, 33, 34, 35, 36, 37] (by decide +kernel) (by decide +kernel)
set_option maxRecDepth 20000 in
theorem gX3_write_X1_n : GoodIn wsX3_write (wsV RX3 58 RX1 yX1_n wsX1_n) := goodIn_app (goodIn_of _ (by decide +kernel)) ggX3_write_X1_n
set_option maxRecDepth 20000 in
theorem ggX3_write_X1_kind : GoodIn wsX3_write wsX1_kind := goodIn_r _ [18, 19, 33, 34, 35, 36, 37] (by decide +kernel) (by decide +kernel)
set_option maxRecDepth 20000 in
theorem gX3_write_X1_kind : GoodIn wsX3_write (wsV RX3 51 RX1 yX1_kind wsX1_kind) := goodIn_app (goodIn_of _ (by decide +kernel)) ggX3_write_X1_kind
set_option maxRecDepth 20000 in
theorem ggX3_write_X7_valueAt : GoodIn wsX3_write wsX7_valueAt := goodIn_r _ [24, 25, 26, 38, 39] (by decide +kernel) (by decide +kernel)
set_option maxRecDepth 20000 in
theorem gX3_write_X7_valueAt : GoodIn wsX3_write (wsV RX3 74 RX7 yX7_valueAt wsX7_valueAt) := goodIn_app (goodIn_of _ (by decide +kernel)) ggX3_write_X7_valueAt
theorem dX3_write_0 : decode cX3_write 0 = .ok (.aload_n 1, 1) := by decide +kernel
theorem dX3_write_1 : decode cX3_write 1 = .ok (.aload_n 0, 1) := by decide +kernel
theorem dX3_write_2 : decode cX3_write 2 = .ok (.getfield 25, 3) := by decide +kernel
theorem dX3_write_5 : decode cX3_write 5 = .ok (.invokevirtual 55, 3) := by decide +kernel
theorem dX3_write_8 : decode cX3_write 8 = .ok (.istore_n 3, 1) := by decide +kernel
theorem dX3_write_9 : decode cX3_write 9 = .ok (.aload_n 1, 1) := by decide +kernel
theorem dX3_write_10 : decode cX3_write 10 = .ok (.aload_n 0, 1) := by decide +kernel
theorem dX3_write_11 : decode cX3_write 11 = .ok (.getfield 25, 3) := by decide +kernel
theorem dX3_write_14 : decode cX3_write 14 = .ok (.invokevirtual 58, 3) := by decide +kernel
theorem dX3_write_17 : decode cX3_write 17 = .ok (.istore 4, 2) := by decide +kernel
theorem dX3_write_19 : decode cX3_write 19 = .ok (.aload_n 1, 1) := by decide +kernel
theorem dX3_write_20 : decode cX3_write 20 = .ok (.aload_n 0, 1) := by decide +kernel
theorem dX3_write_21 : decode cX3_write 21 = .ok (.getfield 25, 3) := by decide +kernel
theorem dX3_write_24 : decode cX3_write 24 = .ok (.invokevirtual 51, 3) := by decide +kernel
theorem dX3_write_27 : decode cX3_write 27 = .ok (.tableswitch 96 0 4 #[33, 44, 65, 96, 82], 33) := by decide +kernel
theorem dX3_write_60 : decode cX3_write 60 = .ok (.aload_n 0, 1) := by decide +kernel
theorem dX3_write_61 : decode cX3_write 61 = .ok (.getfield 9, 3) := by decide +kernel
theorem dX3_write_64 : decode cX3_write 64 = .ok (.iload_n 3, 1) := by decide +kernel
theorem dX3_write_65 : decode cX3_write 65 = .ok (.iload 4, 2) := by decide +kernel
theorem dX3_write_67 : decode cX3_write 67 = .ok (.iastore, 1) := by decide +kernel
theorem dX3_write_68 : decode cX3_write 68 = .ok (.goto 79, 3) := by decide +kernel
theorem dX3_write_71 : decode cX3_write 71 = .ok (.aload_n 0, 1) := by decide +kernel
theorem dX3_write_72 : decode cX3_write 72 = .ok (.getfield 9, 3) := by decide +kernel
theorem dX3_write_75 : decode cX3_write 75 = .ok (.iload_n 3, 1) := by decide +kernel
theorem dX3_write_76 : decode cX3_write 76 = .ok (.aload_n 0, 1) := by decide +kernel
theorem dX3_write_77 : decode cX3_write 77 = .ok (.getfield 9, 3) := by decide +kernel
theorem dX3_write_80 : decode cX3_write 80 = .ok (.iload_n 3, 1) := by decide +kernel
theorem dX3_write_81 : decode cX3_write 81 = .ok (.iaload, 1) := by decide +kernel
theorem dX3_write_82 : decode cX3_write 82 = .ok (.iload 4, 2) := by decide +kernel
theorem dX3_write_84 : decode cX3_write 84 = .ok (.iadd, 1) := by decide +kernel
theorem dX3_write_85 : decode cX3_write 85 = .ok (.bipush 31, 2) := by decide +kernel
theorem dX3_write_87 : decode cX3_write 87 = .ok (.iand, 1) := by decide +kernel
theorem dX3_write_88 : decode cX3_write 88 = .ok (.iastore, 1) := by decide +kernel
theorem dX3_write_89 : decode cX3_write 89 = .ok (.goto 58, 3) := by decide +kernel
theorem dX3_write_92 : decode cX3_write 92 = .ok (.aload_n 0, 1) := by decide +kernel
theorem dX3_write_93 : decode cX3_write 93 = .ok (.getfield 9, 3) := by decide +kernel
theorem dX3_write_96 : decode cX3_write 96 = .ok (.iload_n 3, 1) := by decide +kernel
theorem dX3_write_97 : decode cX3_write 97 = .ok (.aload_n 0, 1) := by decide +kernel
theorem dX3_write_98 : decode cX3_write 98 = .ok (.getfield 9, 3) := by decide +kernel
theorem dX3_write_101 : decode cX3_write 101 = .ok (.iconst 1, 1) := by decide +kernel
theorem dX3_write_102 : decode cX3_write 102 = .ok (.iload_n 3, 1) := by decide +kernel
theorem dX3_write_103 : decode cX3_write 103 = .ok (.isub, 1) := by decide +kernel
theorem dX3_write_104 : decode cX3_write 104 = .ok (.iaload, 1) := by decide +kernel
theorem dX3_write_105 : decode cX3_write 105 = .ok (.iastore, 1) := by decide +kernel
theorem dX3_write_106 : decode cX3_write 106 = .ok (.goto 41, 3) := by decide +kernel
theorem dX3_write_109 : decode cX3_write 109 = .ok (.aload_n 0, 1) := by decide +kernel
theorem dX3_write_110 : decode cX3_write 110 = .ok (.getfield 9, 3) := by decide +kernel
theorem dX3_write_113 : decode cX3_write 113 = .ok (.iload_n 3, 1) := by decide +kernel
theorem dX3_write_114 : decode cX3_write 114 = .ok (.dup2, 1) := by decide +kernel
theorem dX3_write_115 : decode cX3_write 115 = .ok (.iaload, 1) := by decide +kernel
theorem dX3_write_116 : decode cX3_write 116 = .ok (.iload 4, 2) := by decide +kernel
theorem dX3_write_118 : decode cX3_write 118 = .ok (.iand, 1) := by decide +kernel
theorem dX3_write_119 : decode cX3_write 119 = .ok (.iastore, 1) := by decide +kernel
theorem dX3_write_120 : decode cX3_write 120 = .ok (.goto 27, 3) := by decide +kernel
theorem dX3_write_123 : decode cX3_write 123 = .ok (.aload_n 0, 1) := by decide +kernel
theorem dX3_write_124 : decode cX3_write 124 = .ok (.getfield 9, 3) := by decide +kernel
theorem dX3_write_127 : decode cX3_write 127 = .ok (.iload_n 3, 1) := by decide +kernel
theorem dX3_write_128 : decode cX3_write 128 = .ok (.aload_n 2, 1) := by decide +kernel
theorem dX3_write_129 : decode cX3_write 129 = .ok (.aload_n 0, 1) := by decide +kernel
theorem dX3_write_130 : decode cX3_write 130 = .ok (.getfield 31, 3) := by decide +kernel
theorem dX3_write_133 : decode cX3_write 133 = .ok (.invokevirtual 74, 3) := by decide +kernel
theorem dX3_write_136 : decode cX3_write 136 = .ok (.iastore, 1) := by decide +kernel
theorem dX3_write_137 : decode cX3_write 137 = .ok (.aload_n 0, 1) := by decide +kernel
theorem dX3_write_138 : decode cX3_write 138 = .ok (.dup, 1) := by decide +kernel
theorem dX3_write_139 : decode cX3_write 139 = .ok (.getfield 31, 3) := by decide +kernel
theorem dX3_write_142 : decode cX3_write 142 = .ok (.iconst 1, 1) := by decide +kernel
theorem dX3_write_143 : decode cX3_write 143 = .ok (.iadd, 1) := by decide +kernel
theorem dX3_write_144 : decode cX3_write 144 = .ok (.putfield 31, 3) := by decide +kernel
theorem dX3_write_147 : decode cX3_write 147 = .ok (.return_, 1) := by decide +kernel
set_option maxRecDepth 20000 in
theorem ggX4_init_X0_init : GoodIn wsX4_init wsX0_init := goodIn_r _ [17, 18, 2, 3, 5, 19, 34] (by decide +kernel) (by decide +kernel)
set_option maxRecDepth 20000 in
theorem gX4_init_X0_init : GoodIn wsX4_init (wsX0_init) := ggX4_init_X0_init
theorem dX4_init_0 : decode cX4_init 0 = .ok (.aload_n 0, 1) := by decide +kernel
theorem dX4_init_1 : decode cX4_init 1 = .ok (.invokespecial 3, 3) := by decide +kernel
theorem dX4_init_4 : decode cX4_init 4 = .ok (.aload_n 0, 1) := by decide +kernel
