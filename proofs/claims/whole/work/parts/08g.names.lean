theorem dX9_seen_21 : decode cX9_seen 21 = .ok (.iload_n 1, 1) := by decide +kernel
theorem dX9_seen_22 : decode cX9_seen 22 = .ok (.imul, 1) := by decide +kernel
theorem dX9_seen_23 : decode cX9_seen 23 = .ok (.bipush 32, 2) := by decide +kernel
theorem dX9_seen_25 : decode cX9_seen 25 = .ok (.iload_n 2, 1) := by decide +kernel
theorem dX9_seen_26 : decode cX9_seen 26 = .ok (.imul, 1) := by decide +kernel
theorem dX9_seen_27 : decode cX9_seen 27 = .ok (.iadd, 1) := by decide +kernel
theorem dX9_seen_28 : decode cX9_seen 28 = .ok (.iload_n 3, 1) := by decide +kernel
theorem dX9_seen_29 : decode cX9_seen 29 = .ok (.iadd, 1) := by decide +kernel
theorem dX9_seen_30 : decode cX9_seen 30 = .ok (.iaload, 1) := by decide +kernel
theorem dX9_seen_31 : decode cX9_seen 31 = .ok (.goto 4, 3) := by decide +kernel
theorem dX9_seen_34 : decode cX9_seen 34 = .ok (.iconst 0, 1) := by decide +kernel
theorem dX9_seen_35 : decode cX9_seen 35 = .ok (.ireturn, 1) := by decide +kernel
set_option maxRecDepth 20000 in
theorem ggX9_isSet_X9_lies : GoodIn wsX9_isSet wsX9_lies := goodIn_r _ [4] (by decide +kernel) (by decide +kernel)
set_option maxRecDepth 20000 in
theorem gX9_isSet_X9_lies : GoodIn wsX9_isSet (va_wsS RX9 86 yX9_lies wsX9_lies) := goodIn_app (goodIn_of _ (by decide +kernel)) ggX9_isSet_X9_lies
theorem dX9_isSet_0 : decode cX9_isSet 0 = .ok (.iload_n 0, 1) := by decide +kernel
theorem dX9_isSet_1 : decode cX9_isSet 1 = .ok (.iconst 0, 1) := by decide +kernel
theorem dX9_isSet_2 : decode cX9_isSet 2 = .ok (.bipush 15, 2) := by decide +kernel
theorem dX9_isSet_4 : decode cX9_isSet 4 = .ok (.invokestatic 86, 3) := by decide +kernel
theorem dX9_isSet_7 : decode cX9_isSet 7 = .ok (.ireturn, 1) := by decide +kernel
set_option maxRecDepth 20000 in
theorem ggX9_meltedOf_X9_has : GoodIn wsX9_meltedOf wsX9_has := goodIn_r _ [4] (by decide +kernel) (by decide +kernel)
set_option maxRecDepth 20000 in
theorem gX9_meltedOf_X9_has : GoodIn wsX9_meltedOf (va_wsS RX9 151 yX9_has wsX9_has) := goodIn_app (goodIn_of _ (by decide +kernel)) ggX9_meltedOf_X9_has
set_option maxRecDepth 20000 in
theorem ggX9_meltedOf_X9_needOf : GoodIn wsX9_meltedOf wsX9_needOf := goodIn_r _ [8, 9, 10, 11, 12, 3, 13, 14, 15, 16, 17, 18, 19, 20, 21, 22, 23, 24, 25, 26, 27, 28, 29, 30, 31, 32, 33, 34, 35, 36, 37, 38, 39, 40, 41, 42, 43, 44, 45, 46, 47, 48, 49, 50, 51, 52, 53, 54, 55, 56, 57, 58, 59, 60, 61, 62, 63, 64, 65, 66, 67, 68, 69, 70, 71, 72, 73, 74, 75, 76, 77, 78, 79, 80, 81, 82, 83, 84, 85, 86, 87, 88, 89] (by decide +kernel) (by decide +kernel)
set_option maxRecDepth 20000 in
theorem gX9_meltedOf_X9_needOf : GoodIn wsX9_meltedOf (wsV RX9 147 RX9 yX9_needOf wsX9_needOf) := goodIn_app (goodIn_of _ (by decide +kernel)) ggX9_meltedOf_X9_needOf
theorem dX9_meltedOf_0 : decode cX9_meltedOf 0 = .ok (.iconst 0, 1) := by decide +kernel
theorem dX9_meltedOf_1 : decode cX9_meltedOf 1 = .ok (.istore 4, 2) := by decide +kernel
theorem dX9_meltedOf_3 : decode cX9_meltedOf 3 = .ok (.iconst 0, 1) := by decide +kernel
theorem dX9_meltedOf_4 : decode cX9_meltedOf 4 = .ok (.istore 5, 2) := by decide +kernel
theorem dX9_meltedOf_6 : decode cX9_meltedOf 6 = .ok (.iload 5, 2) := by decide +kernel
theorem dX9_meltedOf_8 : decode cX9_meltedOf 8 = .ok (.iconst 4, 1) := by decide +kernel
theorem dX9_meltedOf_9 : decode cX9_meltedOf 9 = .ok (.if_icmp .ge 31, 3) := by decide +kernel
theorem dX9_meltedOf_12 : decode cX9_meltedOf 12 = .ok (.iload_n 1, 1) := by decide +kernel
theorem dX9_meltedOf_13 : decode cX9_meltedOf 13 = .ok (.iload 5, 2) := by decide +kernel
theorem dX9_meltedOf_15 : decode cX9_meltedOf 15 = .ok (.invokestatic 151, 3) := by decide +kernel
theorem dX9_meltedOf_18 : decode cX9_meltedOf 18 = .ok (.ifCond .eq 16, 3) := by decide +kernel
theorem dX9_meltedOf_21 : decode cX9_meltedOf 21 = .ok (.iload 4, 2) := by decide +kernel
theorem dX9_meltedOf_23 : decode cX9_meltedOf 23 = .ok (.aload_n 0, 1) := by decide +kernel
theorem dX9_meltedOf_24 : decode cX9_meltedOf 24 = .ok (.iload 5, 2) := by decide +kernel
theorem dX9_meltedOf_26 : decode cX9_meltedOf 26 = .ok (.iload_n 2, 1) := by decide +kernel
theorem dX9_meltedOf_27 : decode cX9_meltedOf 27 = .ok (.iload_n 3, 1) := by decide +kernel
theorem dX9_meltedOf_28 : decode cX9_meltedOf 28 = .ok (.invokevirtual 147, 3) := by decide +kernel
theorem dX9_meltedOf_31 : decode cX9_meltedOf 31 = .ok (.ior, 1) := by decide +kernel
theorem dX9_meltedOf_32 : decode cX9_meltedOf 32 = .ok (.istore 4, 2) := by decide +kernel
theorem dX9_meltedOf_34 : decode cX9_meltedOf 34 = .ok (.iinc 5 1, 3) := by decide +kernel
theorem dX9_meltedOf_37 : decode cX9_meltedOf 37 = .ok (.goto (-31), 3) := by decide +kernel
theorem dX9_meltedOf_40 : decode cX9_meltedOf 40 = .ok (.iload 4, 2) := by decide +kernel
theorem dX9_meltedOf_42 : decode cX9_meltedOf 42 = .ok (.ireturn, 1) := by decide +kernel
set_option maxRecDepth 20000 in
theorem ggX9_seenOf_X9_has : GoodIn wsX9_seenOf wsX9_has := goodIn_r _ [5] (by decide +kernel) (by decide +kernel)
set_option maxRecDepth 20000 in
theorem gX9_seenOf_X9_has : GoodIn wsX9_seenOf (va_wsS RX9 151 yX9_has wsX9_has) := goodIn_app (goodIn_of _ (by decide +kernel)) ggX9_seenOf_X9_has
theorem dX9_seenOf_0 : decode cX9_seenOf 0 = .ok (.iconst 0, 1) := by decide +kernel
theorem dX9_seenOf_1 : decode cX9_seenOf 1 = .ok (.istore_n 3, 1) := by decide +kernel
theorem dX9_seenOf_2 : decode cX9_seenOf 2 = .ok (.iconst 0, 1) := by decide +kernel
theorem dX9_seenOf_3 : decode cX9_seenOf 3 = .ok (.istore 4, 2) := by decide +kernel
theorem dX9_seenOf_5 : decode cX9_seenOf 5 = .ok (.iload 4, 2) := by decide +kernel
theorem dX9_seenOf_7 : decode cX9_seenOf 7 = .ok (.iconst 4, 1) := by decide +kernel
theorem dX9_seenOf_8 : decode cX9_seenOf 8 = .ok (.if_icmp .ge 36, 3) := by decide +kernel
theorem dX9_seenOf_11 : decode cX9_seenOf 11 = .ok (.iload_n 1, 1) := by decide +kernel
theorem dX9_seenOf_12 : decode cX9_seenOf 12 = .ok (.iload 4, 2) := by decide +kernel
theorem dX9_seenOf_14 : decode cX9_seenOf 14 = .ok (.invokestatic 151, 3) := by decide +kernel
theorem dX9_seenOf_17 : decode cX9_seenOf 17 = .ok (.ifCond .eq 21, 3) := by decide +kernel
theorem dX9_seenOf_20 : decode cX9_seenOf 20 = .ok (.iload_n 3, 1) := by decide +kernel
theorem dX9_seenOf_21 : decode cX9_seenOf 21 = .ok (.aload_n 0, 1) := by decide +kernel
theorem dX9_seenOf_22 : decode cX9_seenOf 22 = .ok (.getfield 36, 3) := by decide +kernel
theorem dX9_seenOf_25 : decode cX9_seenOf 25 = .ok (.bipush 64, 2) := by decide +kernel
theorem dX9_seenOf_27 : decode cX9_seenOf 27 = .ok (.iload 4, 2) := by decide +kernel
theorem dX9_seenOf_29 : decode cX9_seenOf 29 = .ok (.imul, 1) := by decide +kernel
theorem dX9_seenOf_30 : decode cX9_seenOf 30 = .ok (.bipush 32, 2) := by decide +kernel
theorem dX9_seenOf_32 : decode cX9_seenOf 32 = .ok (.iadd, 1) := by decide +kernel
theorem dX9_seenOf_33 : decode cX9_seenOf 33 = .ok (.iload_n 2, 1) := by decide +kernel
theorem dX9_seenOf_34 : decode cX9_seenOf 34 = .ok (.iadd, 1) := by decide +kernel
theorem dX9_seenOf_35 : decode cX9_seenOf 35 = .ok (.iaload, 1) := by decide +kernel
theorem dX9_seenOf_36 : decode cX9_seenOf 36 = .ok (.ior, 1) := by decide +kernel
theorem dX9_seenOf_37 : decode cX9_seenOf 37 = .ok (.istore_n 3, 1) := by decide +kernel
theorem dX9_seenOf_38 : decode cX9_seenOf 38 = .ok (.iinc 4 1, 3) := by decide +kernel
theorem dX9_seenOf_41 : decode cX9_seenOf 41 = .ok (.goto (-36), 3) := by decide +kernel
theorem dX9_seenOf_44 : decode cX9_seenOf 44 = .ok (.iload_n 3, 1) := by decide +kernel
theorem dX9_seenOf_45 : decode cX9_seenOf 45 = .ok (.ireturn, 1) := by decide +kernel
set_option maxRecDepth 20000 in
theorem ggX9_melted_X9_isSet : GoodIn wsX9_melted wsX9_isSet := goodIn_r _ [4, 5, 6, 3, 7] (by decide +kernel) (by decide +kernel)
set_option maxRecDepth 20000 in
theorem gX9_melted_X9_isSet : GoodIn wsX9_melted (va_wsS RX9 175 yX9_isSet wsX9_isSet) := goodIn_app (goodIn_of _ (by decide +kernel)) ggX9_melted_X9_isSet
set_option maxRecDepth 20000 in
theorem ggX9_melted_X9_isPlace : GoodIn wsX9_melted wsX9_isPlace := goodIn_r _ [10, 5, 6, 3, 7] (by decide +kernel) (by decide +kernel)
set_option maxRecDepth 20000 in
theorem gX9_melted_X9_isPlace : GoodIn wsX9_melted (va_wsS RX9 143 yX9_isPlace wsX9_isPlace) := goodIn_app (goodIn_of _ (by decide +kernel)) ggX9_melted_X9_isPlace
set_option maxRecDepth 20000 in
theorem ggX9_melted_X9_meltedOf : GoodIn wsX9_melted wsX9_meltedOf := goodIn_r _ [14, 15, 16, 3, 17, 18, 19, 20, 21, 22, 23, 24, 25, 26, 27, 28, 29, 30, 31, 32, 33, 34, 35, 36, 37, 38, 39, 40, 41, 42, 43, 44, 45, 46, 47, 48, 49, 50, 51, 52, 53, 54, 55, 56, 57, 58, 59, 60, 61, 62, 63, 64, 65, 66, 67, 68, 69, 70, 71, 72, 73, 74, 75, 76, 77, 78, 79, 80, 81, 82, 83, 84, 85, 86, 87, 88, 89, 90, 91, 92, 93, 94, 95, 96, 97, 98, 99, 100, 101, 102] (by decide +kernel) (by decide +kernel)
set_option maxRecDepth 20000 in
theorem gX9_melted_X9_meltedOf : GoodIn wsX9_melted (wsV RX9 178 RX9 yX9_meltedOf wsX9_meltedOf) := goodIn_app (goodIn_of _ (by decide +kernel)) ggX9_melted_X9_meltedOf
theorem dX9_melted_0 : decode cX9_melted 0 = .ok (.iload_n 1, 1) := by decide +kernel
theorem dX9_melted_1 : decode cX9_melted 1 = .ok (.invokestatic 175, 3) := by decide +kernel
theorem dX9_melted_4 : decode cX9_melted 4 = .ok (.ifCond .eq 21, 3) := by decide +kernel
theorem dX9_melted_7 : decode cX9_melted 7 = .ok (.iload_n 2, 1) := by decide +kernel
theorem dX9_melted_8 : decode cX9_melted 8 = .ok (.iload_n 3, 1) := by decide +kernel
theorem dX9_melted_9 : decode cX9_melted 9 = .ok (.invokestatic 143, 3) := by decide +kernel
theorem dX9_melted_12 : decode cX9_melted 12 = .ok (.ifCond .eq 13, 3) := by decide +kernel
theorem dX9_melted_15 : decode cX9_melted 15 = .ok (.aload_n 0, 1) := by decide +kernel
theorem dX9_melted_16 : decode cX9_melted 16 = .ok (.iload_n 1, 1) := by decide +kernel
theorem dX9_melted_17 : decode cX9_melted 17 = .ok (.iload_n 2, 1) := by decide +kernel
theorem dX9_melted_18 : decode cX9_melted 18 = .ok (.iload_n 3, 1) := by decide +kernel
theorem dX9_melted_19 : decode cX9_melted 19 = .ok (.invokevirtual 178, 3) := by decide +kernel
theorem dX9_melted_22 : decode cX9_melted 22 = .ok (.goto 4, 3) := by decide +kernel
theorem dX9_melted_25 : decode cX9_melted 25 = .ok (.iconst 0, 1) := by decide +kernel
theorem dX9_melted_26 : decode cX9_melted 26 = .ok (.ireturn, 1) := by decide +kernel
set_option maxRecDepth 20000 in
theorem ggX9_fresh_X9_isProgram : GoodIn wsX9_fresh wsX9_isProgram := goodIn_r _ [4, 5, 6, 3, 7] (by decide +kernel) (by decide +kernel)
set_option maxRecDepth 20000 in
theorem gX9_fresh_X9_isProgram : GoodIn wsX9_fresh (va_wsS RX9 90 yX9_isProgram wsX9_isProgram) := goodIn_app (goodIn_of _ (by decide +kernel)) ggX9_fresh_X9_isProgram
set_option maxRecDepth 20000 in
theorem ggX9_fresh_X9_isPlace : GoodIn wsX9_fresh wsX9_isPlace := goodIn_r _ [10, 5, 6, 3, 7] (by decide +kernel) (by decide +kernel)
set_option maxRecDepth 20000 in
theorem gX9_fresh_X9_isPlace : GoodIn wsX9_fresh (va_wsS RX9 143 yX9_isPlace wsX9_isPlace) := goodIn_app (goodIn_of _ (by decide +kernel)) ggX9_fresh_X9_isPlace
set_option maxRecDepth 20000 in
theorem ggX9_fresh_X9_needOf : GoodIn wsX9_fresh wsX9_needOf := goodIn_r _ [14, 15, 16, 17, 18, 3, 19, 20, 21, 22, 23, 24, 25, 26, 27, 28, 29, 30, 31, 32, 33, 34, 35, 36, 37, 38, 39, 40, 41, 42, 43, 44, 45, 46, 47, 48, 49, 50, 51, 52, 53, 54, 55, 56, 57, 58, 59, 60, 61, 62, 63, 64, 65, 66, 67, 68, 69, 70, 71, 72, 73, 74, 75, 76, 77, 78, 79, 80, 81, 82, 83, 84, 85, 86, 87, 88, 89, 90, 91, 92, 93, 94, 95] (by decide +kernel) (by decide +kernel)
set_option maxRecDepth 20000 in
theorem gX9_fresh_X9_needOf : GoodIn wsX9_fresh (wsV RX9 147 RX9 yX9_needOf wsX9_needOf) := goodIn_app (goodIn_of _ (by decide +kernel)) ggX9_fresh_X9_needOf
theorem dX9_fresh_0 : decode cX9_fresh 0 = .ok (.iload_n 1, 1) := by decide +kernel
theorem dX9_fresh_1 : decode cX9_fresh 1 = .ok (.invokestatic 90, 3) := by decide +kernel
theorem dX9_fresh_4 : decode cX9_fresh 4 = .ok (.ifCond .eq 41, 3) := by decide +kernel
theorem dX9_fresh_7 : decode cX9_fresh 7 = .ok (.iload_n 2, 1) := by decide +kernel
theorem dX9_fresh_8 : decode cX9_fresh 8 = .ok (.invokestatic 90, 3) := by decide +kernel
theorem dX9_fresh_11 : decode cX9_fresh 11 = .ok (.ifCond .eq 34, 3) := by decide +kernel
theorem dX9_fresh_14 : decode cX9_fresh 14 = .ok (.iload_n 3, 1) := by decide +kernel
theorem dX9_fresh_15 : decode cX9_fresh 15 = .ok (.iload 4, 2) := by decide +kernel
theorem dX9_fresh_17 : decode cX9_fresh 17 = .ok (.invokestatic 143, 3) := by decide +kernel
theorem dX9_fresh_20 : decode cX9_fresh 20 = .ok (.ifCond .eq 25, 3) := by decide +kernel
theorem dX9_fresh_23 : decode cX9_fresh 23 = .ok (.aload_n 0, 1) := by decide +kernel
theorem dX9_fresh_24 : decode cX9_fresh 24 = .ok (.iload_n 1, 1) := by decide +kernel
theorem dX9_fresh_25 : decode cX9_fresh 25 = .ok (.iload_n 3, 1) := by decide +kernel
theorem dX9_fresh_26 : decode cX9_fresh 26 = .ok (.iload 4, 2) := by decide +kernel
theorem dX9_fresh_28 : decode cX9_fresh 28 = .ok (.invokevirtual 147, 3) := by decide +kernel
theorem dX9_fresh_31 : decode cX9_fresh 31 = .ok (.aload_n 0, 1) := by decide +kernel
theorem dX9_fresh_32 : decode cX9_fresh 32 = .ok (.iload_n 2, 1) := by decide +kernel
theorem dX9_fresh_33 : decode cX9_fresh 33 = .ok (.iload_n 3, 1) := by decide +kernel
theorem dX9_fresh_34 : decode cX9_fresh 34 = .ok (.iload 4, 2) := by decide +kernel
theorem dX9_fresh_36 : decode cX9_fresh 36 = .ok (.invokevirtual 147, 3) := by decide +kernel
theorem dX9_fresh_39 : decode cX9_fresh 39 = .ok (.iconst (-1), 1) := by decide +kernel
theorem dX9_fresh_40 : decode cX9_fresh 40 = .ok (.ixor, 1) := by decide +kernel
theorem dX9_fresh_41 : decode cX9_fresh 41 = .ok (.iand, 1) := by decide +kernel
theorem dX9_fresh_42 : decode cX9_fresh 42 = .ok (.goto 4, 3) := by decide +kernel
theorem dX9_fresh_45 : decode cX9_fresh 45 = .ok (.iconst 0, 1) := by decide +kernel
theorem dX9_fresh_46 : decode cX9_fresh 46 = .ok (.ireturn, 1) := by decide +kernel
set_option maxRecDepth 20000 in
theorem ggX9_effect_X9_lies : GoodIn wsX9_effect wsX9_lies := goodIn_r _ [10] (by decide +kernel) (by decide +kernel)
set_option maxRecDepth 20000 in
theorem gX9_effect_X9_lies : GoodIn wsX9_effect (va_wsS RX9 86 yX9_lies wsX9_lies) := goodIn_app (goodIn_of _ (by decide +kernel)) ggX9_effect_X9_lies
theorem dX9_effect_0 : decode cX9_effect 0 = .ok (.aload_n 0, 1) := by decide +kernel
theorem dX9_effect_1 : decode cX9_effect 1 = .ok (.getfield 181, 3) := by decide +kernel
theorem dX9_effect_4 : decode cX9_effect 4 = .ok (.bipush 10, 2) := by decide +kernel
theorem dX9_effect_6 : decode cX9_effect 6 = .ok (.if_icmp .eq 57, 3) := by decide +kernel
theorem dX9_effect_9 : decode cX9_effect 9 = .ok (.iload_n 1, 1) := by decide +kernel
theorem dX9_effect_10 : decode cX9_effect 10 = .ok (.iconst 0, 1) := by decide +kernel
theorem dX9_effect_11 : decode cX9_effect 11 = .ok (.bipush 31, 2) := by decide +kernel
theorem dX9_effect_13 : decode cX9_effect 13 = .ok (.invokestatic 86, 3) := by decide +kernel
theorem dX9_effect_16 : decode cX9_effect 16 = .ok (.ifCond .eq 47, 3) := by decide +kernel
theorem dX9_effect_19 : decode cX9_effect 19 = .ok (.iload_n 2, 1) := by decide +kernel
theorem dX9_effect_20 : decode cX9_effect 20 = .ok (.iconst 0, 1) := by decide +kernel
theorem dX9_effect_21 : decode cX9_effect 21 = .ok (.bipush 31, 2) := by decide +kernel
theorem dX9_effect_23 : decode cX9_effect 23 = .ok (.invokestatic 86, 3) := by decide +kernel
theorem dX9_effect_26 : decode cX9_effect 26 = .ok (.ifCond .eq 37, 3) := by decide +kernel
theorem dX9_effect_29 : decode cX9_effect 29 = .ok (.iload_n 3, 1) := by decide +kernel
theorem dX9_effect_30 : decode cX9_effect 30 = .ok (.iload_n 2, 1) := by decide +kernel
theorem dX9_effect_31 : decode cX9_effect 31 = .ok (.bipush 31, 2) := by decide +kernel
theorem dX9_effect_33 : decode cX9_effect 33 = .ok (.invokestatic 86, 3) := by decide +kernel
theorem dX9_effect_36 : decode cX9_effect 36 = .ok (.ifCond .eq 27, 3) := by decide +kernel
theorem dX9_effect_39 : decode cX9_effect 39 = .ok (.iload 4, 2) := by decide +kernel
theorem dX9_effect_41 : decode cX9_effect 41 = .ok (.iconst 0, 1) := by decide +kernel
theorem dX9_effect_42 : decode cX9_effect 42 = .ok (.sipush 255, 3) := by decide +kernel
theorem dX9_effect_45 : decode cX9_effect 45 = .ok (.invokestatic 86, 3) := by decide +kernel
theorem dX9_effect_48 : decode cX9_effect 48 = .ok (.ifCond .eq 15, 3) := by decide +kernel
theorem dX9_effect_51 : decode cX9_effect 51 = .ok (.iload 5, 2) := by decide +kernel
theorem dX9_effect_53 : decode cX9_effect 53 = .ok (.iconst 0, 1) := by decide +kernel
theorem dX9_effect_54 : decode cX9_effect 54 = .ok (.sipush 255, 3) := by decide +kernel
theorem dX9_effect_57 : decode cX9_effect 57 = .ok (.invokestatic 86, 3) := by decide +kernel
theorem dX9_effect_60 : decode cX9_effect 60 = .ok (.ifCond .ne 5, 3) := by decide +kernel
theorem dX9_effect_63 : decode cX9_effect 63 = .ok (.iconst (-1), 1) := by decide +kernel
theorem dX9_effect_64 : decode cX9_effect 64 = .ok (.ireturn, 1) := by decide +kernel
theorem dX9_effect_65 : decode cX9_effect 65 = .ok (.aload_n 0, 1) := by decide +kernel
theorem dX9_effect_66 : decode cX9_effect 66 = .ok (.getfield 46, 3) := by decide +kernel
theorem dX9_effect_69 : decode cX9_effect 69 = .ok (.aload_n 0, 1) := by decide +kernel
theorem dX9_effect_70 : decode cX9_effect 70 = .ok (.getfield 181, 3) := by decide +kernel
theorem dX9_effect_73 : decode cX9_effect 73 = .ok (.iload_n 1, 1) := by decide +kernel
theorem dX9_effect_74 : decode cX9_effect 74 = .ok (.iastore, 1) := by decide +kernel
theorem dX9_effect_75 : decode cX9_effect 75 = .ok (.aload_n 0, 1) := by decide +kernel
theorem dX9_effect_76 : decode cX9_effect 76 = .ok (.getfield 49, 3) := by decide +kernel
theorem dX9_effect_79 : decode cX9_effect 79 = .ok (.aload_n 0, 1) := by decide +kernel
theorem dX9_effect_80 : decode cX9_effect 80 = .ok (.getfield 181, 3) := by decide +kernel
theorem dX9_effect_83 : decode cX9_effect 83 = .ok (.iload_n 2, 1) := by decide +kernel
theorem dX9_effect_84 : decode cX9_effect 84 = .ok (.iastore, 1) := by decide +kernel
theorem dX9_effect_85 : decode cX9_effect 85 = .ok (.aload_n 0, 1) := by decide +kernel
theorem dX9_effect_86 : decode cX9_effect 86 = .ok (.getfield 52, 3) := by decide +kernel
theorem dX9_effect_89 : decode cX9_effect 89 = .ok (.aload_n 0, 1) := by decide +kernel
theorem dX9_effect_90 : decode cX9_effect 90 = .ok (.getfield 181, 3) := by decide +kernel
theorem dX9_effect_93 : decode cX9_effect 93 = .ok (.iload_n 3, 1) := by decide +kernel
theorem dX9_effect_94 : decode cX9_effect 94 = .ok (.iastore, 1) := by decide +kernel
theorem dX9_effect_95 : decode cX9_effect 95 = .ok (.aload_n 0, 1) := by decide +kernel
theorem dX9_effect_96 : decode cX9_effect 96 = .ok (.getfield 55, 3) := by decide +kernel
theorem dX9_effect_99 : decode cX9_effect 99 = .ok (.aload_n 0, 1) := by decide +kernel
theorem dX9_effect_100 : decode cX9_effect 100 = .ok (.getfield 181, 3) := by decide +kernel
theorem dX9_effect_103 : decode cX9_effect 103 = .ok (.iload 4, 2) := by decide +kernel
theorem dX9_effect_105 : decode cX9_effect 105 = .ok (.iastore, 1) := by decide +kernel
theorem dX9_effect_106 : decode cX9_effect 106 = .ok (.aload_n 0, 1) := by decide +kernel
theorem dX9_effect_107 : decode cX9_effect 107 = .ok (.getfield 58, 3) := by decide +kernel
theorem dX9_effect_110 : decode cX9_effect 110 = .ok (.aload_n 0, 1) := by decide +kernel
theorem dX9_effect_111 : decode cX9_effect 111 = .ok (.getfield 181, 3) := by decide +kernel
theorem dX9_effect_114 : decode cX9_effect 114 = .ok (.iload 5, 2) := by decide +kernel
theorem dX9_effect_116 : decode cX9_effect 116 = .ok (.iastore, 1) := by decide +kernel
theorem dX9_effect_117 : decode cX9_effect 117 = .ok (.aload_n 0, 1) := by decide +kernel
theorem dX9_effect_118 : decode cX9_effect 118 = .ok (.dup, 1) := by decide +kernel
theorem dX9_effect_119 : decode cX9_effect 119 = .ok (.getfield 181, 3) := by decide +kernel
theorem dX9_effect_122 : decode cX9_effect 122 = .ok (.iconst 1, 1) := by decide +kernel
theorem dX9_effect_123 : decode cX9_effect 123 = .ok (.iadd, 1) := by decide +kernel
theorem dX9_effect_124 : decode cX9_effect 124 = .ok (.putfield 181, 3) := by decide +kernel
theorem dX9_effect_127 : decode cX9_effect 127 = .ok (.aload_n 0, 1) := by decide +kernel
theorem dX9_effect_128 : decode cX9_effect 128 = .ok (.getfield 181, 3) := by decide +kernel
theorem dX9_effect_131 : decode cX9_effect 131 = .ok (.iconst 1, 1) := by decide +kernel
theorem dX9_effect_132 : decode cX9_effect 132 = .ok (.isub, 1) := by decide +kernel
theorem dX9_effect_133 : decode cX9_effect 133 = .ok (.ireturn, 1) := by decide +kernel
theorem dX9_spanOf_0 : decode cX9_spanOf 0 = .ok (.iconst 0, 1) := by decide +kernel
theorem dX9_spanOf_1 : decode cX9_spanOf 1 = .ok (.istore_n 2, 1) := by decide +kernel
theorem dX9_spanOf_2 : decode cX9_spanOf 2 = .ok (.aload_n 0, 1) := by decide +kernel
theorem dX9_spanOf_3 : decode cX9_spanOf 3 = .ok (.getfield 49, 3) := by decide +kernel
theorem dX9_spanOf_6 : decode cX9_spanOf 6 = .ok (.iload_n 1, 1) := by decide +kernel
theorem dX9_spanOf_7 : decode cX9_spanOf 7 = .ok (.iaload, 1) := by decide +kernel
theorem dX9_spanOf_8 : decode cX9_spanOf 8 = .ok (.istore_n 3, 1) := by decide +kernel
theorem dX9_spanOf_9 : decode cX9_spanOf 9 = .ok (.iload_n 3, 1) := by decide +kernel
theorem dX9_spanOf_10 : decode cX9_spanOf 10 = .ok (.aload_n 0, 1) := by decide +kernel
theorem dX9_spanOf_11 : decode cX9_spanOf 11 = .ok (.getfield 52, 3) := by decide +kernel
theorem dX9_spanOf_14 : decode cX9_spanOf 14 = .ok (.iload_n 1, 1) := by decide +kernel
theorem dX9_spanOf_15 : decode cX9_spanOf 15 = .ok (.iaload, 1) := by decide +kernel
theorem dX9_spanOf_16 : decode cX9_spanOf 16 = .ok (.if_icmp .gt 15, 3) := by decide +kernel
theorem dX9_spanOf_19 : decode cX9_spanOf 19 = .ok (.iload_n 2, 1) := by decide +kernel
theorem dX9_spanOf_20 : decode cX9_spanOf 20 = .ok (.iconst 1, 1) := by decide +kernel
theorem dX9_spanOf_21 : decode cX9_spanOf 21 = .ok (.iload_n 3, 1) := by decide +kernel
theorem dX9_spanOf_22 : decode cX9_spanOf 22 = .ok (.ishl, 1) := by decide +kernel
theorem dX9_spanOf_23 : decode cX9_spanOf 23 = .ok (.ior, 1) := by decide +kernel
theorem dX9_spanOf_24 : decode cX9_spanOf 24 = .ok (.istore_n 2, 1) := by decide +kernel
theorem dX9_spanOf_25 : decode cX9_spanOf 25 = .ok (.iinc 3 1, 3) := by decide +kernel
theorem dX9_spanOf_28 : decode cX9_spanOf 28 = .ok (.goto (-19), 3) := by decide +kernel
theorem dX9_spanOf_31 : decode cX9_spanOf 31 = .ok (.iload_n 2, 1) := by decide +kernel
theorem dX9_spanOf_32 : decode cX9_spanOf 32 = .ok (.ireturn, 1) := by decide +kernel
set_option maxRecDepth 20000 in
theorem ggX9_reachNow_X9_spanOf : GoodIn wsX9_reachNow wsX9_spanOf := goodIn_r _ [10, 11, 12, 13, 14, 15, 16, 17, 18, 19, 20, 21, 22, 23, 24, 25, 26, 27, 28, 29, 30, 31, 32, 33, 34, 35, 36, 37, 38, 39, 40, 41, 42, 43, 44, 45] (by decide +kernel) (by decide +kernel)
set_option maxRecDepth 20000 in
theorem gX9_reachNow_X9_spanOf : GoodIn wsX9_reachNow (wsV RX9 184 RX9 yX9_spanOf wsX9_spanOf) := goodIn_app (goodIn_of _ (by decide +kernel)) ggX9_reachNow_X9_spanOf
theorem dX9_reachNow_0 : decode cX9_reachNow 0 = .ok (.iconst 0, 1) := by decide +kernel
theorem dX9_reachNow_1 : decode cX9_reachNow 1 = .ok (.istore_n 1, 1) := by decide +kernel
theorem dX9_reachNow_2 : decode cX9_reachNow 2 = .ok (.iconst (-1), 1) := by decide +kernel
theorem dX9_reachNow_3 : decode cX9_reachNow 3 = .ok (.istore_n 2, 1) := by decide +kernel
theorem dX9_reachNow_4 : decode cX9_reachNow 4 = .ok (.iload_n 2, 1) := by decide +kernel
theorem dX9_reachNow_5 : decode cX9_reachNow 5 = .ok (.iload_n 1, 1) := by decide +kernel
theorem dX9_reachNow_6 : decode cX9_reachNow 6 = .ok (.if_icmp .eq 66, 3) := by decide +kernel
theorem dX9_reachNow_9 : decode cX9_reachNow 9 = .ok (.iload_n 1, 1) := by decide +kernel
theorem dX9_reachNow_10 : decode cX9_reachNow 10 = .ok (.istore_n 2, 1) := by decide +kernel
theorem dX9_reachNow_11 : decode cX9_reachNow 11 = .ok (.iconst 0, 1) := by decide +kernel
theorem dX9_reachNow_12 : decode cX9_reachNow 12 = .ok (.istore_n 3, 1) := by decide +kernel
theorem dX9_reachNow_13 : decode cX9_reachNow 13 = .ok (.iload_n 3, 1) := by decide +kernel
theorem dX9_reachNow_14 : decode cX9_reachNow 14 = .ok (.aload_n 0, 1) := by decide +kernel
theorem dX9_reachNow_15 : decode cX9_reachNow 15 = .ok (.getfield 181, 3) := by decide +kernel
theorem dX9_reachNow_18 : decode cX9_reachNow 18 = .ok (.if_icmp .ge 51, 3) := by decide +kernel
theorem dX9_reachNow_21 : decode cX9_reachNow 21 = .ok (.aload_n 0, 1) := by decide +kernel
theorem dX9_reachNow_22 : decode cX9_reachNow 22 = .ok (.getfield 83, 3) := by decide +kernel
theorem dX9_reachNow_25 : decode cX9_reachNow 25 = .ok (.aload_n 0, 1) := by decide +kernel
theorem dX9_reachNow_26 : decode cX9_reachNow 26 = .ok (.getfield 46, 3) := by decide +kernel
theorem dX9_reachNow_29 : decode cX9_reachNow 29 = .ok (.iload_n 3, 1) := by decide +kernel
theorem dX9_reachNow_30 : decode cX9_reachNow 30 = .ok (.iaload, 1) := by decide +kernel
theorem dX9_reachNow_31 : decode cX9_reachNow 31 = .ok (.iaload, 1) := by decide +kernel
theorem dX9_reachNow_32 : decode cX9_reachNow 32 = .ok (.aload_n 0, 1) := by decide +kernel
theorem dX9_reachNow_33 : decode cX9_reachNow 33 = .ok (.iload_n 3, 1) := by decide +kernel
theorem dX9_reachNow_34 : decode cX9_reachNow 34 = .ok (.invokevirtual 184, 3) := by decide +kernel
theorem dX9_reachNow_37 : decode cX9_reachNow 37 = .ok (.iand, 1) := by decide +kernel
theorem dX9_reachNow_38 : decode cX9_reachNow 38 = .ok (.ifCond .eq 25, 3) := by decide +kernel
theorem dX9_reachNow_41 : decode cX9_reachNow 41 = .ok (.aload_n 0, 1) := by decide +kernel
theorem dX9_reachNow_42 : decode cX9_reachNow 42 = .ok (.getfield 55, 3) := by decide +kernel
theorem dX9_reachNow_45 : decode cX9_reachNow 45 = .ok (.iload_n 3, 1) := by decide +kernel
theorem dX9_reachNow_46 : decode cX9_reachNow 46 = .ok (.iaload, 1) := by decide +kernel
theorem dX9_reachNow_47 : decode cX9_reachNow 47 = .ok (.iload_n 1, 1) := by decide +kernel
theorem dX9_reachNow_48 : decode cX9_reachNow 48 = .ok (.iconst (-1), 1) := by decide +kernel
theorem dX9_reachNow_49 : decode cX9_reachNow 49 = .ok (.ixor, 1) := by decide +kernel
theorem dX9_reachNow_50 : decode cX9_reachNow 50 = .ok (.iand, 1) := by decide +kernel
theorem dX9_reachNow_51 : decode cX9_reachNow 51 = .ok (.ifCond .ne 12, 3) := by decide +kernel
theorem dX9_reachNow_54 : decode cX9_reachNow 54 = .ok (.iload_n 1, 1) := by decide +kernel
theorem dX9_reachNow_55 : decode cX9_reachNow 55 = .ok (.aload_n 0, 1) := by decide +kernel
theorem dX9_reachNow_56 : decode cX9_reachNow 56 = .ok (.getfield 58, 3) := by decide +kernel
theorem dX9_reachNow_59 : decode cX9_reachNow 59 = .ok (.iload_n 3, 1) := by decide +kernel
theorem dX9_reachNow_60 : decode cX9_reachNow 60 = .ok (.iaload, 1) := by decide +kernel
theorem dX9_reachNow_61 : decode cX9_reachNow 61 = .ok (.ior, 1) := by decide +kernel
theorem dX9_reachNow_62 : decode cX9_reachNow 62 = .ok (.istore_n 1, 1) := by decide +kernel
theorem dX9_reachNow_63 : decode cX9_reachNow 63 = .ok (.iinc 3 1, 3) := by decide +kernel
theorem dX9_reachNow_66 : decode cX9_reachNow 66 = .ok (.goto (-53), 3) := by decide +kernel
theorem dX9_reachNow_69 : decode cX9_reachNow 69 = .ok (.goto (-65), 3) := by decide +kernel
theorem dX9_reachNow_72 : decode cX9_reachNow 72 = .ok (.iload_n 1, 1) := by decide +kernel
theorem dX9_reachNow_73 : decode cX9_reachNow 73 = .ok (.ireturn, 1) := by decide +kernel
set_option maxRecDepth 20000 in
theorem ggX9_lists_X9_seenOf : GoodIn wsX9_lists wsX9_seenOf := goodIn_r _ [6, 7, 8, 9, 5, 10, 67, 68, 69, 70, 71, 72, 73, 74, 75, 76, 77, 78, 79, 80, 81, 82, 83, 84, 85, 86, 87, 88, 89, 90, 91, 92, 93, 94, 95, 96, 97, 98, 99] (by decide +kernel) (by decide +kernel)
set_option maxRecDepth 20000 in
theorem gX9_lists_X9_seenOf : GoodIn wsX9_lists (wsV RX9 188 RX9 yX9_seenOf wsX9_seenOf) := goodIn_app (goodIn_of _ (by decide +kernel)) ggX9_lists_X9_seenOf
set_option maxRecDepth 20000 in
theorem ggX9_lists_X9_meltedOf : GoodIn wsX9_lists wsX9_meltedOf := goodIn_r _ [14, 8, 9, 5, 10, 15, 16, 17, 18, 19, 20, 21, 22, 23, 24, 25, 26, 27, 28, 29, 30, 31, 32, 33, 34, 35, 36, 37, 38, 39, 40, 41, 42, 43, 44, 45, 46, 47, 48, 49, 50, 51, 52, 53, 54, 55, 56, 57, 58, 59, 60, 61, 62, 63, 64, 65, 66, 67, 68, 69, 70, 71, 72, 73, 74, 75, 76, 77, 78, 79, 80, 81, 82, 83, 84, 85, 86, 87, 88, 89, 90, 91, 92, 93, 94, 95, 96, 97, 98, 99] (by decide +kernel) (by decide +kernel)
set_option maxRecDepth 20000 in
theorem gX9_lists_X9_meltedOf : GoodIn wsX9_lists (wsV RX9 178 RX9 yX9_meltedOf wsX9_meltedOf) := goodIn_app (goodIn_of _ (by decide +kernel)) ggX9_lists_X9_meltedOf
theorem dX9_lists_0 : decode cX9_lists 0 = .ok (.iconst 0, 1) := by decide +kernel
theorem dX9_lists_1 : decode cX9_lists 1 = .ok (.istore_n 3, 1) := by decide +kernel
theorem dX9_lists_2 : decode cX9_lists 2 = .ok (.iload_n 3, 1) := by decide +kernel
theorem dX9_lists_3 : decode cX9_lists 3 = .ok (.bipush 32, 2) := by decide +kernel
theorem dX9_lists_5 : decode cX9_lists 5 = .ok (.if_icmp .ge 35, 3) := by decide +kernel
theorem dX9_lists_8 : decode cX9_lists 8 = .ok (.aload_n 0, 1) := by decide +kernel
theorem dX9_lists_9 : decode cX9_lists 9 = .ok (.getfield 83, 3) := by decide +kernel
theorem dX9_lists_12 : decode cX9_lists 12 = .ok (.iload_n 3, 1) := by decide +kernel
theorem dX9_lists_13 : decode cX9_lists 13 = .ok (.iload_n 2, 1) := by decide +kernel
theorem dX9_lists_14 : decode cX9_lists 14 = .ok (.ifCond .eq 12, 3) := by decide +kernel
theorem dX9_lists_17 : decode cX9_lists 17 = .ok (.aload_n 0, 1) := by decide +kernel
theorem dX9_lists_18 : decode cX9_lists 18 = .ok (.iload_n 1, 1) := by decide +kernel
theorem dX9_lists_19 : decode cX9_lists 19 = .ok (.iload_n 3, 1) := by decide +kernel
theorem dX9_lists_20 : decode cX9_lists 20 = .ok (.invokevirtual 188, 3) := by decide +kernel
theorem dX9_lists_23 : decode cX9_lists 23 = .ok (.goto 10, 3) := by decide +kernel
theorem dX9_lists_26 : decode cX9_lists 26 = .ok (.aload_n 0, 1) := by decide +kernel
theorem dX9_lists_27 : decode cX9_lists 27 = .ok (.iload_n 1, 1) := by decide +kernel
theorem dX9_lists_28 : decode cX9_lists 28 = .ok (.iconst 1, 1) := by decide +kernel
theorem dX9_lists_29 : decode cX9_lists 29 = .ok (.iload_n 3, 1) := by decide +kernel
theorem dX9_lists_30 : decode cX9_lists 30 = .ok (.invokevirtual 178, 3) := by decide +kernel
theorem dX9_lists_33 : decode cX9_lists 33 = .ok (.iastore, 1) := by decide +kernel
theorem dX9_lists_34 : decode cX9_lists 34 = .ok (.iinc 3 1, 3) := by decide +kernel
theorem dX9_lists_37 : decode cX9_lists 37 = .ok (.goto (-35), 3) := by decide +kernel
theorem dX9_lists_40 : decode cX9_lists 40 = .ok (.return_, 1) := by decide +kernel
set_option maxRecDepth 20000 in
theorem ggX9_reach_X9_isSet : GoodIn wsX9_reach wsX9_isSet := goodIn_r _ [4, 5, 6, 3, 7] (by decide +kernel) (by decide +kernel)
set_option maxRecDepth 20000 in
theorem gX9_reach_X9_isSet : GoodIn wsX9_reach (va_wsS RX9 175 yX9_isSet wsX9_isSet) := goodIn_app (goodIn_of _ (by decide +kernel)) ggX9_reach_X9_isSet
set_option maxRecDepth 20000 in
theorem ggX9_reach_X9_lists : GoodIn wsX9_reach wsX9_lists := goodIn_r _ [11, 12, 13, 14, 15, 3, 16, 17, 18, 19, 20, 21, 22, 23, 24, 25, 26, 27, 28, 29, 30, 31, 32, 33, 34, 35, 36, 37, 38, 39, 40, 41, 42, 43, 44, 45, 46, 47, 48, 49, 50, 51, 52, 53, 54, 55, 56, 57, 58, 59, 60, 61, 62, 63, 64, 65, 66, 67, 68, 69, 70, 71, 72, 73, 74, 75, 76, 91, 92, 93, 94, 95, 96, 97, 98, 99, 100, 101, 102, 103, 104, 105, 106, 107, 108, 109, 110, 111, 112, 113, 114, 115, 116, 117, 118, 119, 120, 121, 122, 123] (by decide +kernel) (by decide +kernel)
set_option maxRecDepth 20000 in
theorem gX9_reach_X9_lists : GoodIn wsX9_reach (wsV RX9 191 RX9 yX9_lists wsX9_lists) := goodIn_app (goodIn_of _ (by decide +kernel)) ggX9_reach_X9_lists
set_option maxRecDepth 20000 in
theorem ggX9_reach_X9_reachNow : GoodIn wsX9_reach wsX9_reachNow := goodIn_r _ [80, 81, 12, 82, 83, 84, 85, 86, 87, 3, 88, 89, 90, 91, 92, 93, 94, 95, 96, 97, 98, 99, 100, 101, 102, 103, 104, 105, 106, 107, 108, 109, 110, 111, 112, 113, 114, 115, 116, 117, 118, 119, 120, 121, 122, 123] (by decide +kernel) (by decide +kernel)
set_option maxRecDepth 20000 in
theorem gX9_reach_X9_reachNow : GoodIn wsX9_reach (wsV RX9 195 RX9 yX9_reachNow wsX9_reachNow) := goodIn_app (goodIn_of _ (by decide +kernel)) ggX9_reach_X9_reachNow
theorem dX9_reach_0 : decode cX9_reach 0 = .ok (.iload_n 1, 1) := by decide +kernel
theorem dX9_reach_1 : decode cX9_reach 1 = .ok (.invokestatic 175, 3) := by decide +kernel
theorem dX9_reach_4 : decode cX9_reach 4 = .ok (.ifCond .ne 5, 3) := by decide +kernel
theorem dX9_reach_7 : decode cX9_reach 7 = .ok (.iconst (-1), 1) := by decide +kernel
theorem dX9_reach_8 : decode cX9_reach 8 = .ok (.ireturn, 1) := by decide +kernel
theorem dX9_reach_9 : decode cX9_reach 9 = .ok (.aload_n 0, 1) := by decide +kernel
theorem dX9_reach_10 : decode cX9_reach 10 = .ok (.iload_n 1, 1) := by decide +kernel
theorem dX9_reach_11 : decode cX9_reach 11 = .ok (.iload_n 2, 1) := by decide +kernel
theorem dX9_reach_12 : decode cX9_reach 12 = .ok (.invokevirtual 191, 3) := by decide +kernel
theorem dX9_reach_15 : decode cX9_reach 15 = .ok (.aload_n 0, 1) := by decide +kernel
theorem dX9_reach_16 : decode cX9_reach 16 = .ok (.invokevirtual 195, 3) := by decide +kernel
theorem dX9_reach_19 : decode cX9_reach 19 = .ok (.ireturn, 1) := by decide +kernel
set_option maxRecDepth 20000 in
theorem ggX9_takesOut_X9_lists : GoodIn wsX9_takesOut wsX9_lists := goodIn_r _ [8, 2, 9, 10, 11, 7, 12, 13, 14, 15, 16, 17, 18, 19, 20, 21, 22, 23, 24, 25, 26, 27, 28, 29, 30, 31, 32, 33, 34, 35, 36, 37, 38, 39, 40, 41, 42, 43, 44, 45, 46, 47, 48, 49, 50, 51, 52, 53, 54, 55, 56, 57, 58, 59, 60, 61, 62, 63, 64, 65, 66, 67, 68, 69, 70, 71, 72, 79, 80, 81, 82, 83, 84, 85, 86, 87, 88, 89, 90, 91, 92, 93, 94, 95, 96, 97, 98, 99, 100, 101, 102, 103, 104, 105, 106, 107, 108, 109, 110, 111] (by decide +kernel) (by decide +kernel)
set_option maxRecDepth 20000 in
theorem gX9_takesOut_X9_lists : GoodIn wsX9_takesOut (wsV RX9 191 RX9 yX9_lists wsX9_lists) := goodIn_app (goodIn_of _ (by decide +kernel)) ggX9_takesOut_X9_lists
set_option maxRecDepth 20000 in
theorem ggX9_takesOut_X9_has : GoodIn wsX9_takesOut wsX9_has := goodIn_r _ [16] (by decide +kernel) (by decide +kernel)
set_option maxRecDepth 20000 in
theorem gX9_takesOut_X9_has : GoodIn wsX9_takesOut (va_wsS RX9 151 yX9_has wsX9_has) := goodIn_app (goodIn_of _ (by decide +kernel)) ggX9_takesOut_X9_has
set_option maxRecDepth 20000 in
theorem ggX9_takesOut_X9_spanOf : GoodIn wsX9_takesOut wsX9_spanOf := goodIn_r _ [76, 77, 78, 79, 80, 81, 82, 83, 84, 85, 86, 87, 88, 89, 90, 91, 92, 93, 94, 95, 96, 97, 98, 99, 100, 101, 102, 103, 104, 105, 106, 107, 108, 109, 110, 111] (by decide +kernel) (by decide +kernel)
set_option maxRecDepth 20000 in
theorem gX9_takesOut_X9_spanOf : GoodIn wsX9_takesOut (wsV RX9 184 RX9 yX9_spanOf wsX9_spanOf) := goodIn_app (goodIn_of _ (by decide +kernel)) ggX9_takesOut_X9_spanOf
set_option maxRecDepth 20000 in
theorem ggX9_takesOut_X9_seenOf : GoodIn wsX9_takesOut wsX9_seenOf := goodIn_r _ [12, 13, 14, 15, 7, 16, 79, 80, 81, 82, 83, 84, 85, 86, 87, 88, 89, 90, 91, 92, 93, 94, 95, 96, 97, 98, 99, 100, 101, 102, 103, 104, 105, 106, 107, 108, 109, 110, 111] (by decide +kernel) (by decide +kernel)
set_option maxRecDepth 20000 in
theorem gX9_takesOut_X9_seenOf : GoodIn wsX9_takesOut (wsV RX9 188 RX9 yX9_seenOf wsX9_seenOf) := goodIn_app (goodIn_of _ (by decide +kernel)) ggX9_takesOut_X9_seenOf
theorem dX9_takesOut_0 : decode cX9_takesOut 0 = .ok (.aload_n 0, 1) := by decide +kernel
theorem dX9_takesOut_1 : decode cX9_takesOut 1 = .ok (.iload_n 1, 1) := by decide +kernel
theorem dX9_takesOut_2 : decode cX9_takesOut 2 = .ok (.iconst 0, 1) := by decide +kernel
theorem dX9_takesOut_3 : decode cX9_takesOut 3 = .ok (.invokevirtual 191, 3) := by decide +kernel
theorem dX9_takesOut_6 : decode cX9_takesOut 6 = .ok (.iconst 0, 1) := by decide +kernel
theorem dX9_takesOut_7 : decode cX9_takesOut 7 = .ok (.istore_n 3, 1) := by decide +kernel
theorem dX9_takesOut_8 : decode cX9_takesOut 8 = .ok (.iconst 0, 1) := by decide +kernel
theorem dX9_takesOut_9 : decode cX9_takesOut 9 = .ok (.istore 4, 2) := by decide +kernel
theorem dX9_takesOut_11 : decode cX9_takesOut 11 = .ok (.iload 4, 2) := by decide +kernel
theorem dX9_takesOut_13 : decode cX9_takesOut 13 = .ok (.aload_n 0, 1) := by decide +kernel
theorem dX9_takesOut_14 : decode cX9_takesOut 14 = .ok (.getfield 181, 3) := by decide +kernel
theorem dX9_takesOut_17 : decode cX9_takesOut 17 = .ok (.if_icmp .ge 115, 3) := by decide +kernel
theorem dX9_takesOut_20 : decode cX9_takesOut 20 = .ok (.iload_n 2, 1) := by decide +kernel
theorem dX9_takesOut_21 : decode cX9_takesOut 21 = .ok (.iload 4, 2) := by decide +kernel
theorem dX9_takesOut_23 : decode cX9_takesOut 23 = .ok (.invokestatic 151, 3) := by decide +kernel
theorem dX9_takesOut_26 : decode cX9_takesOut 26 = .ok (.ifCond .ne 6, 3) := by decide +kernel
theorem dX9_takesOut_29 : decode cX9_takesOut 29 = .ok (.goto 97, 3) := by decide +kernel
theorem dX9_takesOut_32 : decode cX9_takesOut 32 = .ok (.aload_n 0, 1) := by decide +kernel
theorem dX9_takesOut_33 : decode cX9_takesOut 33 = .ok (.getfield 83, 3) := by decide +kernel
theorem dX9_takesOut_36 : decode cX9_takesOut 36 = .ok (.aload_n 0, 1) := by decide +kernel
theorem dX9_takesOut_37 : decode cX9_takesOut 37 = .ok (.getfield 46, 3) := by decide +kernel
theorem dX9_takesOut_40 : decode cX9_takesOut 40 = .ok (.iload 4, 2) := by decide +kernel
theorem dX9_takesOut_42 : decode cX9_takesOut 42 = .ok (.iaload, 1) := by decide +kernel
theorem dX9_takesOut_43 : decode cX9_takesOut 43 = .ok (.iaload, 1) := by decide +kernel
theorem dX9_takesOut_44 : decode cX9_takesOut 44 = .ok (.aload_n 0, 1) := by decide +kernel
theorem dX9_takesOut_45 : decode cX9_takesOut 45 = .ok (.iload 4, 2) := by decide +kernel
theorem dX9_takesOut_47 : decode cX9_takesOut 47 = .ok (.invokevirtual 184, 3) := by decide +kernel
theorem dX9_takesOut_50 : decode cX9_takesOut 50 = .ok (.iand, 1) := by decide +kernel
theorem dX9_takesOut_51 : decode cX9_takesOut 51 = .ok (.istore 5, 2) := by decide +kernel
theorem dX9_takesOut_53 : decode cX9_takesOut 53 = .ok (.iload 5, 2) := by decide +kernel
theorem dX9_takesOut_55 : decode cX9_takesOut 55 = .ok (.aload_n 0, 1) := by decide +kernel
theorem dX9_takesOut_56 : decode cX9_takesOut 56 = .ok (.iload_n 1, 1) := by decide +kernel
theorem dX9_takesOut_57 : decode cX9_takesOut 57 = .ok (.aload_n 0, 1) := by decide +kernel
theorem dX9_takesOut_58 : decode cX9_takesOut 58 = .ok (.getfield 46, 3) := by decide +kernel
theorem dX9_takesOut_61 : decode cX9_takesOut 61 = .ok (.iload 4, 2) := by decide +kernel
theorem dX9_takesOut_63 : decode cX9_takesOut 63 = .ok (.iaload, 1) := by decide +kernel
theorem dX9_takesOut_64 : decode cX9_takesOut 64 = .ok (.invokevirtual 188, 3) := by decide +kernel
theorem dX9_takesOut_67 : decode cX9_takesOut 67 = .ok (.iand, 1) := by decide +kernel
theorem dX9_takesOut_68 : decode cX9_takesOut 68 = .ok (.ifCond .eq 5, 3) := by decide +kernel
theorem dX9_takesOut_71 : decode cX9_takesOut 71 = .ok (.iconst (-1), 1) := by decide +kernel
theorem dX9_takesOut_72 : decode cX9_takesOut 72 = .ok (.ireturn, 1) := by decide +kernel
theorem dX9_takesOut_73 : decode cX9_takesOut 73 = .ok (.iconst 0, 1) := by decide +kernel
theorem dX9_takesOut_74 : decode cX9_takesOut 74 = .ok (.istore 6, 2) := by decide +kernel
theorem dX9_takesOut_76 : decode cX9_takesOut 76 = .ok (.iload 6, 2) := by decide +kernel
theorem dX9_takesOut_78 : decode cX9_takesOut 78 = .ok (.bipush 32, 2) := by decide +kernel
theorem dX9_takesOut_80 : decode cX9_takesOut 80 = .ok (.if_icmp .ge 27, 3) := by decide +kernel
theorem dX9_takesOut_83 : decode cX9_takesOut 83 = .ok (.iload_n 3, 1) := by decide +kernel
theorem dX9_takesOut_84 : decode cX9_takesOut 84 = .ok (.iload 5, 2) := by decide +kernel
theorem dX9_takesOut_86 : decode cX9_takesOut 86 = .ok (.iload 6, 2) := by decide +kernel
theorem dX9_takesOut_88 : decode cX9_takesOut 88 = .ok (.invokestatic 151, 3) := by decide +kernel
theorem dX9_takesOut_91 : decode cX9_takesOut 91 = .ok (.ifCond .eq 7, 3) := by decide +kernel
theorem dX9_takesOut_94 : decode cX9_takesOut 94 = .ok (.iconst 1, 1) := by decide +kernel
theorem dX9_takesOut_95 : decode cX9_takesOut 95 = .ok (.goto 4, 3) := by decide +kernel
theorem dX9_takesOut_98 : decode cX9_takesOut 98 = .ok (.iconst 0, 1) := by decide +kernel
theorem dX9_takesOut_99 : decode cX9_takesOut 99 = .ok (.iadd, 1) := by decide +kernel
theorem dX9_takesOut_100 : decode cX9_takesOut 100 = .ok (.istore_n 3, 1) := by decide +kernel
theorem dX9_takesOut_101 : decode cX9_takesOut 101 = .ok (.iinc 6 1, 3) := by decide +kernel
theorem dX9_takesOut_104 : decode cX9_takesOut 104 = .ok (.goto (-28), 3) := by decide +kernel
theorem dX9_takesOut_107 : decode cX9_takesOut 107 = .ok (.aload_n 0, 1) := by decide +kernel
theorem dX9_takesOut_108 : decode cX9_takesOut 108 = .ok (.getfield 83, 3) := by decide +kernel
theorem dX9_takesOut_111 : decode cX9_takesOut 111 = .ok (.aload_n 0, 1) := by decide +kernel
theorem dX9_takesOut_112 : decode cX9_takesOut 112 = .ok (.getfield 46, 3) := by decide +kernel
theorem dX9_takesOut_115 : decode cX9_takesOut 115 = .ok (.iload 4, 2) := by decide +kernel
theorem dX9_takesOut_117 : decode cX9_takesOut 117 = .ok (.iaload, 1) := by decide +kernel
theorem dX9_takesOut_118 : decode cX9_takesOut 118 = .ok (.dup2, 1) := by decide +kernel
theorem dX9_takesOut_119 : decode cX9_takesOut 119 = .ok (.iaload, 1) := by decide +kernel
theorem dX9_takesOut_120 : decode cX9_takesOut 120 = .ok (.iload 5, 2) := by decide +kernel
theorem dX9_takesOut_122 : decode cX9_takesOut 122 = .ok (.iconst (-1), 1) := by decide +kernel
theorem dX9_takesOut_123 : decode cX9_takesOut 123 = .ok (.ixor, 1) := by decide +kernel
theorem dX9_takesOut_124 : decode cX9_takesOut 124 = .ok (.iand, 1) := by decide +kernel
theorem dX9_takesOut_125 : decode cX9_takesOut 125 = .ok (.iastore, 1) := by decide +kernel
theorem dX9_takesOut_126 : decode cX9_takesOut 126 = .ok (.iinc 4 1, 3) := by decide +kernel
theorem dX9_takesOut_129 : decode cX9_takesOut 129 = .ok (.goto (-118), 3) := by decide +kernel
theorem dX9_takesOut_132 : decode cX9_takesOut 132 = .ok (.iload_n 3, 1) := by decide +kernel
theorem dX9_takesOut_133 : decode cX9_takesOut 133 = .ok (.ireturn, 1) := by decide +kernel
set_option maxRecDepth 20000 in
theorem ggX9_best_X9_takesOut : GoodIn wsX9_best wsX9_takesOut := goodIn_r _ [7, 2, 8, 9, 10, 11, 12, 6, 13, 14, 15, 16, 17, 18, 19, 20, 21, 22, 23, 24, 25, 26, 27, 28, 29, 30, 31, 32, 33, 34, 35, 36, 37, 38, 39, 40, 41, 42, 43, 44, 45, 46, 47, 48, 49, 50, 51, 52, 53, 54, 55, 56, 57, 58, 59, 60, 61, 62, 63, 64, 65, 66, 67, 68, 69, 70, 71, 72, 73, 74, 75, 76, 77, 78, 79, 80, 81, 82, 83, 90, 91, 92, 93, 94, 95, 96, 97, 98, 99, 100, 101, 102, 103, 104, 105, 106, 107, 108, 109, 110, 111, 112, 113, 114, 115, 116, 117, 118, 119, 120, 121, 122] (by decide +kernel) (by decide +kernel)
set_option maxRecDepth 20000 in
theorem gX9_best_X9_takesOut : GoodIn wsX9_best (wsV RX9 202 RX9 yX9_takesOut wsX9_takesOut) := goodIn_app (goodIn_of _ (by decide +kernel)) ggX9_best_X9_takesOut
set_option maxRecDepth 20000 in
theorem ggX9_best_X9_reachNow : GoodIn wsX9_best wsX9_reachNow := goodIn_r _ [87, 2, 8, 9, 88, 89, 78, 79, 80, 6, 81, 82, 83, 90, 91, 92, 93, 94, 95, 96, 97, 98, 99, 100, 101, 102, 103, 104, 105, 106, 107, 108, 109, 110, 111, 112, 113, 114, 115, 116, 117, 118, 119, 120, 121, 122] (by decide +kernel) (by decide +kernel)
set_option maxRecDepth 20000 in
theorem gX9_best_X9_reachNow : GoodIn wsX9_best (wsV RX9 195 RX9 yX9_reachNow wsX9_reachNow) := goodIn_app (goodIn_of _ (by decide +kernel)) ggX9_best_X9_reachNow
set_option maxRecDepth 20000 in
theorem ggX9_best_X9_has : GoodIn wsX9_best wsX9_has := goodIn_r _ [21] (by decide +kernel) (by decide +kernel)
set_option maxRecDepth 20000 in
theorem gX9_best_X9_has : GoodIn wsX9_best (va_wsS RX9 151 yX9_has wsX9_has) := goodIn_app (goodIn_of _ (by decide +kernel)) ggX9_best_X9_has
theorem dX9_best_0 : decode cX9_best 0 = .ok (.iconst (-1), 1) := by decide +kernel
theorem dX9_best_1 : decode cX9_best 1 = .ok (.istore_n 3, 1) := by decide +kernel
theorem dX9_best_2 : decode cX9_best 2 = .ok (.iconst 0, 1) := by decide +kernel
theorem dX9_best_3 : decode cX9_best 3 = .ok (.istore 4, 2) := by decide +kernel
theorem dX9_best_5 : decode cX9_best 5 = .ok (.aload_n 0, 1) := by decide +kernel
theorem dX9_best_6 : decode cX9_best 6 = .ok (.iconst (-1), 1) := by decide +kernel
theorem dX9_best_7 : decode cX9_best 7 = .ok (.putfield 199, 3) := by decide +kernel
theorem dX9_best_10 : decode cX9_best 10 = .ok (.iconst 0, 1) := by decide +kernel
theorem dX9_best_11 : decode cX9_best 11 = .ok (.istore 5, 2) := by decide +kernel
theorem dX9_best_13 : decode cX9_best 13 = .ok (.iload 5, 2) := by decide +kernel
theorem dX9_best_15 : decode cX9_best 15 = .ok (.iconst 1, 1) := by decide +kernel
theorem dX9_best_16 : decode cX9_best 16 = .ok (.aload_n 0, 1) := by decide +kernel
theorem dX9_best_17 : decode cX9_best 17 = .ok (.getfield 181, 3) := by decide +kernel
theorem dX9_best_20 : decode cX9_best 20 = .ok (.ishl, 1) := by decide +kernel
theorem dX9_best_21 : decode cX9_best 21 = .ok (.if_icmp .ge 125, 3) := by decide +kernel
theorem dX9_best_24 : decode cX9_best 24 = .ok (.aload_n 0, 1) := by decide +kernel
theorem dX9_best_25 : decode cX9_best 25 = .ok (.iload_n 1, 1) := by decide +kernel
theorem dX9_best_26 : decode cX9_best 26 = .ok (.iload 5, 2) := by decide +kernel
theorem dX9_best_28 : decode cX9_best 28 = .ok (.invokevirtual 202, 3) := by decide +kernel
theorem dX9_best_31 : decode cX9_best 31 = .ok (.istore 6, 2) := by decide +kernel
theorem dX9_best_33 : decode cX9_best 33 = .ok (.iload 6, 2) := by decide +kernel
theorem dX9_best_35 : decode cX9_best 35 = .ok (.iconst (-1), 1) := by decide +kernel
theorem dX9_best_36 : decode cX9_best 36 = .ok (.if_icmp .eq 104, 3) := by decide +kernel
theorem dX9_best_39 : decode cX9_best 39 = .ok (.aload_n 0, 1) := by decide +kernel
theorem dX9_best_40 : decode cX9_best 40 = .ok (.invokevirtual 195, 3) := by decide +kernel
theorem dX9_best_43 : decode cX9_best 43 = .ok (.iload_n 2, 1) := by decide +kernel
theorem dX9_best_44 : decode cX9_best 44 = .ok (.invokestatic 151, 3) := by decide +kernel
theorem dX9_best_47 : decode cX9_best 47 = .ok (.ifCond .eq 6, 3) := by decide +kernel
theorem dX9_best_50 : decode cX9_best 50 = .ok (.goto 90, 3) := by decide +kernel
theorem dX9_best_53 : decode cX9_best 53 = .ok (.iconst 0, 1) := by decide +kernel
theorem dX9_best_54 : decode cX9_best 54 = .ok (.istore 7, 2) := by decide +kernel
theorem dX9_best_56 : decode cX9_best 56 = .ok (.iconst 0, 1) := by decide +kernel
theorem dX9_best_57 : decode cX9_best 57 = .ok (.istore 8, 2) := by decide +kernel
theorem dX9_best_59 : decode cX9_best 59 = .ok (.iload 8, 2) := by decide +kernel
theorem dX9_best_61 : decode cX9_best 61 = .ok (.aload_n 0, 1) := by decide +kernel
theorem dX9_best_62 : decode cX9_best 62 = .ok (.getfield 181, 3) := by decide +kernel
theorem dX9_best_65 : decode cX9_best 65 = .ok (.if_icmp .ge 29, 3) := by decide +kernel
theorem dX9_best_68 : decode cX9_best 68 = .ok (.iload 7, 2) := by decide +kernel
theorem dX9_best_70 : decode cX9_best 70 = .ok (.iload 5, 2) := by decide +kernel
theorem dX9_best_72 : decode cX9_best 72 = .ok (.iload 8, 2) := by decide +kernel
theorem dX9_best_74 : decode cX9_best 74 = .ok (.invokestatic 151, 3) := by decide +kernel
theorem dX9_best_77 : decode cX9_best 77 = .ok (.ifCond .eq 7, 3) := by decide +kernel
theorem dX9_best_80 : decode cX9_best 80 = .ok (.iconst 1, 1) := by decide +kernel
theorem dX9_best_81 : decode cX9_best 81 = .ok (.goto 4, 3) := by decide +kernel
theorem dX9_best_84 : decode cX9_best 84 = .ok (.iconst 0, 1) := by decide +kernel
theorem dX9_best_85 : decode cX9_best 85 = .ok (.iadd, 1) := by decide +kernel
theorem dX9_best_86 : decode cX9_best 86 = .ok (.istore 7, 2) := by decide +kernel
theorem dX9_best_88 : decode cX9_best 88 = .ok (.iinc 8 1, 3) := by decide +kernel
theorem dX9_best_91 : decode cX9_best 91 = .ok (.goto (-32), 3) := by decide +kernel
theorem dX9_best_94 : decode cX9_best 94 = .ok (.iload_n 3, 1) := by decide +kernel
theorem dX9_best_95 : decode cX9_best 95 = .ok (.iconst (-1), 1) := by decide +kernel
theorem dX9_best_96 : decode cX9_best 96 = .ok (.if_icmp .eq 31, 3) := by decide +kernel
theorem dX9_best_99 : decode cX9_best 99 = .ok (.iload 6, 2) := by decide +kernel
theorem dX9_best_101 : decode cX9_best 101 = .ok (.aload_n 0, 1) := by decide +kernel
theorem dX9_best_102 : decode cX9_best 102 = .ok (.getfield 199, 3) := by decide +kernel
theorem dX9_best_105 : decode cX9_best 105 = .ok (.if_icmp .gt 35, 3) := by decide +kernel
theorem dX9_best_108 : decode cX9_best 108 = .ok (.iload 6, 2) := by decide +kernel
theorem dX9_best_110 : decode cX9_best 110 = .ok (.aload_n 0, 1) := by decide +kernel
theorem dX9_best_111 : decode cX9_best 111 = .ok (.getfield 199, 3) := by decide +kernel
theorem dX9_best_114 : decode cX9_best 114 = .ok (.if_icmp .ne 13, 3) := by decide +kernel
theorem dX9_best_117 : decode cX9_best 117 = .ok (.iload 7, 2) := by decide +kernel
theorem dX9_best_119 : decode cX9_best 119 = .ok (.iload 4, 2) := by decide +kernel
theorem dX9_best_121 : decode cX9_best 121 = .ok (.if_icmp .lt 6, 3) := by decide +kernel
theorem dX9_best_124 : decode cX9_best 124 = .ok (.goto 16, 3) := by decide +kernel
theorem dX9_best_127 : decode cX9_best 127 = .ok (.iload 5, 2) := by decide +kernel
theorem dX9_best_129 : decode cX9_best 129 = .ok (.istore_n 3, 1) := by decide +kernel
theorem dX9_best_130 : decode cX9_best 130 = .ok (.iload 7, 2) := by decide +kernel
theorem dX9_best_132 : decode cX9_best 132 = .ok (.istore 4, 2) := by decide +kernel
theorem dX9_best_134 : decode cX9_best 134 = .ok (.aload_n 0, 1) := by decide +kernel
theorem dX9_best_135 : decode cX9_best 135 = .ok (.iload 6, 2) := by decide +kernel
theorem dX9_best_137 : decode cX9_best 137 = .ok (.putfield 199, 3) := by decide +kernel
theorem dX9_best_140 : decode cX9_best 140 = .ok (.iinc 5 1, 3) := by decide +kernel
theorem dX9_best_143 : decode cX9_best 143 = .ok (.goto (-130), 3) := by decide +kernel
theorem dX9_best_146 : decode cX9_best 146 = .ok (.iload_n 3, 1) := by decide +kernel
theorem dX9_best_147 : decode cX9_best 147 = .ok (.ireturn, 1) := by decide +kernel
set_option maxRecDepth 20000 in
theorem ggX9_shut_X9_isSet : GoodIn wsX9_shut wsX9_isSet := goodIn_r _ [5, 6, 7, 4, 8] (by decide +kernel) (by decide +kernel)
set_option maxRecDepth 20000 in
theorem gX9_shut_X9_isSet : GoodIn wsX9_shut (va_wsS RX9 175 yX9_isSet wsX9_isSet) := goodIn_app (goodIn_of _ (by decide +kernel)) ggX9_shut_X9_isSet
set_option maxRecDepth 20000 in
theorem ggX9_shut_X9_lies : GoodIn wsX9_shut wsX9_lies := goodIn_r _ [8] (by decide +kernel) (by decide +kernel)
set_option maxRecDepth 20000 in
theorem gX9_shut_X9_lies : GoodIn wsX9_shut (va_wsS RX9 86 yX9_lies wsX9_lies) := goodIn_app (goodIn_of _ (by decide +kernel)) ggX9_shut_X9_lies
set_option maxRecDepth 20000 in
theorem ggX9_shut_X9_best : GoodIn wsX9_shut wsX9_best := goodIn_r _ [12, 1, 13, 14, 15, 16, 4, 17, 18, 19, 20, 21, 22, 23, 24, 25, 26, 27, 28, 29, 30, 31, 32, 33, 34, 35, 36, 37, 38, 39, 40, 41, 42, 43, 44, 45, 46, 47, 48, 49, 50, 51, 52, 53, 54, 55, 56, 57, 58, 59, 60, 61, 62, 63, 64, 65, 66, 67, 68, 69, 70, 71, 72, 73, 74, 75, 76, 77, 78, 79, 80, 81, 82, 83, 84, 85, 86, 87, 88, 89, 90, 91, 92, 93, 94, 95, 96, 97, 98, 99, 100, 101, 102, 103, 104, 105, 106, 107, 108, 109, 110, 111, 112, 113, 114, 115, 116, 117, 118, 119, 120, 121, 122, 123, 124, 125, 126, 127, 128, 129, 130, 131, 132] (by decide +kernel) (by decide +kernel)
set_option maxRecDepth 20000 in
theorem gX9_shut_X9_best : GoodIn wsX9_shut (wsV RX9 205 RX9 yX9_best wsX9_best) := goodIn_app (goodIn_of _ (by decide +kernel)) ggX9_shut_X9_best
theorem dX9_shut_0 : decode cX9_shut 0 = .ok (.iload_n 1, 1) := by decide +kernel
theorem dX9_shut_1 : decode cX9_shut 1 = .ok (.invokestatic 175, 3) := by decide +kernel
theorem dX9_shut_4 : decode cX9_shut 4 = .ok (.ifCond .eq 13, 3) := by decide +kernel
theorem dX9_shut_7 : decode cX9_shut 7 = .ok (.iload_n 2, 1) := by decide +kernel
theorem dX9_shut_8 : decode cX9_shut 8 = .ok (.iconst 0, 1) := by decide +kernel
theorem dX9_shut_9 : decode cX9_shut 9 = .ok (.bipush 7, 2) := by decide +kernel
theorem dX9_shut_11 : decode cX9_shut 11 = .ok (.invokestatic 86, 3) := by decide +kernel
theorem dX9_shut_14 : decode cX9_shut 14 = .ok (.ifCond .ne 5, 3) := by decide +kernel
theorem dX9_shut_17 : decode cX9_shut 17 = .ok (.iconst (-1), 1) := by decide +kernel
theorem dX9_shut_18 : decode cX9_shut 18 = .ok (.ireturn, 1) := by decide +kernel
theorem dX9_shut_19 : decode cX9_shut 19 = .ok (.aload_n 0, 1) := by decide +kernel
theorem dX9_shut_20 : decode cX9_shut 20 = .ok (.iload_n 1, 1) := by decide +kernel
theorem dX9_shut_21 : decode cX9_shut 21 = .ok (.iload_n 2, 1) := by decide +kernel
theorem dX9_shut_22 : decode cX9_shut 22 = .ok (.invokevirtual 205, 3) := by decide +kernel
theorem dX9_shut_25 : decode cX9_shut 25 = .ok (.istore_n 3, 1) := by decide +kernel
theorem dX9_shut_26 : decode cX9_shut 26 = .ok (.aload_n 0, 1) := by decide +kernel
theorem dX9_shut_27 : decode cX9_shut 27 = .ok (.getfield 199, 3) := by decide +kernel
theorem dX9_shut_30 : decode cX9_shut 30 = .ok (.ireturn, 1) := by decide +kernel
set_option maxRecDepth 20000 in
theorem ggX9_cuts_X9_isSet : GoodIn wsX9_cuts wsX9_isSet := goodIn_r _ [4, 5, 6, 3, 7] (by decide +kernel) (by decide +kernel)
set_option maxRecDepth 20000 in
theorem gX9_cuts_X9_isSet : GoodIn wsX9_cuts (va_wsS RX9 175 yX9_isSet wsX9_isSet) := goodIn_app (goodIn_of _ (by decide +kernel)) ggX9_cuts_X9_isSet
set_option maxRecDepth 20000 in
theorem ggX9_cuts_X9_lies : GoodIn wsX9_cuts wsX9_lies := goodIn_r _ [7] (by decide +kernel) (by decide +kernel)
set_option maxRecDepth 20000 in
theorem gX9_cuts_X9_lies : GoodIn wsX9_cuts (va_wsS RX9 86 yX9_lies wsX9_lies) := goodIn_app (goodIn_of _ (by decide +kernel)) ggX9_cuts_X9_lies
set_option maxRecDepth 20000 in
theorem ggX9_cuts_X9_best : GoodIn wsX9_cuts wsX9_best := goodIn_r _ [11, 12, 13, 14, 15, 16, 3, 17, 18, 19, 20, 21, 22, 23, 24, 25, 26, 27, 28, 29, 30, 31, 32, 33, 34, 35, 36, 37, 38, 39, 40, 41, 42, 43, 44, 45, 46, 47, 48, 49, 50, 51, 52, 53, 54, 55, 56, 57, 58, 59, 60, 61, 62, 63, 64, 65, 66, 67, 68, 69, 70, 71, 72, 73, 74, 75, 76, 77, 78, 79, 80, 81, 82, 83, 84, 85, 86, 87, 88, 89, 90, 91, 92, 93, 94, 95, 96, 97, 98, 99, 100, 101, 102, 103, 104, 105, 106, 107, 108, 109, 110, 111, 112, 113, 114, 115, 116, 117, 118, 119, 120, 121, 122, 123, 124, 125, 126, 127, 128, 129, 130, 131, 132] (by decide +kernel) (by decide +kernel)
set_option maxRecDepth 20000 in
theorem gX9_cuts_X9_best : GoodIn wsX9_cuts (wsV RX9 205 RX9 yX9_best wsX9_best) := goodIn_app (goodIn_of _ (by decide +kernel)) ggX9_cuts_X9_best
theorem dX9_cuts_0 : decode cX9_cuts 0 = .ok (.iload_n 1, 1) := by decide +kernel
theorem dX9_cuts_1 : decode cX9_cuts 1 = .ok (.invokestatic 175, 3) := by decide +kernel
theorem dX9_cuts_4 : decode cX9_cuts 4 = .ok (.ifCond .eq 22, 3) := by decide +kernel
theorem dX9_cuts_7 : decode cX9_cuts 7 = .ok (.iload_n 2, 1) := by decide +kernel
theorem dX9_cuts_8 : decode cX9_cuts 8 = .ok (.iconst 0, 1) := by decide +kernel
theorem dX9_cuts_9 : decode cX9_cuts 9 = .ok (.bipush 7, 2) := by decide +kernel
theorem dX9_cuts_11 : decode cX9_cuts 11 = .ok (.invokestatic 86, 3) := by decide +kernel
theorem dX9_cuts_14 : decode cX9_cuts 14 = .ok (.ifCond .eq 12, 3) := by decide +kernel
theorem dX9_cuts_17 : decode cX9_cuts 17 = .ok (.aload_n 0, 1) := by decide +kernel
theorem dX9_cuts_18 : decode cX9_cuts 18 = .ok (.iload_n 1, 1) := by decide +kernel
theorem dX9_cuts_19 : decode cX9_cuts 19 = .ok (.iload_n 2, 1) := by decide +kernel
theorem dX9_cuts_20 : decode cX9_cuts 20 = .ok (.invokevirtual 205, 3) := by decide +kernel
theorem dX9_cuts_23 : decode cX9_cuts 23 = .ok (.goto 4, 3) := by decide +kernel
theorem dX9_cuts_26 : decode cX9_cuts 26 = .ok (.iconst (-1), 1) := by decide +kernel
theorem dX9_cuts_27 : decode cX9_cuts 27 = .ok (.ireturn, 1) := by decide +kernel
set_option maxRecDepth 20000 in
theorem ggX9_look_X9_isProgram : GoodIn wsX9_look wsX9_isProgram := goodIn_r _ [10, 11, 12, 9, 13] (by decide +kernel) (by decide +kernel)
set_option maxRecDepth 20000 in
theorem gX9_look_X9_isProgram : GoodIn wsX9_look (va_wsS RX9 90 yX9_isProgram wsX9_isProgram) := goodIn_app (goodIn_of _ (by decide +kernel)) ggX9_look_X9_isProgram
set_option maxRecDepth 20000 in
theorem ggX9_look_X9_lies : GoodIn wsX9_look wsX9_lies := goodIn_r _ [13] (by decide +kernel) (by decide +kernel)
set_option maxRecDepth 20000 in
theorem gX9_look_X9_lies : GoodIn wsX9_look (va_wsS RX9 86 yX9_lies wsX9_lies) := goodIn_app (goodIn_of _ (by decide +kernel)) ggX9_look_X9_lies
set_option maxRecDepth 20000 in
theorem ggX9_look_X9_knows : GoodIn wsX9_look wsX9_knows := goodIn_r _ [17, 18, 19, 20, 21, 9, 22, 23, 6, 24, 25, 26, 27, 28, 29, 30, 31, 32, 1, 33, 34, 35, 36, 37, 38, 39, 40, 41, 42, 43, 44, 45, 46, 47, 48, 3, 2, 4, 5, 49, 50, 51, 52, 53, 54, 55, 59, 60, 61, 62, 63, 64, 65, 66, 67, 68, 69, 70, 71, 72, 73, 74, 75, 76, 77, 78, 79, 80, 81, 82, 83, 84, 85, 86, 87, 88, 89, 90, 91] (by decide +kernel) (by decide +kernel)
set_option maxRecDepth 20000 in
theorem gX9_look_X9_knows : GoodIn wsX9_look (wsV RX9 140 RX9 yX9_knows wsX9_knows) := goodIn_app (goodIn_of _ (by decide +kernel)) ggX9_look_X9_knows
set_option maxRecDepth 20000 in
theorem ggX9_look_X9_has : GoodIn wsX9_look wsX9_has := goodIn_r _ [58] (by decide +kernel) (by decide +kernel)
set_option maxRecDepth 20000 in
theorem gX9_look_X9_has : GoodIn wsX9_look (va_wsS RX9 151 yX9_has wsX9_has) := goodIn_app (goodIn_of _ (by decide +kernel)) ggX9_look_X9_has
theorem dX9_look_0 : decode cX9_look 0 = .ok (.iload_n 1, 1) := by decide +kernel
theorem dX9_look_1 : decode cX9_look 1 = .ok (.invokestatic 90, 3) := by decide +kernel
theorem dX9_look_4 : decode cX9_look 4 = .ok (.ifCond .eq 19, 3) := by decide +kernel
theorem dX9_look_7 : decode cX9_look 7 = .ok (.iload_n 2, 1) := by decide +kernel
theorem dX9_look_8 : decode cX9_look 8 = .ok (.iconst 0, 1) := by decide +kernel
theorem dX9_look_9 : decode cX9_look 9 = .ok (.aload_n 0, 1) := by decide +kernel
theorem dX9_look_10 : decode cX9_look 10 = .ok (.getfield 17, 3) := by decide +kernel
theorem dX9_look_13 : decode cX9_look 13 = .ok (.iload_n 1, 1) := by decide +kernel
theorem dX9_look_14 : decode cX9_look 14 = .ok (.iaload, 1) := by decide +kernel
theorem dX9_look_15 : decode cX9_look 15 = .ok (.iconst 1, 1) := by decide +kernel
theorem dX9_look_16 : decode cX9_look 16 = .ok (.isub, 1) := by decide +kernel
theorem dX9_look_17 : decode cX9_look 17 = .ok (.invokestatic 86, 3) := by decide +kernel
theorem dX9_look_20 : decode cX9_look 20 = .ok (.ifCond .ne 5, 3) := by decide +kernel
theorem dX9_look_23 : decode cX9_look 23 = .ok (.iconst (-1), 1) := by decide +kernel
theorem dX9_look_24 : decode cX9_look 24 = .ok (.ireturn, 1) := by decide +kernel
theorem dX9_look_25 : decode cX9_look 25 = .ok (.bipush 24, 2) := by decide +kernel
theorem dX9_look_27 : decode cX9_look 27 = .ok (.iload_n 1, 1) := by decide +kernel
theorem dX9_look_28 : decode cX9_look 28 = .ok (.imul, 1) := by decide +kernel
theorem dX9_look_29 : decode cX9_look 29 = .ok (.iload_n 2, 1) := by decide +kernel
theorem dX9_look_30 : decode cX9_look 30 = .ok (.iadd, 1) := by decide +kernel
theorem dX9_look_31 : decode cX9_look 31 = .ok (.istore 4, 2) := by decide +kernel
theorem dX9_look_33 : decode cX9_look 33 = .ok (.iload_n 3, 1) := by decide +kernel
theorem dX9_look_34 : decode cX9_look 34 = .ok (.tableswitch 90 0 4 #[34, 42, 50, 58, 66], 34) := by decide +kernel
theorem dX9_look_68 : decode cX9_look 68 = .ok (.aload_n 0, 1) := by decide +kernel
theorem dX9_look_69 : decode cX9_look 69 = .ok (.getfield 21, 3) := by decide +kernel
theorem dX9_look_72 : decode cX9_look 72 = .ok (.iload 4, 2) := by decide +kernel
theorem dX9_look_74 : decode cX9_look 74 = .ok (.iaload, 1) := by decide +kernel
theorem dX9_look_75 : decode cX9_look 75 = .ok (.ireturn, 1) := by decide +kernel
theorem dX9_look_76 : decode cX9_look 76 = .ok (.aload_n 0, 1) := by decide +kernel
theorem dX9_look_77 : decode cX9_look 77 = .ok (.getfield 24, 3) := by decide +kernel
theorem dX9_look_80 : decode cX9_look 80 = .ok (.iload 4, 2) := by decide +kernel
theorem dX9_look_82 : decode cX9_look 82 = .ok (.iaload, 1) := by decide +kernel
theorem dX9_look_83 : decode cX9_look 83 = .ok (.ireturn, 1) := by decide +kernel
theorem dX9_look_84 : decode cX9_look 84 = .ok (.aload_n 0, 1) := by decide +kernel
theorem dX9_look_85 : decode cX9_look 85 = .ok (.getfield 27, 3) := by decide +kernel
theorem dX9_look_88 : decode cX9_look 88 = .ok (.iload 4, 2) := by decide +kernel
theorem dX9_look_90 : decode cX9_look 90 = .ok (.iaload, 1) := by decide +kernel
theorem dX9_look_91 : decode cX9_look 91 = .ok (.ireturn, 1) := by decide +kernel
theorem dX9_look_92 : decode cX9_look 92 = .ok (.aload_n 0, 1) := by decide +kernel
theorem dX9_look_93 : decode cX9_look 93 = .ok (.getfield 30, 3) := by decide +kernel
theorem dX9_look_96 : decode cX9_look 96 = .ok (.iload 4, 2) := by decide +kernel
theorem dX9_look_98 : decode cX9_look 98 = .ok (.iaload, 1) := by decide +kernel
theorem dX9_look_99 : decode cX9_look 99 = .ok (.ireturn, 1) := by decide +kernel
theorem dX9_look_100 : decode cX9_look 100 = .ok (.aload_n 0, 1) := by decide +kernel
theorem dX9_look_101 : decode cX9_look 101 = .ok (.iload_n 1, 1) := by decide +kernel
theorem dX9_look_102 : decode cX9_look 102 = .ok (.invokevirtual 140, 3) := by decide +kernel
theorem dX9_look_105 : decode cX9_look 105 = .ok (.aload_n 0, 1) := by decide +kernel
theorem dX9_look_106 : decode cX9_look 106 = .ok (.getfield 39, 3) := by decide +kernel
theorem dX9_look_109 : decode cX9_look 109 = .ok (.iload_n 1, 1) := by decide +kernel
theorem dX9_look_110 : decode cX9_look 110 = .ok (.iaload, 1) := by decide +kernel
theorem dX9_look_111 : decode cX9_look 111 = .ok (.iload_n 2, 1) := by decide +kernel
theorem dX9_look_112 : decode cX9_look 112 = .ok (.invokestatic 151, 3) := by decide +kernel
theorem dX9_look_115 : decode cX9_look 115 = .ok (.ifCond .eq 7, 3) := by decide +kernel
theorem dX9_look_118 : decode cX9_look 118 = .ok (.iconst 1, 1) := by decide +kernel
theorem dX9_look_119 : decode cX9_look 119 = .ok (.goto 4, 3) := by decide +kernel
theorem dX9_look_122 : decode cX9_look 122 = .ok (.iconst 0, 1) := by decide +kernel
theorem dX9_look_123 : decode cX9_look 123 = .ok (.ireturn, 1) := by decide +kernel
theorem dX9_look_124 : decode cX9_look 124 = .ok (.iconst (-1), 1) := by decide +kernel
theorem dX9_look_125 : decode cX9_look 125 = .ok (.ireturn, 1) := by decide +kernel
set_option maxRecDepth 20000 in
theorem ggX9_callsOf_X9_needOf : GoodIn wsX9_callsOf wsX9_needOf := goodIn_r _ [6, 7, 8, 9, 10, 5, 11, 12, 13, 14, 15, 16, 17, 18, 19, 20, 21, 22, 23, 24, 25, 26, 27, 28, 29, 30, 31, 32, 33, 34, 35, 36, 37, 38, 39, 40, 41, 42, 43, 44, 45, 46, 47, 48, 49, 50, 51, 52, 53, 54, 58, 59, 60, 61, 62, 63, 64, 65, 66, 67, 68, 69, 70, 71, 72, 73, 74, 75, 76, 77, 78, 79, 80, 81, 82, 83, 84, 85, 86, 87, 88, 89, 90] (by decide +kernel) (by decide +kernel)
set_option maxRecDepth 20000 in
theorem gX9_callsOf_X9_needOf : GoodIn wsX9_callsOf (wsV RX9 147 RX9 yX9_needOf wsX9_needOf) := goodIn_app (goodIn_of _ (by decide +kernel)) ggX9_callsOf_X9_needOf
set_option maxRecDepth 20000 in
theorem ggX9_callsOf_X9_has : GoodIn wsX9_callsOf wsX9_has := goodIn_r _ [57] (by decide +kernel) (by decide +kernel)
set_option maxRecDepth 20000 in
theorem gX9_callsOf_X9_has : GoodIn wsX9_callsOf (va_wsS RX9 151 yX9_has wsX9_has) := goodIn_app (goodIn_of _ (by decide +kernel)) ggX9_callsOf_X9_has
theorem dX9_callsOf_0 : decode cX9_callsOf 0 = .ok (.iconst 0, 1) := by decide +kernel
theorem dX9_callsOf_1 : decode cX9_callsOf 1 = .ok (.istore 4, 2) := by decide +kernel
theorem dX9_callsOf_3 : decode cX9_callsOf 3 = .ok (.iconst 0, 1) := by decide +kernel
theorem dX9_callsOf_4 : decode cX9_callsOf 4 = .ok (.istore 5, 2) := by decide +kernel
theorem dX9_callsOf_6 : decode cX9_callsOf 6 = .ok (.iload 5, 2) := by decide +kernel
theorem dX9_callsOf_8 : decode cX9_callsOf 8 = .ok (.bipush 32, 2) := by decide +kernel
theorem dX9_callsOf_10 : decode cX9_callsOf 10 = .ok (.if_icmp .ge 75, 3) := by decide +kernel
theorem dX9_callsOf_13 : decode cX9_callsOf 13 = .ok (.iconst 0, 1) := by decide +kernel
theorem dX9_callsOf_14 : decode cX9_callsOf 14 = .ok (.istore 6, 2) := by decide +kernel
theorem dX9_callsOf_16 : decode cX9_callsOf 16 = .ok (.iload 6, 2) := by decide +kernel
theorem dX9_callsOf_18 : decode cX9_callsOf 18 = .ok (.bipush 32, 2) := by decide +kernel
theorem dX9_callsOf_20 : decode cX9_callsOf 20 = .ok (.if_icmp .ge 59, 3) := by decide +kernel
theorem dX9_callsOf_23 : decode cX9_callsOf 23 = .ok (.iload 4, 2) := by decide +kernel
theorem dX9_callsOf_25 : decode cX9_callsOf 25 = .ok (.iload_n 3, 1) := by decide +kernel
theorem dX9_callsOf_26 : decode cX9_callsOf 26 = .ok (.ifCond .eq 23, 3) := by decide +kernel
theorem dX9_callsOf_29 : decode cX9_callsOf 29 = .ok (.aload_n 0, 1) := by decide +kernel
theorem dX9_callsOf_30 : decode cX9_callsOf 30 = .ok (.getfield 36, 3) := by decide +kernel
theorem dX9_callsOf_33 : decode cX9_callsOf 33 = .ok (.bipush 64, 2) := by decide +kernel
theorem dX9_callsOf_35 : decode cX9_callsOf 35 = .ok (.iload_n 1, 1) := by decide +kernel
theorem dX9_callsOf_36 : decode cX9_callsOf 36 = .ok (.imul, 1) := by decide +kernel
theorem dX9_callsOf_37 : decode cX9_callsOf 37 = .ok (.bipush 32, 2) := by decide +kernel
theorem dX9_callsOf_39 : decode cX9_callsOf 39 = .ok (.iload_n 2, 1) := by decide +kernel
theorem dX9_callsOf_40 : decode cX9_callsOf 40 = .ok (.imul, 1) := by decide +kernel
theorem dX9_callsOf_41 : decode cX9_callsOf 41 = .ok (.iadd, 1) := by decide +kernel
theorem dX9_callsOf_42 : decode cX9_callsOf 42 = .ok (.iload 5, 2) := by decide +kernel
theorem dX9_callsOf_44 : decode cX9_callsOf 44 = .ok (.iadd, 1) := by decide +kernel
theorem dX9_callsOf_45 : decode cX9_callsOf 45 = .ok (.iaload, 1) := by decide +kernel
theorem dX9_callsOf_46 : decode cX9_callsOf 46 = .ok (.goto 11, 3) := by decide +kernel
theorem dX9_callsOf_49 : decode cX9_callsOf 49 = .ok (.aload_n 0, 1) := by decide +kernel
theorem dX9_callsOf_50 : decode cX9_callsOf 50 = .ok (.iload_n 1, 1) := by decide +kernel
theorem dX9_callsOf_51 : decode cX9_callsOf 51 = .ok (.iload_n 2, 1) := by decide +kernel
theorem dX9_callsOf_52 : decode cX9_callsOf 52 = .ok (.iload 5, 2) := by decide +kernel
theorem dX9_callsOf_54 : decode cX9_callsOf 54 = .ok (.invokevirtual 147, 3) := by decide +kernel
theorem dX9_callsOf_57 : decode cX9_callsOf 57 = .ok (.iload 6, 2) := by decide +kernel
theorem dX9_callsOf_59 : decode cX9_callsOf 59 = .ok (.invokestatic 151, 3) := by decide +kernel
theorem dX9_callsOf_62 : decode cX9_callsOf 62 = .ok (.ifCond .eq 7, 3) := by decide +kernel
theorem dX9_callsOf_65 : decode cX9_callsOf 65 = .ok (.iconst 1, 1) := by decide +kernel
theorem dX9_callsOf_66 : decode cX9_callsOf 66 = .ok (.goto 4, 3) := by decide +kernel
theorem dX9_callsOf_69 : decode cX9_callsOf 69 = .ok (.iconst 0, 1) := by decide +kernel
theorem dX9_callsOf_70 : decode cX9_callsOf 70 = .ok (.iadd, 1) := by decide +kernel
theorem dX9_callsOf_71 : decode cX9_callsOf 71 = .ok (.istore 4, 2) := by decide +kernel
theorem dX9_callsOf_73 : decode cX9_callsOf 73 = .ok (.iinc 6 1, 3) := by decide +kernel
theorem dX9_callsOf_76 : decode cX9_callsOf 76 = .ok (.goto (-60), 3) := by decide +kernel
theorem dX9_callsOf_79 : decode cX9_callsOf 79 = .ok (.iinc 5 1, 3) := by decide +kernel
theorem dX9_callsOf_82 : decode cX9_callsOf 82 = .ok (.goto (-76), 3) := by decide +kernel
theorem dX9_callsOf_85 : decode cX9_callsOf 85 = .ok (.iload 4, 2) := by decide +kernel
theorem dX9_callsOf_87 : decode cX9_callsOf 87 = .ok (.ireturn, 1) := by decide +kernel
set_option maxRecDepth 20000 in
theorem ggX9_count_X9_isProgram : GoodIn wsX9_count wsX9_isProgram := goodIn_r _ [7, 8, 9, 6, 10] (by decide +kernel) (by decide +kernel)
set_option maxRecDepth 20000 in
theorem gX9_count_X9_isProgram : GoodIn wsX9_count (va_wsS RX9 90 yX9_isProgram wsX9_isProgram) := goodIn_app (goodIn_of _ (by decide +kernel)) ggX9_count_X9_isProgram
set_option maxRecDepth 20000 in
theorem ggX9_count_X9_lies : GoodIn wsX9_count wsX9_lies := goodIn_r _ [10] (by decide +kernel) (by decide +kernel)
set_option maxRecDepth 20000 in
theorem gX9_count_X9_lies : GoodIn wsX9_count (va_wsS RX9 86 yX9_lies wsX9_lies) := goodIn_app (goodIn_of _ (by decide +kernel)) ggX9_count_X9_lies
set_option maxRecDepth 20000 in
theorem ggX9_count_X9_callsOf : GoodIn wsX9_count wsX9_callsOf := goodIn_r _ [14, 15, 16, 17, 18, 6, 19, 20, 21, 22, 23, 24, 25, 26, 27, 28, 29, 30, 31, 32, 33, 34, 35, 36, 37, 38, 39, 3, 40, 41, 42, 43, 44, 45, 46, 47, 48, 49, 50, 51, 52, 53, 54, 55, 56, 57, 58, 59, 60, 61, 62, 63, 64, 65, 66, 67, 68, 69, 70, 71, 72, 73, 74, 75, 76, 77, 78, 79, 80, 81, 82, 83, 84, 85, 86, 87, 88, 89, 90, 91, 92, 93, 94, 95, 96, 97, 98, 99, 100, 101, 102] (by decide +kernel) (by decide +kernel)
set_option maxRecDepth 20000 in
theorem gX9_count_X9_callsOf : GoodIn wsX9_count (wsV RX9 208 RX9 yX9_callsOf wsX9_callsOf) := goodIn_app (goodIn_of _ (by decide +kernel)) ggX9_count_X9_callsOf
theorem dX9_count_0 : decode cX9_count 0 = .ok (.iload_n 1, 1) := by decide +kernel
theorem dX9_count_1 : decode cX9_count 1 = .ok (.iconst (-1), 1) := by decide +kernel
theorem dX9_count_2 : decode cX9_count 2 = .ok (.if_icmp .ne 28, 3) := by decide +kernel
theorem dX9_count_5 : decode cX9_count 5 = .ok (.iload_n 2, 1) := by decide +kernel
theorem dX9_count_6 : decode cX9_count 6 = .ok (.ifCond .ne 10, 3) := by decide +kernel
theorem dX9_count_9 : decode cX9_count 9 = .ok (.aload_n 0, 1) := by decide +kernel
theorem dX9_count_10 : decode cX9_count 10 = .ok (.getfield 181, 3) := by decide +kernel
theorem dX9_count_13 : decode cX9_count 13 = .ok (.goto 16, 3) := by decide +kernel
theorem dX9_count_16 : decode cX9_count 16 = .ok (.iload_n 2, 1) := by decide +kernel
theorem dX9_count_17 : decode cX9_count 17 = .ok (.iconst 1, 1) := by decide +kernel
theorem dX9_count_18 : decode cX9_count 18 = .ok (.if_icmp .ne 10, 3) := by decide +kernel
theorem dX9_count_21 : decode cX9_count 21 = .ok (.aload_n 0, 1) := by decide +kernel
theorem dX9_count_22 : decode cX9_count 22 = .ok (.getfield 169, 3) := by decide +kernel
theorem dX9_count_25 : decode cX9_count 25 = .ok (.goto 4, 3) := by decide +kernel
theorem dX9_count_28 : decode cX9_count 28 = .ok (.iconst (-1), 1) := by decide +kernel
theorem dX9_count_29 : decode cX9_count 29 = .ok (.ireturn, 1) := by decide +kernel
theorem dX9_count_30 : decode cX9_count 30 = .ok (.iload_n 1, 1) := by decide +kernel
theorem dX9_count_31 : decode cX9_count 31 = .ok (.invokestatic 90, 3) := by decide +kernel
theorem dX9_count_34 : decode cX9_count 34 = .ok (.ifCond .eq 12, 3) := by decide +kernel
theorem dX9_count_37 : decode cX9_count 37 = .ok (.iload_n 2, 1) := by decide +kernel
theorem dX9_count_38 : decode cX9_count 38 = .ok (.iconst 0, 1) := by decide +kernel
theorem dX9_count_39 : decode cX9_count 39 = .ok (.iconst 4, 1) := by decide +kernel
theorem dX9_count_40 : decode cX9_count 40 = .ok (.invokestatic 86, 3) := by decide +kernel
theorem dX9_count_43 : decode cX9_count 43 = .ok (.ifCond .ne 5, 3) := by decide +kernel
theorem dX9_count_46 : decode cX9_count 46 = .ok (.iconst (-1), 1) := by decide +kernel
theorem dX9_count_47 : decode cX9_count 47 = .ok (.ireturn, 1) := by decide +kernel
theorem dX9_count_48 : decode cX9_count 48 = .ok (.iload_n 2, 1) := by decide +kernel
theorem dX9_count_49 : decode cX9_count 49 = .ok (.ifCond .ne 12, 3) := by decide +kernel
theorem dX9_count_52 : decode cX9_count 52 = .ok (.aload_n 0, 1) := by decide +kernel
theorem dX9_count_53 : decode cX9_count 53 = .ok (.getfield 17, 3) := by decide +kernel
theorem dX9_count_56 : decode cX9_count 56 = .ok (.iload_n 1, 1) := by decide +kernel
theorem dX9_count_57 : decode cX9_count 57 = .ok (.iaload, 1) := by decide +kernel
theorem dX9_count_58 : decode cX9_count 58 = .ok (.goto 23, 3) := by decide +kernel
theorem dX9_count_61 : decode cX9_count 61 = .ok (.aload_n 0, 1) := by decide +kernel
theorem dX9_count_62 : decode cX9_count 62 = .ok (.iload_n 1, 1) := by decide +kernel
theorem dX9_count_63 : decode cX9_count 63 = .ok (.iload_n 2, 1) := by decide +kernel
theorem dX9_count_64 : decode cX9_count 64 = .ok (.iconst 1, 1) := by decide +kernel
theorem dX9_count_65 : decode cX9_count 65 = .ok (.isub, 1) := by decide +kernel
theorem dX9_count_66 : decode cX9_count 66 = .ok (.iconst 2, 1) := by decide +kernel
theorem dX9_count_67 : decode cX9_count 67 = .ok (.irem, 1) := by decide +kernel
theorem dX9_count_68 : decode cX9_count 68 = .ok (.iload_n 2, 1) := by decide +kernel
theorem dX9_count_69 : decode cX9_count 69 = .ok (.iconst 2, 1) := by decide +kernel
theorem dX9_count_70 : decode cX9_count 70 = .ok (.if_icmp .le 7, 3) := by decide +kernel
theorem dX9_count_73 : decode cX9_count 73 = .ok (.iconst 1, 1) := by decide +kernel
theorem dX9_count_74 : decode cX9_count 74 = .ok (.goto 4, 3) := by decide +kernel
theorem dX9_count_77 : decode cX9_count 77 = .ok (.iconst 0, 1) := by decide +kernel
theorem dX9_count_78 : decode cX9_count 78 = .ok (.invokevirtual 208, 3) := by decide +kernel
theorem dX9_count_81 : decode cX9_count 81 = .ok (.ireturn, 1) := by decide +kernel
theorem dJ6_bitCount_0f7a4_0 : decode cJ6_bitCount_0f7a4 0 = .ok (.iload_n 0, 1) := by decide +kernel
theorem dJ6_bitCount_0f7a4_1 : decode cJ6_bitCount_0f7a4 1 = .ok (.iload_n 0, 1) := by decide +kernel
theorem dJ6_bitCount_0f7a4_2 : decode cJ6_bitCount_0f7a4 2 = .ok (.iconst 1, 1) := by decide +kernel
theorem dJ6_bitCount_0f7a4_3 : decode cJ6_bitCount_0f7a4 3 = .ok (.iushr, 1) := by decide +kernel
theorem dJ6_bitCount_0f7a4_4 : decode cJ6_bitCount_0f7a4 4 = .ok (.ldc_w 265, 3) := by decide +kernel
theorem dJ6_bitCount_0f7a4_7 : decode cJ6_bitCount_0f7a4 7 = .ok (.iand, 1) := by decide +kernel
theorem dJ6_bitCount_0f7a4_8 : decode cJ6_bitCount_0f7a4 8 = .ok (.isub, 1) := by decide +kernel
theorem dJ6_bitCount_0f7a4_9 : decode cJ6_bitCount_0f7a4 9 = .ok (.istore_n 0, 1) := by decide +kernel
theorem dJ6_bitCount_0f7a4_10 : decode cJ6_bitCount_0f7a4 10 = .ok (.iload_n 0, 1) := by decide +kernel
theorem dJ6_bitCount_0f7a4_11 : decode cJ6_bitCount_0f7a4 11 = .ok (.ldc_w 266, 3) := by decide +kernel
theorem dJ6_bitCount_0f7a4_14 : decode cJ6_bitCount_0f7a4 14 = .ok (.iand, 1) := by decide +kernel
theorem dJ6_bitCount_0f7a4_15 : decode cJ6_bitCount_0f7a4 15 = .ok (.iload_n 0, 1) := by decide +kernel
theorem dJ6_bitCount_0f7a4_16 : decode cJ6_bitCount_0f7a4 16 = .ok (.iconst 2, 1) := by decide +kernel
theorem dJ6_bitCount_0f7a4_17 : decode cJ6_bitCount_0f7a4 17 = .ok (.iushr, 1) := by decide +kernel
theorem dJ6_bitCount_0f7a4_18 : decode cJ6_bitCount_0f7a4 18 = .ok (.ldc_w 266, 3) := by decide +kernel
theorem dJ6_bitCount_0f7a4_21 : decode cJ6_bitCount_0f7a4 21 = .ok (.iand, 1) := by decide +kernel
theorem dJ6_bitCount_0f7a4_22 : decode cJ6_bitCount_0f7a4 22 = .ok (.iadd, 1) := by decide +kernel
theorem dJ6_bitCount_0f7a4_23 : decode cJ6_bitCount_0f7a4 23 = .ok (.istore_n 0, 1) := by decide +kernel
theorem dJ6_bitCount_0f7a4_24 : decode cJ6_bitCount_0f7a4 24 = .ok (.iload_n 0, 1) := by decide +kernel
theorem dJ6_bitCount_0f7a4_25 : decode cJ6_bitCount_0f7a4 25 = .ok (.iload_n 0, 1) := by decide +kernel
theorem dJ6_bitCount_0f7a4_26 : decode cJ6_bitCount_0f7a4 26 = .ok (.iconst 4, 1) := by decide +kernel
theorem dJ6_bitCount_0f7a4_27 : decode cJ6_bitCount_0f7a4 27 = .ok (.iushr, 1) := by decide +kernel
theorem dJ6_bitCount_0f7a4_28 : decode cJ6_bitCount_0f7a4 28 = .ok (.iadd, 1) := by decide +kernel
theorem dJ6_bitCount_0f7a4_29 : decode cJ6_bitCount_0f7a4 29 = .ok (.ldc_w 267, 3) := by decide +kernel
theorem dJ6_bitCount_0f7a4_32 : decode cJ6_bitCount_0f7a4 32 = .ok (.iand, 1) := by decide +kernel
theorem dJ6_bitCount_0f7a4_33 : decode cJ6_bitCount_0f7a4 33 = .ok (.istore_n 0, 1) := by decide +kernel
theorem dJ6_bitCount_0f7a4_34 : decode cJ6_bitCount_0f7a4 34 = .ok (.iload_n 0, 1) := by decide +kernel
theorem dJ6_bitCount_0f7a4_35 : decode cJ6_bitCount_0f7a4 35 = .ok (.iload_n 0, 1) := by decide +kernel
theorem dJ6_bitCount_0f7a4_36 : decode cJ6_bitCount_0f7a4 36 = .ok (.bipush 8, 2) := by decide +kernel
theorem dJ6_bitCount_0f7a4_38 : decode cJ6_bitCount_0f7a4 38 = .ok (.iushr, 1) := by decide +kernel
theorem dJ6_bitCount_0f7a4_39 : decode cJ6_bitCount_0f7a4 39 = .ok (.iadd, 1) := by decide +kernel
theorem dJ6_bitCount_0f7a4_40 : decode cJ6_bitCount_0f7a4 40 = .ok (.istore_n 0, 1) := by decide +kernel
theorem dJ6_bitCount_0f7a4_41 : decode cJ6_bitCount_0f7a4 41 = .ok (.iload_n 0, 1) := by decide +kernel
theorem dJ6_bitCount_0f7a4_42 : decode cJ6_bitCount_0f7a4 42 = .ok (.iload_n 0, 1) := by decide +kernel
theorem dJ6_bitCount_0f7a4_43 : decode cJ6_bitCount_0f7a4 43 = .ok (.bipush 16, 2) := by decide +kernel
theorem dJ6_bitCount_0f7a4_45 : decode cJ6_bitCount_0f7a4 45 = .ok (.iushr, 1) := by decide +kernel
theorem dJ6_bitCount_0f7a4_46 : decode cJ6_bitCount_0f7a4 46 = .ok (.iadd, 1) := by decide +kernel
theorem dJ6_bitCount_0f7a4_47 : decode cJ6_bitCount_0f7a4 47 = .ok (.istore_n 0, 1) := by decide +kernel
theorem dJ6_bitCount_0f7a4_48 : decode cJ6_bitCount_0f7a4 48 = .ok (.iload_n 0, 1) := by decide +kernel
theorem dJ6_bitCount_0f7a4_49 : decode cJ6_bitCount_0f7a4 49 = .ok (.bipush 63, 2) := by decide +kernel
theorem dJ6_bitCount_0f7a4_51 : decode cJ6_bitCount_0f7a4 51 = .ok (.iand, 1) := by decide +kernel
theorem dJ6_bitCount_0f7a4_52 : decode cJ6_bitCount_0f7a4 52 = .ok (.ireturn, 1) := by decide +kernel
theorem dJ9_max_7cf53_0 : decode cJ9_max_7cf53 0 = .ok (.iload_n 0, 1) := by decide +kernel
theorem dJ9_max_7cf53_1 : decode cJ9_max_7cf53 1 = .ok (.iload_n 1, 1) := by decide +kernel
theorem dJ9_max_7cf53_2 : decode cJ9_max_7cf53 2 = .ok (.if_icmp .lt 7, 3) := by decide +kernel
theorem dJ9_max_7cf53_5 : decode cJ9_max_7cf53 5 = .ok (.iload_n 0, 1) := by decide +kernel
theorem dJ9_max_7cf53_6 : decode cJ9_max_7cf53 6 = .ok (.goto 4, 3) := by decide +kernel
theorem dJ9_max_7cf53_9 : decode cJ9_max_7cf53 9 = .ok (.iload_n 1, 1) := by decide +kernel
theorem dJ9_max_7cf53_10 : decode cJ9_max_7cf53 10 = .ok (.ireturn, 1) := by decide +kernel
theorem dJ9_min_7cf53_0 : decode cJ9_min_7cf53 0 = .ok (.iload_n 0, 1) := by decide +kernel
theorem dJ9_min_7cf53_1 : decode cJ9_min_7cf53 1 = .ok (.iload_n 1, 1) := by decide +kernel
theorem dJ9_min_7cf53_2 : decode cJ9_min_7cf53 2 = .ok (.if_icmp .gt 7, 3) := by decide +kernel
theorem dJ9_min_7cf53_5 : decode cJ9_min_7cf53 5 = .ok (.iload_n 0, 1) := by decide +kernel
theorem dJ9_min_7cf53_6 : decode cJ9_min_7cf53 6 = .ok (.goto 4, 3) := by decide +kernel
theorem dJ9_min_7cf53_9 : decode cJ9_min_7cf53 9 = .ok (.iload_n 1, 1) := by decide +kernel
theorem dJ9_min_7cf53_10 : decode cJ9_min_7cf53 10 = .ok (.ireturn, 1) := by decide +kernel
theorem dJ7_fill_53178_0 : decode cJ7_fill_53178 0 = .ok (.iconst 0, 1) := by decide +kernel
theorem dJ7_fill_53178_1 : decode cJ7_fill_53178 1 = .ok (.istore_n 2, 1) := by decide +kernel
theorem dJ7_fill_53178_2 : decode cJ7_fill_53178 2 = .ok (.aload_n 0, 1) := by decide +kernel
theorem dJ7_fill_53178_3 : decode cJ7_fill_53178 3 = .ok (.arraylength, 1) := by decide +kernel
theorem dJ7_fill_53178_4 : decode cJ7_fill_53178 4 = .ok (.istore_n 3, 1) := by decide +kernel
theorem dJ7_fill_53178_5 : decode cJ7_fill_53178 5 = .ok (.iload_n 2, 1) := by decide +kernel
theorem dJ7_fill_53178_6 : decode cJ7_fill_53178 6 = .ok (.iload_n 3, 1) := by decide +kernel
theorem dJ7_fill_53178_7 : decode cJ7_fill_53178 7 = .ok (.if_icmp .ge 13, 3) := by decide +kernel
theorem dJ7_fill_53178_10 : decode cJ7_fill_53178 10 = .ok (.aload_n 0, 1) := by decide +kernel
theorem dJ7_fill_53178_11 : decode cJ7_fill_53178 11 = .ok (.iload_n 2, 1) := by decide +kernel
theorem dJ7_fill_53178_12 : decode cJ7_fill_53178 12 = .ok (.iload_n 1, 1) := by decide +kernel
theorem dJ7_fill_53178_13 : decode cJ7_fill_53178 13 = .ok (.iastore, 1) := by decide +kernel
theorem dJ7_fill_53178_14 : decode cJ7_fill_53178 14 = .ok (.iinc 2 1, 3) := by decide +kernel
theorem dJ7_fill_53178_17 : decode cJ7_fill_53178 17 = .ok (.goto (-12), 3) := by decide +kernel
theorem dJ7_fill_53178_20 : decode cJ7_fill_53178 20 = .ok (.return_, 1) := by decide +kernel
