theorem dX3_level_13 : decode cX3_level 13 = .ok (.iload_n 2, 1) := by decide +kernel
theorem dX3_level_14 : decode cX3_level 14 = .ok (.invokevirtual 36, 3) := by decide +kernel
theorem dX3_level_17 : decode cX3_level 17 = .ok (.ireturn, 1) := by decide +kernel
theorem dX3_level_18 : decode cX3_level 18 = .ok (.aload_n 0, 1) := by decide +kernel
theorem dX3_level_19 : decode cX3_level 19 = .ok (.getfield 9, 3) := by decide +kernel
theorem dX3_level_22 : decode cX3_level 22 = .ok (.aload_n 0, 1) := by decide +kernel
theorem dX3_level_23 : decode cX3_level 23 = .ok (.getfield 13, 3) := by decide +kernel
theorem dX3_level_26 : decode cX3_level 26 = .ok (.invokestatic 127, 3) := by decide +kernel
theorem dX3_level_29 : decode cX3_level 29 = .ok (.iconst 0, 1) := by decide +kernel
theorem dX3_level_30 : decode cX3_level 30 = .ok (.istore_n 3, 1) := by decide +kernel
theorem dX3_level_31 : decode cX3_level 31 = .ok (.iconst 0, 1) := by decide +kernel
theorem dX3_level_32 : decode cX3_level 32 = .ok (.istore 4, 2) := by decide +kernel
theorem dX3_level_34 : decode cX3_level 34 = .ok (.iload 4, 2) := by decide +kernel
theorem dX3_level_36 : decode cX3_level 36 = .ok (.iload_n 1, 1) := by decide +kernel
theorem dX3_level_37 : decode cX3_level 37 = .ok (.if_icmp .gt 36, 3) := by decide +kernel
theorem dX3_level_40 : decode cX3_level 40 = .ok (.iload_n 3, 1) := by decide +kernel
theorem dX3_level_41 : decode cX3_level 41 = .ok (.aload_n 0, 1) := by decide +kernel
theorem dX3_level_42 : decode cX3_level 42 = .ok (.getfield 13, 3) := by decide +kernel
theorem dX3_level_45 : decode cX3_level 45 = .ok (.iconst 2, 1) := by decide +kernel
theorem dX3_level_46 : decode cX3_level 46 = .ok (.iaload, 1) := by decide +kernel
theorem dX3_level_47 : decode cX3_level 47 = .ok (.bipush 10, 2) := by decide +kernel
theorem dX3_level_49 : decode cX3_level 49 = .ok (.if_icmp .ne 7, 3) := by decide +kernel
theorem dX3_level_52 : decode cX3_level 52 = .ok (.iconst 1, 1) := by decide +kernel
theorem dX3_level_53 : decode cX3_level 53 = .ok (.goto 4, 3) := by decide +kernel
theorem dX3_level_56 : decode cX3_level 56 = .ok (.iconst 0, 1) := by decide +kernel
theorem dX3_level_57 : decode cX3_level 57 = .ok (.iadd, 1) := by decide +kernel
theorem dX3_level_58 : decode cX3_level 58 = .ok (.istore_n 3, 1) := by decide +kernel
theorem dX3_level_59 : decode cX3_level 59 = .ok (.aload_n 0, 1) := by decide +kernel
theorem dX3_level_60 : decode cX3_level 60 = .ok (.getfield 13, 3) := by decide +kernel
theorem dX3_level_63 : decode cX3_level 63 = .ok (.iconst 0, 1) := by decide +kernel
theorem dX3_level_64 : decode cX3_level 64 = .ok (.invokestatic 82, 3) := by decide +kernel
theorem dX3_level_67 : decode cX3_level 67 = .ok (.iinc 4 1, 3) := by decide +kernel
theorem dX3_level_70 : decode cX3_level 70 = .ok (.goto (-36), 3) := by decide +kernel
theorem dX3_level_73 : decode cX3_level 73 = .ok (.iload_n 3, 1) := by decide +kernel
theorem dX3_level_74 : decode cX3_level 74 = .ok (.ireturn, 1) := by decide +kernel
set_option maxRecDepth 20000 in
theorem ggX3_apartThen_X3_daysOn : GoodIn wsX3_apartThen wsX3_daysOn := goodIn_r _ [5, 6, 7, 4, 8, 9, 10, 11, 12, 13, 14, 15, 16, 17, 18, 19, 20, 21, 22, 23, 24, 25, 26, 27, 28, 29, 30, 31, 32] (by decide +kernel) (by decide +kernel)
set_option maxRecDepth 20000 in
theorem gX3_apartThen_X3_daysOn : GoodIn wsX3_apartThen (va_wsS RX3 121 yX3_daysOn wsX3_daysOn) := goodIn_app (goodIn_of _ (by decide +kernel)) ggX3_apartThen_X3_daysOn
set_option maxRecDepth 20000 in
theorem ggX3_apartThen_X3_apart : GoodIn wsX3_apartThen wsX3_apart := goodIn_r _ [35, 30, 31, 4, 32] (by decide +kernel) (by decide +kernel)
set_option maxRecDepth 20000 in
theorem gX3_apartThen_X3_apart : GoodIn wsX3_apartThen (va_wsS RX3 161 yX3_apart wsX3_apart) := goodIn_app (goodIn_of _ (by decide +kernel)) ggX3_apartThen_X3_apart
theorem dX3_apartThen_0 : decode cX3_apartThen 0 = .ok (.aload_n 0, 1) := by decide +kernel
theorem dX3_apartThen_1 : decode cX3_apartThen 1 = .ok (.getfield 13, 3) := by decide +kernel
theorem dX3_apartThen_4 : decode cX3_apartThen 4 = .ok (.iload_n 1, 1) := by decide +kernel
theorem dX3_apartThen_5 : decode cX3_apartThen 5 = .ok (.invokestatic 121, 3) := by decide +kernel
theorem dX3_apartThen_8 : decode cX3_apartThen 8 = .ok (.aload_n 0, 1) := by decide +kernel
theorem dX3_apartThen_9 : decode cX3_apartThen 9 = .ok (.getfield 13, 3) := by decide +kernel
theorem dX3_apartThen_12 : decode cX3_apartThen 12 = .ok (.invokestatic 161, 3) := by decide +kernel
theorem dX3_apartThen_15 : decode cX3_apartThen 15 = .ok (.ireturn, 1) := by decide +kernel
set_option maxRecDepth 20000 in
theorem ggX3_apartNow_X3_copies : GoodIn wsX3_apartNow wsX3_copies := goodIn_r _ [6] (by decide +kernel) (by decide +kernel)
set_option maxRecDepth 20000 in
theorem gX3_apartNow_X3_copies : GoodIn wsX3_apartNow (va_wsS RX3 127 yX3_copies wsX3_copies) := goodIn_app (goodIn_of _ (by decide +kernel)) ggX3_apartNow_X3_copies
set_option maxRecDepth 20000 in
theorem ggX3_apartNow_X3_apartThen : GoodIn wsX3_apartNow wsX3_apartThen := goodIn_r _ [10, 2, 11, 12, 5, 13, 14, 15, 16, 17, 18, 19, 20, 21, 22, 23, 24, 25, 26, 27, 28, 29, 30, 31, 32, 33, 34, 35, 36, 37, 38, 39, 40, 41, 42, 43, 44, 45, 46, 47, 48, 49, 50, 51, 52, 53, 54, 55, 56] (by decide +kernel) (by decide +kernel)
set_option maxRecDepth 20000 in
theorem gX3_apartNow_X3_apartThen : GoodIn wsX3_apartNow (wsV RX3 164 RX3 yX3_apartThen wsX3_apartThen) := goodIn_app (goodIn_of _ (by decide +kernel)) ggX3_apartNow_X3_apartThen
theorem dX3_apartNow_0 : decode cX3_apartNow 0 = .ok (.aload_n 0, 1) := by decide +kernel
theorem dX3_apartNow_1 : decode cX3_apartNow 1 = .ok (.getfield 9, 3) := by decide +kernel
theorem dX3_apartNow_4 : decode cX3_apartNow 4 = .ok (.aload_n 0, 1) := by decide +kernel
theorem dX3_apartNow_5 : decode cX3_apartNow 5 = .ok (.getfield 13, 3) := by decide +kernel
theorem dX3_apartNow_8 : decode cX3_apartNow 8 = .ok (.invokestatic 127, 3) := by decide +kernel
theorem dX3_apartNow_11 : decode cX3_apartNow 11 = .ok (.aload_n 0, 1) := by decide +kernel
theorem dX3_apartNow_12 : decode cX3_apartNow 12 = .ok (.iload_n 1, 1) := by decide +kernel
theorem dX3_apartNow_13 : decode cX3_apartNow 13 = .ok (.invokevirtual 164, 3) := by decide +kernel
theorem dX3_apartNow_16 : decode cX3_apartNow 16 = .ok (.ireturn, 1) := by decide +kernel
set_option maxRecDepth 20000 in
theorem ggX3_apartHung_X3_copies : GoodIn wsX3_apartHung wsX3_copies := goodIn_r _ [6] (by decide +kernel) (by decide +kernel)
set_option maxRecDepth 20000 in
theorem gX3_apartHung_X3_copies : GoodIn wsX3_apartHung (va_wsS RX3 127 yX3_copies wsX3_copies) := goodIn_app (goodIn_of _ (by decide +kernel)) ggX3_apartHung_X3_copies
set_option maxRecDepth 20000 in
theorem ggX3_apartHung_X3_hangsIn : GoodIn wsX3_apartHung wsX3_hangsIn := goodIn_r _ [9, 10, 11, 5, 12] (by decide +kernel) (by decide +kernel)
set_option maxRecDepth 20000 in
theorem gX3_apartHung_X3_hangsIn : GoodIn wsX3_apartHung (va_wsS RX3 107 yX3_hangsIn wsX3_hangsIn) := goodIn_app (goodIn_of _ (by decide +kernel)) ggX3_apartHung_X3_hangsIn
set_option maxRecDepth 20000 in
theorem ggX3_apartHung_X3_apartThen : GoodIn wsX3_apartHung wsX3_apartThen := goodIn_r _ [16, 2, 17, 18, 5, 19, 20, 21, 22, 23, 24, 25, 26, 27, 28, 10, 11, 12, 29, 30, 31, 32, 33, 34, 35, 36, 37, 38, 39, 40, 41, 42, 43, 44, 45, 46, 47, 48, 49, 50, 51, 52, 53, 54, 55, 56, 57, 58, 59] (by decide +kernel) (by decide +kernel)
set_option maxRecDepth 20000 in
theorem gX3_apartHung_X3_apartThen : GoodIn wsX3_apartHung (wsV RX3 164 RX3 yX3_apartThen wsX3_apartThen) := goodIn_app (goodIn_of _ (by decide +kernel)) ggX3_apartHung_X3_apartThen
theorem dX3_apartHung_0 : decode cX3_apartHung 0 = .ok (.aload_n 0, 1) := by decide +kernel
theorem dX3_apartHung_1 : decode cX3_apartHung 1 = .ok (.getfield 9, 3) := by decide +kernel
theorem dX3_apartHung_4 : decode cX3_apartHung 4 = .ok (.aload_n 0, 1) := by decide +kernel
theorem dX3_apartHung_5 : decode cX3_apartHung 5 = .ok (.getfield 13, 3) := by decide +kernel
theorem dX3_apartHung_8 : decode cX3_apartHung 8 = .ok (.invokestatic 127, 3) := by decide +kernel
theorem dX3_apartHung_11 : decode cX3_apartHung 11 = .ok (.aload_n 0, 1) := by decide +kernel
theorem dX3_apartHung_12 : decode cX3_apartHung 12 = .ok (.getfield 13, 3) := by decide +kernel
theorem dX3_apartHung_15 : decode cX3_apartHung 15 = .ok (.iload_n 1, 1) := by decide +kernel
theorem dX3_apartHung_16 : decode cX3_apartHung 16 = .ok (.iload_n 2, 1) := by decide +kernel
theorem dX3_apartHung_17 : decode cX3_apartHung 17 = .ok (.invokestatic 107, 3) := by decide +kernel
theorem dX3_apartHung_20 : decode cX3_apartHung 20 = .ok (.aload_n 0, 1) := by decide +kernel
theorem dX3_apartHung_21 : decode cX3_apartHung 21 = .ok (.iload_n 3, 1) := by decide +kernel
theorem dX3_apartHung_22 : decode cX3_apartHung 22 = .ok (.invokevirtual 164, 3) := by decide +kernel
theorem dX3_apartHung_25 : decode cX3_apartHung 25 = .ok (.ireturn, 1) := by decide +kernel
set_option maxRecDepth 20000 in
theorem ggX3_take_X3_wrongBy : GoodIn wsX3_take wsX3_wrongBy := goodIn_r _ [6] (by decide +kernel) (by decide +kernel)
set_option maxRecDepth 20000 in
theorem gX3_take_X3_wrongBy : GoodIn wsX3_take (va_wsS RX3 140 yX3_wrongBy wsX3_wrongBy) := goodIn_app (goodIn_of _ (by decide +kernel)) ggX3_take_X3_wrongBy
set_option maxRecDepth 20000 in
theorem ggX3_take_X3_no : GoodIn wsX3_take wsX3_no := goodIn_r _ [10, 11, 64, 65, 66, 67, 68, 69, 70, 71, 72, 73, 74, 75, 76] (by decide +kernel) (by decide +kernel)
set_option maxRecDepth 20000 in
theorem gX3_take_X3_no : GoodIn wsX3_take (wsV RX3 36 RX3 yX3_no wsX3_no) := goodIn_app (goodIn_of _ (by decide +kernel)) ggX3_take_X3_no
set_option maxRecDepth 20000 in
theorem ggX3_take_X3_apartNow : GoodIn wsX3_take wsX3_apartNow := goodIn_r _ [15, 1, 16, 17, 18, 5, 19, 20, 21, 22, 23, 24, 25, 26, 27, 28, 29, 30, 31, 32, 33, 34, 35, 36, 37, 38, 39, 40, 41, 42, 43, 44, 45, 46, 47, 48, 49, 50, 51, 52, 53, 54, 55, 56, 64, 65, 66, 67, 68, 69, 70, 71, 72, 73, 74, 75, 76] (by decide +kernel) (by decide +kernel)
set_option maxRecDepth 20000 in
theorem gX3_take_X3_apartNow : GoodIn wsX3_take (wsV RX3 167 RX3 yX3_apartNow wsX3_apartNow) := goodIn_app (goodIn_of _ (by decide +kernel)) ggX3_take_X3_apartNow
set_option maxRecDepth 20000 in
theorem ggX3_take_X3_of : GoodIn wsX3_take wsX3_of := goodIn_r _ [38] (by decide +kernel) (by decide +kernel)
set_option maxRecDepth 20000 in
theorem gX3_take_X3_of : GoodIn wsX3_take (va_wsS RX3 50 yX3_of wsX3_of) := goodIn_app (goodIn_of _ (by decide +kernel)) ggX3_take_X3_of
set_option maxRecDepth 20000 in
theorem ggX3_take_X3_apartHung : GoodIn wsX3_take wsX3_apartHung := goodIn_r _ [60, 1, 16, 17, 18, 5, 19, 61, 62, 63, 36, 37, 38, 20, 21, 22, 23, 24, 25, 26, 27, 28, 29, 30, 31, 32, 33, 34, 35, 39, 40, 41, 42, 43, 44, 45, 46, 47, 48, 49, 50, 51, 52, 53, 54, 55, 56, 64, 65, 66, 67, 68, 69, 70, 71, 72, 73, 74, 75, 76] (by decide +kernel) (by decide +kernel)
set_option maxRecDepth 20000 in
theorem gX3_take_X3_apartHung : GoodIn wsX3_take (wsV RX3 170 RX3 yX3_apartHung wsX3_apartHung) := goodIn_app (goodIn_of _ (by decide +kernel)) ggX3_take_X3_apartHung
theorem dX3_take_0 : decode cX3_take 0 = .ok (.iload_n 1, 1) := by decide +kernel
theorem dX3_take_1 : decode cX3_take 1 = .ok (.iconst 0, 1) := by decide +kernel
theorem dX3_take_2 : decode cX3_take 2 = .ok (.bipush 30, 2) := by decide +kernel
theorem dX3_take_4 : decode cX3_take 4 = .ok (.invokestatic 140, 3) := by decide +kernel
theorem dX3_take_7 : decode cX3_take 7 = .ok (.istore_n 2, 1) := by decide +kernel
theorem dX3_take_8 : decode cX3_take 8 = .ok (.iload_n 2, 1) := by decide +kernel
theorem dX3_take_9 : decode cX3_take 9 = .ok (.ifCond .eq 9, 3) := by decide +kernel
theorem dX3_take_12 : decode cX3_take 12 = .ok (.aload_n 0, 1) := by decide +kernel
theorem dX3_take_13 : decode cX3_take 13 = .ok (.iload_n 2, 1) := by decide +kernel
theorem dX3_take_14 : decode cX3_take 14 = .ok (.invokevirtual 36, 3) := by decide +kernel
theorem dX3_take_17 : decode cX3_take 17 = .ok (.ireturn, 1) := by decide +kernel
theorem dX3_take_18 : decode cX3_take 18 = .ok (.aload_n 0, 1) := by decide +kernel
theorem dX3_take_19 : decode cX3_take 19 = .ok (.iload_n 1, 1) := by decide +kernel
theorem dX3_take_20 : decode cX3_take 20 = .ok (.invokevirtual 167, 3) := by decide +kernel
theorem dX3_take_23 : decode cX3_take 23 = .ok (.istore_n 3, 1) := by decide +kernel
theorem dX3_take_24 : decode cX3_take 24 = .ok (.bipush (-9), 2) := by decide +kernel
theorem dX3_take_26 : decode cX3_take 26 = .ok (.istore 4, 2) := by decide +kernel
theorem dX3_take_28 : decode cX3_take 28 = .ok (.iconst 0, 1) := by decide +kernel
theorem dX3_take_29 : decode cX3_take 29 = .ok (.istore 5, 2) := by decide +kernel
theorem dX3_take_31 : decode cX3_take 31 = .ok (.iload 5, 2) := by decide +kernel
theorem dX3_take_33 : decode cX3_take 33 = .ok (.aload_n 0, 1) := by decide +kernel
theorem dX3_take_34 : decode cX3_take 34 = .ok (.getfield 9, 3) := by decide +kernel
theorem dX3_take_37 : decode cX3_take 37 = .ok (.iconst 0, 1) := by decide +kernel
theorem dX3_take_38 : decode cX3_take 38 = .ok (.iaload, 1) := by decide +kernel
theorem dX3_take_39 : decode cX3_take 39 = .ok (.if_icmp .ge 55, 3) := by decide +kernel
theorem dX3_take_42 : decode cX3_take 42 = .ok (.aload_n 0, 1) := by decide +kernel
theorem dX3_take_43 : decode cX3_take 43 = .ok (.getfield 9, 3) := by decide +kernel
theorem dX3_take_46 : decode cX3_take 46 = .ok (.iload 5, 2) := by decide +kernel
theorem dX3_take_48 : decode cX3_take 48 = .ok (.iconst 2, 1) := by decide +kernel
theorem dX3_take_49 : decode cX3_take 49 = .ok (.invokestatic 50, 3) := by decide +kernel
theorem dX3_take_52 : decode cX3_take 52 = .ok (.iaload, 1) := by decide +kernel
theorem dX3_take_53 : decode cX3_take 53 = .ok (.iconst 2, 1) := by decide +kernel
theorem dX3_take_54 : decode cX3_take 54 = .ok (.if_icmp .ne 8, 3) := by decide +kernel
theorem dX3_take_57 : decode cX3_take 57 = .ok (.ldc 35, 2) := by decide +kernel
theorem dX3_take_59 : decode cX3_take 59 = .ok (.goto 11, 3) := by decide +kernel
theorem dX3_take_62 : decode cX3_take 62 = .ok (.aload_n 0, 1) := by decide +kernel
theorem dX3_take_63 : decode cX3_take 63 = .ok (.iload 5, 2) := by decide +kernel
theorem dX3_take_65 : decode cX3_take 65 = .ok (.iconst 2, 1) := by decide +kernel
theorem dX3_take_66 : decode cX3_take 66 = .ok (.iload_n 1, 1) := by decide +kernel
theorem dX3_take_67 : decode cX3_take 67 = .ok (.invokevirtual 170, 3) := by decide +kernel
theorem dX3_take_70 : decode cX3_take 70 = .ok (.istore 6, 2) := by decide +kernel
theorem dX3_take_72 : decode cX3_take 72 = .ok (.iload 6, 2) := by decide +kernel
theorem dX3_take_74 : decode cX3_take 74 = .ok (.iload_n 3, 1) := by decide +kernel
theorem dX3_take_75 : decode cX3_take 75 = .ok (.if_icmp .lt 6, 3) := by decide +kernel
theorem dX3_take_78 : decode cX3_take 78 = .ok (.goto 10, 3) := by decide +kernel
theorem dX3_take_81 : decode cX3_take 81 = .ok (.iload 5, 2) := by decide +kernel
theorem dX3_take_83 : decode cX3_take 83 = .ok (.istore 4, 2) := by decide +kernel
theorem dX3_take_85 : decode cX3_take 85 = .ok (.iload 6, 2) := by decide +kernel
theorem dX3_take_87 : decode cX3_take 87 = .ok (.istore_n 3, 1) := by decide +kernel
theorem dX3_take_88 : decode cX3_take 88 = .ok (.iinc 5 1, 3) := by decide +kernel
theorem dX3_take_91 : decode cX3_take 91 = .ok (.goto (-60), 3) := by decide +kernel
theorem dX3_take_94 : decode cX3_take 94 = .ok (.iload 4, 2) := by decide +kernel
theorem dX3_take_96 : decode cX3_take 96 = .ok (.ireturn, 1) := by decide +kernel
set_option maxRecDepth 20000 in
theorem ggX3_hang_X3_wrongBy : GoodIn wsX3_hang wsX3_wrongBy := goodIn_r _ [6] (by decide +kernel) (by decide +kernel)
set_option maxRecDepth 20000 in
theorem gX3_hang_X3_wrongBy : GoodIn wsX3_hang (va_wsS RX3 140 yX3_wrongBy wsX3_wrongBy) := goodIn_app (goodIn_of _ (by decide +kernel)) ggX3_hang_X3_wrongBy
set_option maxRecDepth 20000 in
theorem ggX3_hang_X3_no : GoodIn wsX3_hang wsX3_no := goodIn_r _ [10, 11, 64, 65, 66, 67, 68, 69, 70, 71, 72, 73, 74, 75, 76] (by decide +kernel) (by decide +kernel)
set_option maxRecDepth 20000 in
theorem gX3_hang_X3_no : GoodIn wsX3_hang (wsV RX3 36 RX3 yX3_no wsX3_no) := goodIn_app (goodIn_of _ (by decide +kernel)) ggX3_hang_X3_no
set_option maxRecDepth 20000 in
theorem ggX3_hang_X3_apartNow : GoodIn wsX3_hang wsX3_apartNow := goodIn_r _ [15, 1, 16, 17, 18, 5, 19, 20, 21, 22, 23, 24, 25, 26, 27, 28, 29, 30, 31, 32, 33, 34, 35, 36, 37, 38, 39, 40, 41, 42, 43, 44, 45, 46, 47, 48, 49, 50, 51, 52, 53, 54, 55, 56, 64, 65, 66, 67, 68, 69, 70, 71, 72, 73, 74, 75, 76] (by decide +kernel) (by decide +kernel)
set_option maxRecDepth 20000 in
theorem gX3_hang_X3_apartNow : GoodIn wsX3_hang (wsV RX3 167 RX3 yX3_apartNow wsX3_apartNow) := goodIn_app (goodIn_of _ (by decide +kernel)) ggX3_hang_X3_apartNow
set_option maxRecDepth 20000 in
theorem ggX3_hang_X3_of : GoodIn wsX3_hang wsX3_of := goodIn_r _ [38] (by decide +kernel) (by decide +kernel)
set_option maxRecDepth 20000 in
theorem gX3_hang_X3_of : GoodIn wsX3_hang (va_wsS RX3 50 yX3_of wsX3_of) := goodIn_app (goodIn_of _ (by decide +kernel)) ggX3_hang_X3_of
set_option maxRecDepth 20000 in
theorem ggX3_hang_X3_apartHung : GoodIn wsX3_hang wsX3_apartHung := goodIn_r _ [60, 1, 16, 17, 18, 5, 19, 61, 62, 63, 36, 37, 38, 20, 21, 22, 23, 24, 25, 26, 27, 28, 29, 30, 31, 32, 33, 34, 35, 39, 40, 41, 42, 43, 44, 45, 46, 47, 48, 49, 50, 51, 52, 53, 54, 55, 56, 64, 65, 66, 67, 68, 69, 70, 71, 72, 73, 74, 75, 76] (by decide +kernel) (by decide +kernel)
set_option maxRecDepth 20000 in
theorem gX3_hang_X3_apartHung : GoodIn wsX3_hang (wsV RX3 170 RX3 yX3_apartHung wsX3_apartHung) := goodIn_app (goodIn_of _ (by decide +kernel)) ggX3_hang_X3_apartHung
theorem dX3_hang_0 : decode cX3_hang 0 = .ok (.iload_n 1, 1) := by decide +kernel
theorem dX3_hang_1 : decode cX3_hang 1 = .ok (.iconst 0, 1) := by decide +kernel
theorem dX3_hang_2 : decode cX3_hang 2 = .ok (.bipush 30, 2) := by decide +kernel
theorem dX3_hang_4 : decode cX3_hang 4 = .ok (.invokestatic 140, 3) := by decide +kernel
theorem dX3_hang_7 : decode cX3_hang 7 = .ok (.istore_n 2, 1) := by decide +kernel
theorem dX3_hang_8 : decode cX3_hang 8 = .ok (.iload_n 2, 1) := by decide +kernel
theorem dX3_hang_9 : decode cX3_hang 9 = .ok (.ifCond .eq 9, 3) := by decide +kernel
theorem dX3_hang_12 : decode cX3_hang 12 = .ok (.aload_n 0, 1) := by decide +kernel
theorem dX3_hang_13 : decode cX3_hang 13 = .ok (.iload_n 2, 1) := by decide +kernel
theorem dX3_hang_14 : decode cX3_hang 14 = .ok (.invokevirtual 36, 3) := by decide +kernel
theorem dX3_hang_17 : decode cX3_hang 17 = .ok (.ireturn, 1) := by decide +kernel
theorem dX3_hang_18 : decode cX3_hang 18 = .ok (.aload_n 0, 1) := by decide +kernel
theorem dX3_hang_19 : decode cX3_hang 19 = .ok (.iload_n 1, 1) := by decide +kernel
theorem dX3_hang_20 : decode cX3_hang 20 = .ok (.invokevirtual 167, 3) := by decide +kernel
theorem dX3_hang_23 : decode cX3_hang 23 = .ok (.istore_n 3, 1) := by decide +kernel
theorem dX3_hang_24 : decode cX3_hang 24 = .ok (.bipush (-9), 2) := by decide +kernel
theorem dX3_hang_26 : decode cX3_hang 26 = .ok (.istore 4, 2) := by decide +kernel
theorem dX3_hang_28 : decode cX3_hang 28 = .ok (.iconst 0, 1) := by decide +kernel
theorem dX3_hang_29 : decode cX3_hang 29 = .ok (.istore 5, 2) := by decide +kernel
theorem dX3_hang_31 : decode cX3_hang 31 = .ok (.iload 5, 2) := by decide +kernel
theorem dX3_hang_33 : decode cX3_hang 33 = .ok (.aload_n 0, 1) := by decide +kernel
theorem dX3_hang_34 : decode cX3_hang 34 = .ok (.getfield 9, 3) := by decide +kernel
theorem dX3_hang_37 : decode cX3_hang 37 = .ok (.iconst 0, 1) := by decide +kernel
theorem dX3_hang_38 : decode cX3_hang 38 = .ok (.iaload, 1) := by decide +kernel
theorem dX3_hang_39 : decode cX3_hang 39 = .ok (.if_icmp .ge 77, 3) := by decide +kernel
theorem dX3_hang_42 : decode cX3_hang 42 = .ok (.iconst 0, 1) := by decide +kernel
theorem dX3_hang_43 : decode cX3_hang 43 = .ok (.istore 6, 2) := by decide +kernel
theorem dX3_hang_45 : decode cX3_hang 45 = .ok (.iload 6, 2) := by decide +kernel
theorem dX3_hang_47 : decode cX3_hang 47 = .ok (.iconst 2, 1) := by decide +kernel
theorem dX3_hang_48 : decode cX3_hang 48 = .ok (.if_icmp .ge 62, 3) := by decide +kernel
theorem dX3_hang_51 : decode cX3_hang 51 = .ok (.aload_n 0, 1) := by decide +kernel
theorem dX3_hang_52 : decode cX3_hang 52 = .ok (.getfield 9, 3) := by decide +kernel
theorem dX3_hang_55 : decode cX3_hang 55 = .ok (.iload 5, 2) := by decide +kernel
theorem dX3_hang_57 : decode cX3_hang 57 = .ok (.iconst 2, 1) := by decide +kernel
theorem dX3_hang_58 : decode cX3_hang 58 = .ok (.invokestatic 50, 3) := by decide +kernel
theorem dX3_hang_61 : decode cX3_hang 61 = .ok (.iaload, 1) := by decide +kernel
theorem dX3_hang_62 : decode cX3_hang 62 = .ok (.iconst 2, 1) := by decide +kernel
theorem dX3_hang_63 : decode cX3_hang 63 = .ok (.if_icmp .ne 15, 3) := by decide +kernel
theorem dX3_hang_66 : decode cX3_hang 66 = .ok (.aload_n 0, 1) := by decide +kernel
theorem dX3_hang_67 : decode cX3_hang 67 = .ok (.iload 5, 2) := by decide +kernel
theorem dX3_hang_69 : decode cX3_hang 69 = .ok (.iload 6, 2) := by decide +kernel
theorem dX3_hang_71 : decode cX3_hang 71 = .ok (.iload_n 1, 1) := by decide +kernel
theorem dX3_hang_72 : decode cX3_hang 72 = .ok (.invokevirtual 170, 3) := by decide +kernel
theorem dX3_hang_75 : decode cX3_hang 75 = .ok (.goto 5, 3) := by decide +kernel
theorem dX3_hang_78 : decode cX3_hang 78 = .ok (.ldc 35, 2) := by decide +kernel
theorem dX3_hang_80 : decode cX3_hang 80 = .ok (.istore 7, 2) := by decide +kernel
theorem dX3_hang_82 : decode cX3_hang 82 = .ok (.iload 7, 2) := by decide +kernel
theorem dX3_hang_84 : decode cX3_hang 84 = .ok (.iload_n 3, 1) := by decide +kernel
theorem dX3_hang_85 : decode cX3_hang 85 = .ok (.if_icmp .lt 6, 3) := by decide +kernel
theorem dX3_hang_88 : decode cX3_hang 88 = .ok (.goto 16, 3) := by decide +kernel
theorem dX3_hang_91 : decode cX3_hang 91 = .ok (.bipush 10, 2) := by decide +kernel
theorem dX3_hang_93 : decode cX3_hang 93 = .ok (.iload 5, 2) := by decide +kernel
theorem dX3_hang_95 : decode cX3_hang 95 = .ok (.imul, 1) := by decide +kernel
theorem dX3_hang_96 : decode cX3_hang 96 = .ok (.iload 6, 2) := by decide +kernel
theorem dX3_hang_98 : decode cX3_hang 98 = .ok (.iadd, 1) := by decide +kernel
theorem dX3_hang_99 : decode cX3_hang 99 = .ok (.istore 4, 2) := by decide +kernel
theorem dX3_hang_101 : decode cX3_hang 101 = .ok (.iload 7, 2) := by decide +kernel
theorem dX3_hang_103 : decode cX3_hang 103 = .ok (.istore_n 3, 1) := by decide +kernel
theorem dX3_hang_104 : decode cX3_hang 104 = .ok (.iinc 6 1, 3) := by decide +kernel
theorem dX3_hang_107 : decode cX3_hang 107 = .ok (.goto (-62), 3) := by decide +kernel
theorem dX3_hang_110 : decode cX3_hang 110 = .ok (.iinc 5 1, 3) := by decide +kernel
theorem dX3_hang_113 : decode cX3_hang 113 = .ok (.goto (-82), 3) := by decide +kernel
theorem dX3_hang_116 : decode cX3_hang 116 = .ok (.iload 4, 2) := by decide +kernel
theorem dX3_hang_118 : decode cX3_hang 118 = .ok (.ireturn, 1) := by decide +kernel
set_option maxRecDepth 20000 in
theorem ggX3_change_X3_onSide : GoodIn wsX3_change wsX3_onSide := goodIn_r _ [7, 1, 8, 9, 6, 10, 41, 42, 43, 44, 45, 46, 47, 48, 49, 50, 51, 52, 53] (by decide +kernel) (by decide +kernel)
set_option maxRecDepth 20000 in
theorem gX3_change_X3_onSide : GoodIn wsX3_change (wsV RX3 137 RX3 yX3_onSide wsX3_onSide) := goodIn_app (goodIn_of _ (by decide +kernel)) ggX3_change_X3_onSide
set_option maxRecDepth 20000 in
theorem ggX3_change_X3_bits : GoodIn wsX3_change wsX3_bits := goodIn_r _ [13] (by decide +kernel) (by decide +kernel)
set_option maxRecDepth 20000 in
theorem gX3_change_X3_bits : GoodIn wsX3_change (va_wsS RX3 173 yX3_bits wsX3_bits) := goodIn_app (goodIn_of _ (by decide +kernel)) ggX3_change_X3_bits
set_option maxRecDepth 20000 in
theorem ggX3_change_X3_copies : GoodIn wsX3_change wsX3_copies := goodIn_r _ [16] (by decide +kernel) (by decide +kernel)
set_option maxRecDepth 20000 in
theorem gX3_change_X3_copies : GoodIn wsX3_change (va_wsS RX3 127 yX3_copies wsX3_copies) := goodIn_app (goodIn_of _ (by decide +kernel)) ggX3_change_X3_copies
set_option maxRecDepth 20000 in
theorem ggX3_change_X3_has : GoodIn wsX3_change wsX3_has := goodIn_r _ [19] (by decide +kernel) (by decide +kernel)
set_option maxRecDepth 20000 in
theorem gX3_change_X3_has : GoodIn wsX3_change (va_wsS RX3 71 yX3_has wsX3_has) := goodIn_app (goodIn_of _ (by decide +kernel)) ggX3_change_X3_has
set_option maxRecDepth 20000 in
theorem ggX3_change_X3_of : GoodIn wsX3_change wsX3_of := goodIn_r _ [10] (by decide +kernel) (by decide +kernel)
set_option maxRecDepth 20000 in
theorem gX3_change_X3_of : GoodIn wsX3_change (va_wsS RX3 50 yX3_of wsX3_of) := goodIn_app (goodIn_of _ (by decide +kernel)) ggX3_change_X3_of
set_option maxRecDepth 20000 in
theorem ggX3_change_X3_hangsIn : GoodIn wsX3_change wsX3_hangsIn := goodIn_r _ [22, 8, 9, 6, 10] (by decide +kernel) (by decide +kernel)
set_option maxRecDepth 20000 in
theorem gX3_change_X3_hangsIn : GoodIn wsX3_change (va_wsS RX3 107 yX3_hangsIn wsX3_hangsIn) := goodIn_app (goodIn_of _ (by decide +kernel)) ggX3_change_X3_hangsIn
set_option maxRecDepth 20000 in
theorem ggX3_change_X3_pullIn : GoodIn wsX3_change wsX3_pullIn := goodIn_r _ [25, 26, 27, 6, 28, 8, 9, 10, 29, 30, 31, 32, 33, 34, 35, 36, 37, 38, 39, 40] (by decide +kernel) (by decide +kernel)
set_option maxRecDepth 20000 in
theorem gX3_change_X3_pullIn : GoodIn wsX3_change (va_wsS RX3 78 yX3_pullIn wsX3_pullIn) := goodIn_app (goodIn_of _ (by decide +kernel)) ggX3_change_X3_pullIn
theorem dX3_change_0 : decode cX3_change 0 = .ok (.aload_n 0, 1) := by decide +kernel
theorem dX3_change_1 : decode cX3_change 1 = .ok (.iconst 2, 1) := by decide +kernel
theorem dX3_change_2 : decode cX3_change 2 = .ok (.invokevirtual 137, 3) := by decide +kernel
theorem dX3_change_5 : decode cX3_change 5 = .ok (.istore_n 1, 1) := by decide +kernel
theorem dX3_change_6 : decode cX3_change 6 = .ok (.bipush (-9), 2) := by decide +kernel
theorem dX3_change_8 : decode cX3_change 8 = .ok (.istore_n 2, 1) := by decide +kernel
theorem dX3_change_9 : decode cX3_change 9 = .ok (.iconst 0, 1) := by decide +kernel
theorem dX3_change_10 : decode cX3_change 10 = .ok (.istore_n 3, 1) := by decide +kernel
theorem dX3_change_11 : decode cX3_change 11 = .ok (.iload_n 3, 1) := by decide +kernel
theorem dX3_change_12 : decode cX3_change 12 = .ok (.iconst 1, 1) := by decide +kernel
theorem dX3_change_13 : decode cX3_change 13 = .ok (.aload_n 0, 1) := by decide +kernel
theorem dX3_change_14 : decode cX3_change 14 = .ok (.getfield 9, 3) := by decide +kernel
theorem dX3_change_17 : decode cX3_change 17 = .ok (.iconst 0, 1) := by decide +kernel
theorem dX3_change_18 : decode cX3_change 18 = .ok (.iaload, 1) := by decide +kernel
theorem dX3_change_19 : decode cX3_change 19 = .ok (.ishl, 1) := by decide +kernel
theorem dX3_change_20 : decode cX3_change 20 = .ok (.if_icmp .ge 109, 3) := by decide +kernel
theorem dX3_change_23 : decode cX3_change 23 = .ok (.iload_n 3, 1) := by decide +kernel
theorem dX3_change_24 : decode cX3_change 24 = .ok (.iload_n 1, 1) := by decide +kernel
theorem dX3_change_25 : decode cX3_change 25 = .ok (.iand, 1) := by decide +kernel
theorem dX3_change_26 : decode cX3_change 26 = .ok (.ifCond .ne 97, 3) := by decide +kernel
theorem dX3_change_29 : decode cX3_change 29 = .ok (.iload_n 2, 1) := by decide +kernel
theorem dX3_change_30 : decode cX3_change 30 = .ok (.ifCond .lt 17, 3) := by decide +kernel
theorem dX3_change_33 : decode cX3_change 33 = .ok (.iload_n 3, 1) := by decide +kernel
theorem dX3_change_34 : decode cX3_change 34 = .ok (.invokestatic 173, 3) := by decide +kernel
theorem dX3_change_37 : decode cX3_change 37 = .ok (.iload_n 2, 1) := by decide +kernel
theorem dX3_change_38 : decode cX3_change 38 = .ok (.invokestatic 173, 3) := by decide +kernel
theorem dX3_change_41 : decode cX3_change 41 = .ok (.if_icmp .lt 6, 3) := by decide +kernel
theorem dX3_change_44 : decode cX3_change 44 = .ok (.goto 79, 3) := by decide +kernel
theorem dX3_change_47 : decode cX3_change 47 = .ok (.aload_n 0, 1) := by decide +kernel
theorem dX3_change_48 : decode cX3_change 48 = .ok (.getfield 9, 3) := by decide +kernel
theorem dX3_change_51 : decode cX3_change 51 = .ok (.aload_n 0, 1) := by decide +kernel
theorem dX3_change_52 : decode cX3_change 52 = .ok (.getfield 13, 3) := by decide +kernel
theorem dX3_change_55 : decode cX3_change 55 = .ok (.invokestatic 127, 3) := by decide +kernel
theorem dX3_change_58 : decode cX3_change 58 = .ok (.iconst 0, 1) := by decide +kernel
theorem dX3_change_59 : decode cX3_change 59 = .ok (.istore 4, 2) := by decide +kernel
theorem dX3_change_61 : decode cX3_change 61 = .ok (.iload 4, 2) := by decide +kernel
theorem dX3_change_63 : decode cX3_change 63 = .ok (.aload_n 0, 1) := by decide +kernel
theorem dX3_change_64 : decode cX3_change 64 = .ok (.getfield 9, 3) := by decide +kernel
theorem dX3_change_67 : decode cX3_change 67 = .ok (.iconst 0, 1) := by decide +kernel
theorem dX3_change_68 : decode cX3_change 68 = .ok (.iaload, 1) := by decide +kernel
theorem dX3_change_69 : decode cX3_change 69 = .ok (.if_icmp .ge 40, 3) := by decide +kernel
theorem dX3_change_72 : decode cX3_change 72 = .ok (.iload_n 3, 1) := by decide +kernel
theorem dX3_change_73 : decode cX3_change 73 = .ok (.iload 4, 2) := by decide +kernel
theorem dX3_change_75 : decode cX3_change 75 = .ok (.invokestatic 71, 3) := by decide +kernel
theorem dX3_change_78 : decode cX3_change 78 = .ok (.ifCond .eq 25, 3) := by decide +kernel
theorem dX3_change_81 : decode cX3_change 81 = .ok (.aload_n 0, 1) := by decide +kernel
theorem dX3_change_82 : decode cX3_change 82 = .ok (.getfield 13, 3) := by decide +kernel
theorem dX3_change_85 : decode cX3_change 85 = .ok (.iload 4, 2) := by decide +kernel
theorem dX3_change_87 : decode cX3_change 87 = .ok (.iconst 1, 1) := by decide +kernel
theorem dX3_change_88 : decode cX3_change 88 = .ok (.aload_n 0, 1) := by decide +kernel
theorem dX3_change_89 : decode cX3_change 89 = .ok (.getfield 13, 3) := by decide +kernel
theorem dX3_change_92 : decode cX3_change 92 = .ok (.iload 4, 2) := by decide +kernel
theorem dX3_change_94 : decode cX3_change 94 = .ok (.iconst 2, 1) := by decide +kernel
theorem dX3_change_95 : decode cX3_change 95 = .ok (.invokestatic 50, 3) := by decide +kernel
theorem dX3_change_98 : decode cX3_change 98 = .ok (.iaload, 1) := by decide +kernel
theorem dX3_change_99 : decode cX3_change 99 = .ok (.isub, 1) := by decide +kernel
theorem dX3_change_100 : decode cX3_change 100 = .ok (.invokestatic 107, 3) := by decide +kernel
theorem dX3_change_103 : decode cX3_change 103 = .ok (.iinc 4 1, 3) := by decide +kernel
theorem dX3_change_106 : decode cX3_change 106 = .ok (.goto (-45), 3) := by decide +kernel
theorem dX3_change_109 : decode cX3_change 109 = .ok (.aload_n 0, 1) := by decide +kernel
theorem dX3_change_110 : decode cX3_change 110 = .ok (.getfield 13, 3) := by decide +kernel
theorem dX3_change_113 : decode cX3_change 113 = .ok (.invokestatic 78, 3) := by decide +kernel
theorem dX3_change_116 : decode cX3_change 116 = .ok (.iconst 4, 1) := by decide +kernel
theorem dX3_change_117 : decode cX3_change 117 = .ok (.idiv, 1) := by decide +kernel
theorem dX3_change_118 : decode cX3_change 118 = .ok (.ifCond .ne 5, 3) := by decide +kernel
theorem dX3_change_121 : decode cX3_change 121 = .ok (.iload_n 3, 1) := by decide +kernel
theorem dX3_change_122 : decode cX3_change 122 = .ok (.istore_n 2, 1) := by decide +kernel
theorem dX3_change_123 : decode cX3_change 123 = .ok (.iinc 3 1, 3) := by decide +kernel
theorem dX3_change_126 : decode cX3_change 126 = .ok (.goto (-115), 3) := by decide +kernel
theorem dX3_change_129 : decode cX3_change 129 = .ok (.iload_n 2, 1) := by decide +kernel
theorem dX3_change_130 : decode cX3_change 130 = .ok (.ireturn, 1) := by decide +kernel
set_option maxRecDepth 20000 in
theorem ggX3_ballast_X3_isSide : GoodIn wsX3_ballast wsX3_isSide := goodIn_r _ [7, 8, 9, 6, 10] (by decide +kernel) (by decide +kernel)
set_option maxRecDepth 20000 in
theorem gX3_ballast_X3_isSide : GoodIn wsX3_ballast (va_wsS RX3 115 yX3_isSide wsX3_isSide) := goodIn_app (goodIn_of _ (by decide +kernel)) ggX3_ballast_X3_isSide
set_option maxRecDepth 20000 in
theorem ggX3_ballast_X3_wrongBy : GoodIn wsX3_ballast wsX3_wrongBy := goodIn_r _ [13] (by decide +kernel) (by decide +kernel)
set_option maxRecDepth 20000 in
theorem gX3_ballast_X3_wrongBy : GoodIn wsX3_ballast (va_wsS RX3 140 yX3_wrongBy wsX3_wrongBy) := goodIn_app (goodIn_of _ (by decide +kernel)) ggX3_ballast_X3_wrongBy
set_option maxRecDepth 20000 in
theorem ggX3_ballast_X3_isIn : GoodIn wsX3_ballast wsX3_isIn := goodIn_r _ [10] (by decide +kernel) (by decide +kernel)
set_option maxRecDepth 20000 in
theorem gX3_ballast_X3_isIn : GoodIn wsX3_ballast (va_wsS RX3 42 yX3_isIn wsX3_isIn) := goodIn_app (goodIn_of _ (by decide +kernel)) ggX3_ballast_X3_isIn
set_option maxRecDepth 20000 in
theorem ggX3_ballast_X3_no : GoodIn wsX3_ballast wsX3_no := goodIn_r _ [17, 18, 59, 60, 61, 62, 63, 64, 65, 66, 67, 68, 69, 70, 71] (by decide +kernel) (by decide +kernel)
set_option maxRecDepth 20000 in
theorem gX3_ballast_X3_no : GoodIn wsX3_ballast (wsV RX3 36 RX3 yX3_no wsX3_no) := goodIn_app (goodIn_of _ (by decide +kernel)) ggX3_ballast_X3_no
set_option maxRecDepth 20000 in
theorem ggX3_ballast_X3_copies : GoodIn wsX3_ballast wsX3_copies := goodIn_r _ [21] (by decide +kernel) (by decide +kernel)
set_option maxRecDepth 20000 in
theorem gX3_ballast_X3_copies : GoodIn wsX3_ballast (va_wsS RX3 127 yX3_copies wsX3_copies) := goodIn_app (goodIn_of _ (by decide +kernel)) ggX3_ballast_X3_copies
set_option maxRecDepth 20000 in
theorem ggX3_ballast_X3_apartThen : GoodIn wsX3_ballast wsX3_apartThen := goodIn_r _ [25, 3, 26, 27, 6, 28, 29, 30, 31, 32, 33, 34, 35, 36, 37, 38, 39, 40, 41, 42, 43, 44, 45, 46, 47, 48, 49, 50, 51, 52, 53, 54, 55, 56, 57, 58, 59, 60, 61, 62, 63, 64, 65, 66, 67, 68, 69, 70, 71] (by decide +kernel) (by decide +kernel)
set_option maxRecDepth 20000 in
theorem gX3_ballast_X3_apartThen : GoodIn wsX3_ballast (wsV RX3 164 RX3 yX3_apartThen wsX3_apartThen) := goodIn_app (goodIn_of _ (by decide +kernel)) ggX3_ballast_X3_apartThen
theorem dX3_ballast_0 : decode cX3_ballast 0 = .ok (.iload_n 1, 1) := by decide +kernel
theorem dX3_ballast_1 : decode cX3_ballast 1 = .ok (.invokestatic 115, 3) := by decide +kernel
theorem dX3_ballast_4 : decode cX3_ballast 4 = .ok (.ifCond .eq 13, 3) := by decide +kernel
theorem dX3_ballast_7 : decode cX3_ballast 7 = .ok (.iload_n 2, 1) := by decide +kernel
theorem dX3_ballast_8 : decode cX3_ballast 8 = .ok (.iconst 0, 1) := by decide +kernel
theorem dX3_ballast_9 : decode cX3_ballast 9 = .ok (.bipush 30, 2) := by decide +kernel
theorem dX3_ballast_11 : decode cX3_ballast 11 = .ok (.invokestatic 140, 3) := by decide +kernel
theorem dX3_ballast_14 : decode cX3_ballast 14 = .ok (.goto 4, 3) := by decide +kernel
theorem dX3_ballast_17 : decode cX3_ballast 17 = .ok (.iconst (-1), 1) := by decide +kernel
theorem dX3_ballast_18 : decode cX3_ballast 18 = .ok (.istore 4, 2) := by decide +kernel
theorem dX3_ballast_20 : decode cX3_ballast 20 = .ok (.iload 4, 2) := by decide +kernel
theorem dX3_ballast_22 : decode cX3_ballast 22 = .ok (.ifCond .ne 16, 3) := by decide +kernel
theorem dX3_ballast_25 : decode cX3_ballast 25 = .ok (.iload_n 3, 1) := by decide +kernel
theorem dX3_ballast_26 : decode cX3_ballast 26 = .ok (.iconst 0, 1) := by decide +kernel
theorem dX3_ballast_27 : decode cX3_ballast 27 = .ok (.iconst 1, 1) := by decide +kernel
theorem dX3_ballast_28 : decode cX3_ballast 28 = .ok (.invokestatic 42, 3) := by decide +kernel
theorem dX3_ballast_31 : decode cX3_ballast 31 = .ok (.ifCond .ne 7, 3) := by decide +kernel
theorem dX3_ballast_34 : decode cX3_ballast 34 = .ok (.bipush (-2), 2) := by decide +kernel
theorem dX3_ballast_36 : decode cX3_ballast 36 = .ok (.istore 4, 2) := by decide +kernel
theorem dX3_ballast_38 : decode cX3_ballast 38 = .ok (.iload 4, 2) := by decide +kernel
theorem dX3_ballast_40 : decode cX3_ballast 40 = .ok (.ifCond .eq 10, 3) := by decide +kernel
theorem dX3_ballast_43 : decode cX3_ballast 43 = .ok (.aload_n 0, 1) := by decide +kernel
theorem dX3_ballast_44 : decode cX3_ballast 44 = .ok (.iload 4, 2) := by decide +kernel
theorem dX3_ballast_46 : decode cX3_ballast 46 = .ok (.invokevirtual 36, 3) := by decide +kernel
theorem dX3_ballast_49 : decode cX3_ballast 49 = .ok (.ireturn, 1) := by decide +kernel
theorem dX3_ballast_50 : decode cX3_ballast 50 = .ok (.iconst 0, 1) := by decide +kernel
theorem dX3_ballast_51 : decode cX3_ballast 51 = .ok (.istore 5, 2) := by decide +kernel
theorem dX3_ballast_53 : decode cX3_ballast 53 = .ok (.ldc 35, 2) := by decide +kernel
theorem dX3_ballast_55 : decode cX3_ballast 55 = .ok (.istore 6, 2) := by decide +kernel
theorem dX3_ballast_57 : decode cX3_ballast 57 = .ok (.iconst 0, 1) := by decide +kernel
theorem dX3_ballast_58 : decode cX3_ballast 58 = .ok (.istore 7, 2) := by decide +kernel
theorem dX3_ballast_60 : decode cX3_ballast 60 = .ok (.iload 7, 2) := by decide +kernel
theorem dX3_ballast_62 : decode cX3_ballast 62 = .ok (.bipush 50, 2) := by decide +kernel
theorem dX3_ballast_64 : decode cX3_ballast 64 = .ok (.if_icmp .gt 55, 3) := by decide +kernel
theorem dX3_ballast_67 : decode cX3_ballast 67 = .ok (.aload_n 0, 1) := by decide +kernel
theorem dX3_ballast_68 : decode cX3_ballast 68 = .ok (.getfield 9, 3) := by decide +kernel
theorem dX3_ballast_71 : decode cX3_ballast 71 = .ok (.aload_n 0, 1) := by decide +kernel
theorem dX3_ballast_72 : decode cX3_ballast 72 = .ok (.getfield 13, 3) := by decide +kernel
theorem dX3_ballast_75 : decode cX3_ballast 75 = .ok (.invokestatic 127, 3) := by decide +kernel
theorem dX3_ballast_78 : decode cX3_ballast 78 = .ok (.aload_n 0, 1) := by decide +kernel
theorem dX3_ballast_79 : decode cX3_ballast 79 = .ok (.getfield 13, 3) := by decide +kernel
theorem dX3_ballast_82 : decode cX3_ballast 82 = .ok (.iconst 4, 1) := by decide +kernel
theorem dX3_ballast_83 : decode cX3_ballast 83 = .ok (.iload_n 1, 1) := by decide +kernel
theorem dX3_ballast_84 : decode cX3_ballast 84 = .ok (.iadd, 1) := by decide +kernel
theorem dX3_ballast_85 : decode cX3_ballast 85 = .ok (.iload 7, 2) := by decide +kernel
theorem dX3_ballast_87 : decode cX3_ballast 87 = .ok (.iastore, 1) := by decide +kernel
theorem dX3_ballast_88 : decode cX3_ballast 88 = .ok (.aload_n 0, 1) := by decide +kernel
theorem dX3_ballast_89 : decode cX3_ballast 89 = .ok (.iload_n 2, 1) := by decide +kernel
theorem dX3_ballast_90 : decode cX3_ballast 90 = .ok (.invokevirtual 164, 3) := by decide +kernel
theorem dX3_ballast_93 : decode cX3_ballast 93 = .ok (.istore 8, 2) := by decide +kernel
theorem dX3_ballast_95 : decode cX3_ballast 95 = .ok (.iload 8, 2) := by decide +kernel
theorem dX3_ballast_97 : decode cX3_ballast 97 = .ok (.iload 6, 2) := by decide +kernel
theorem dX3_ballast_99 : decode cX3_ballast 99 = .ok (.if_icmp .lt 6, 3) := by decide +kernel
theorem dX3_ballast_102 : decode cX3_ballast 102 = .ok (.goto 11, 3) := by decide +kernel
theorem dX3_ballast_105 : decode cX3_ballast 105 = .ok (.iload 7, 2) := by decide +kernel
theorem dX3_ballast_107 : decode cX3_ballast 107 = .ok (.istore 5, 2) := by decide +kernel
theorem dX3_ballast_109 : decode cX3_ballast 109 = .ok (.iload 8, 2) := by decide +kernel
theorem dX3_ballast_111 : decode cX3_ballast 111 = .ok (.istore 6, 2) := by decide +kernel
theorem dX3_ballast_113 : decode cX3_ballast 113 = .ok (.iinc 7 1, 3) := by decide +kernel
theorem dX3_ballast_116 : decode cX3_ballast 116 = .ok (.goto (-56), 3) := by decide +kernel
theorem dX3_ballast_119 : decode cX3_ballast 119 = .ok (.iload_n 3, 1) := by decide +kernel
theorem dX3_ballast_120 : decode cX3_ballast 120 = .ok (.ifCond .ne 8, 3) := by decide +kernel
theorem dX3_ballast_123 : decode cX3_ballast 123 = .ok (.iload 5, 2) := by decide +kernel
theorem dX3_ballast_125 : decode cX3_ballast 125 = .ok (.goto 5, 3) := by decide +kernel
theorem dX3_ballast_128 : decode cX3_ballast 128 = .ok (.iload 6, 2) := by decide +kernel
theorem dX3_ballast_130 : decode cX3_ballast 130 = .ok (.ireturn, 1) := by decide +kernel
set_option maxRecDepth 20000 in
theorem ggX3_mustWeigh_X3_isThing : GoodIn wsX3_mustWeigh wsX3_isThing := goodIn_r _ [7, 1, 8, 9, 6, 10, 64, 65, 66, 67, 68, 69, 70, 71, 72, 73, 74, 75, 76] (by decide +kernel) (by decide +kernel)
set_option maxRecDepth 20000 in
theorem gX3_mustWeigh_X3_isThing : GoodIn wsX3_mustWeigh (wsV RX3 111 RX3 yX3_isThing wsX3_isThing) := goodIn_app (goodIn_of _ (by decide +kernel)) ggX3_mustWeigh_X3_isThing
set_option maxRecDepth 20000 in
theorem ggX3_mustWeigh_X3_isSide : GoodIn wsX3_mustWeigh wsX3_isSide := goodIn_r _ [13, 8, 9, 6, 10] (by decide +kernel) (by decide +kernel)
set_option maxRecDepth 20000 in
theorem gX3_mustWeigh_X3_isSide : GoodIn wsX3_mustWeigh (va_wsS RX3 115 yX3_isSide wsX3_isSide) := goodIn_app (goodIn_of _ (by decide +kernel)) ggX3_mustWeigh_X3_isSide
set_option maxRecDepth 20000 in
theorem ggX3_mustWeigh_X3_wrongBy : GoodIn wsX3_mustWeigh wsX3_wrongBy := goodIn_r _ [16] (by decide +kernel) (by decide +kernel)
set_option maxRecDepth 20000 in
theorem gX3_mustWeigh_X3_wrongBy : GoodIn wsX3_mustWeigh (va_wsS RX3 140 yX3_wrongBy wsX3_wrongBy) := goodIn_app (goodIn_of _ (by decide +kernel)) ggX3_mustWeigh_X3_wrongBy
set_option maxRecDepth 20000 in
theorem ggX3_mustWeigh_X3_no : GoodIn wsX3_mustWeigh wsX3_no := goodIn_r _ [20, 21, 64, 65, 66, 67, 68, 69, 70, 71, 72, 73, 74, 75, 76] (by decide +kernel) (by decide +kernel)
set_option maxRecDepth 20000 in
theorem gX3_mustWeigh_X3_no : GoodIn wsX3_mustWeigh (wsV RX3 36 RX3 yX3_no wsX3_no) := goodIn_app (goodIn_of _ (by decide +kernel)) ggX3_mustWeigh_X3_no
set_option maxRecDepth 20000 in
theorem ggX3_mustWeigh_X3_copies : GoodIn wsX3_mustWeigh wsX3_copies := goodIn_r _ [24] (by decide +kernel) (by decide +kernel)
set_option maxRecDepth 20000 in
theorem gX3_mustWeigh_X3_copies : GoodIn wsX3_mustWeigh (va_wsS RX3 127 yX3_copies wsX3_copies) := goodIn_app (goodIn_of _ (by decide +kernel)) ggX3_mustWeigh_X3_copies
set_option maxRecDepth 20000 in
theorem ggX3_mustWeigh_X3_of : GoodIn wsX3_mustWeigh wsX3_of := goodIn_r _ [27] (by decide +kernel) (by decide +kernel)
set_option maxRecDepth 20000 in
theorem gX3_mustWeigh_X3_of : GoodIn wsX3_mustWeigh (va_wsS RX3 50 yX3_of wsX3_of) := goodIn_app (goodIn_of _ (by decide +kernel)) ggX3_mustWeigh_X3_of
set_option maxRecDepth 20000 in
theorem ggX3_mustWeigh_X3_daysOn : GoodIn wsX3_mustWeigh wsX3_daysOn := goodIn_r _ [30, 31, 32, 6, 33, 34, 35, 36, 37, 38, 39, 25, 26, 27, 40, 41, 42, 43, 44, 45, 46, 47, 48, 49, 50, 51, 52, 53, 54] (by decide +kernel) (by decide +kernel)
set_option maxRecDepth 20000 in
theorem gX3_mustWeigh_X3_daysOn : GoodIn wsX3_mustWeigh (va_wsS RX3 121 yX3_daysOn wsX3_daysOn) := goodIn_app (goodIn_of _ (by decide +kernel)) ggX3_mustWeigh_X3_daysOn
set_option maxRecDepth 20000 in
theorem ggX3_mustWeigh_X3_isAtDoor : GoodIn wsX3_mustWeigh wsX3_isAtDoor := goodIn_r _ [57, 58, 59, 6, 60, 61, 62, 63] (by decide +kernel) (by decide +kernel)
set_option maxRecDepth 20000 in
theorem gX3_mustWeigh_X3_isAtDoor : GoodIn wsX3_mustWeigh (va_wsS RX3 176 yX3_isAtDoor wsX3_isAtDoor) := goodIn_app (goodIn_of _ (by decide +kernel)) ggX3_mustWeigh_X3_isAtDoor
theorem dX3_mustWeigh_0 : decode cX3_mustWeigh 0 = .ok (.aload_n 0, 1) := by decide +kernel
theorem dX3_mustWeigh_1 : decode cX3_mustWeigh 1 = .ok (.iload_n 1, 1) := by decide +kernel
theorem dX3_mustWeigh_2 : decode cX3_mustWeigh 2 = .ok (.invokevirtual 111, 3) := by decide +kernel
theorem dX3_mustWeigh_5 : decode cX3_mustWeigh 5 = .ok (.ifCond .eq 20, 3) := by decide +kernel
theorem dX3_mustWeigh_8 : decode cX3_mustWeigh 8 = .ok (.iload_n 2, 1) := by decide +kernel
theorem dX3_mustWeigh_9 : decode cX3_mustWeigh 9 = .ok (.invokestatic 115, 3) := by decide +kernel
theorem dX3_mustWeigh_12 : decode cX3_mustWeigh 12 = .ok (.ifCond .eq 13, 3) := by decide +kernel
theorem dX3_mustWeigh_15 : decode cX3_mustWeigh 15 = .ok (.iload_n 3, 1) := by decide +kernel
theorem dX3_mustWeigh_16 : decode cX3_mustWeigh 16 = .ok (.iconst 0, 1) := by decide +kernel
theorem dX3_mustWeigh_17 : decode cX3_mustWeigh 17 = .ok (.bipush 30, 2) := by decide +kernel
theorem dX3_mustWeigh_19 : decode cX3_mustWeigh 19 = .ok (.invokestatic 140, 3) := by decide +kernel
theorem dX3_mustWeigh_22 : decode cX3_mustWeigh 22 = .ok (.goto 4, 3) := by decide +kernel
theorem dX3_mustWeigh_25 : decode cX3_mustWeigh 25 = .ok (.iconst (-1), 1) := by decide +kernel
theorem dX3_mustWeigh_26 : decode cX3_mustWeigh 26 = .ok (.istore 4, 2) := by decide +kernel
theorem dX3_mustWeigh_28 : decode cX3_mustWeigh 28 = .ok (.iload 4, 2) := by decide +kernel
theorem dX3_mustWeigh_30 : decode cX3_mustWeigh 30 = .ok (.ifCond .eq 10, 3) := by decide +kernel
theorem dX3_mustWeigh_33 : decode cX3_mustWeigh 33 = .ok (.aload_n 0, 1) := by decide +kernel
theorem dX3_mustWeigh_34 : decode cX3_mustWeigh 34 = .ok (.iload 4, 2) := by decide +kernel
theorem dX3_mustWeigh_36 : decode cX3_mustWeigh 36 = .ok (.invokevirtual 36, 3) := by decide +kernel
theorem dX3_mustWeigh_39 : decode cX3_mustWeigh 39 = .ok (.ireturn, 1) := by decide +kernel
theorem dX3_mustWeigh_40 : decode cX3_mustWeigh 40 = .ok (.iconst 0, 1) := by decide +kernel
theorem dX3_mustWeigh_41 : decode cX3_mustWeigh 41 = .ok (.istore 5, 2) := by decide +kernel
theorem dX3_mustWeigh_43 : decode cX3_mustWeigh 43 = .ok (.iload 5, 2) := by decide +kernel
theorem dX3_mustWeigh_45 : decode cX3_mustWeigh 45 = .ok (.bipush 10, 2) := by decide +kernel
theorem dX3_mustWeigh_47 : decode cX3_mustWeigh 47 = .ok (.if_icmp .ge 54, 3) := by decide +kernel
theorem dX3_mustWeigh_50 : decode cX3_mustWeigh 50 = .ok (.aload_n 0, 1) := by decide +kernel
theorem dX3_mustWeigh_51 : decode cX3_mustWeigh 51 = .ok (.getfield 9, 3) := by decide +kernel
theorem dX3_mustWeigh_54 : decode cX3_mustWeigh 54 = .ok (.aload_n 0, 1) := by decide +kernel
theorem dX3_mustWeigh_55 : decode cX3_mustWeigh 55 = .ok (.getfield 13, 3) := by decide +kernel
theorem dX3_mustWeigh_58 : decode cX3_mustWeigh 58 = .ok (.invokestatic 127, 3) := by decide +kernel
theorem dX3_mustWeigh_61 : decode cX3_mustWeigh 61 = .ok (.aload_n 0, 1) := by decide +kernel
theorem dX3_mustWeigh_62 : decode cX3_mustWeigh 62 = .ok (.getfield 13, 3) := by decide +kernel
theorem dX3_mustWeigh_65 : decode cX3_mustWeigh 65 = .ok (.iload_n 1, 1) := by decide +kernel
theorem dX3_mustWeigh_66 : decode cX3_mustWeigh 66 = .ok (.iconst 1, 1) := by decide +kernel
theorem dX3_mustWeigh_67 : decode cX3_mustWeigh 67 = .ok (.invokestatic 50, 3) := by decide +kernel
theorem dX3_mustWeigh_70 : decode cX3_mustWeigh 70 = .ok (.iload 5, 2) := by decide +kernel
theorem dX3_mustWeigh_72 : decode cX3_mustWeigh 72 = .ok (.iastore, 1) := by decide +kernel
theorem dX3_mustWeigh_73 : decode cX3_mustWeigh 73 = .ok (.aload_n 0, 1) := by decide +kernel
theorem dX3_mustWeigh_74 : decode cX3_mustWeigh 74 = .ok (.getfield 13, 3) := by decide +kernel
theorem dX3_mustWeigh_77 : decode cX3_mustWeigh 77 = .ok (.iload_n 3, 1) := by decide +kernel
theorem dX3_mustWeigh_78 : decode cX3_mustWeigh 78 = .ok (.invokestatic 121, 3) := by decide +kernel
theorem dX3_mustWeigh_81 : decode cX3_mustWeigh 81 = .ok (.aload_n 0, 1) := by decide +kernel
theorem dX3_mustWeigh_82 : decode cX3_mustWeigh 82 = .ok (.getfield 13, 3) := by decide +kernel
theorem dX3_mustWeigh_85 : decode cX3_mustWeigh 85 = .ok (.iload_n 2, 1) := by decide +kernel
theorem dX3_mustWeigh_86 : decode cX3_mustWeigh 86 = .ok (.invokestatic 176, 3) := by decide +kernel
theorem dX3_mustWeigh_89 : decode cX3_mustWeigh 89 = .ok (.ifCond .eq 6, 3) := by decide +kernel
theorem dX3_mustWeigh_92 : decode cX3_mustWeigh 92 = .ok (.iload 5, 2) := by decide +kernel
theorem dX3_mustWeigh_94 : decode cX3_mustWeigh 94 = .ok (.ireturn, 1) := by decide +kernel
theorem dX3_mustWeigh_95 : decode cX3_mustWeigh 95 = .ok (.iinc 5 1, 3) := by decide +kernel
theorem dX3_mustWeigh_98 : decode cX3_mustWeigh 98 = .ok (.goto (-55), 3) := by decide +kernel
theorem dX3_mustWeigh_101 : decode cX3_mustWeigh 101 = .ok (.bipush (-9), 2) := by decide +kernel
theorem dX3_mustWeigh_103 : decode cX3_mustWeigh 103 = .ok (.ireturn, 1) := by decide +kernel
set_option maxRecDepth 20000 in
theorem ggX3_bestKind_X3_isThing : GoodIn wsX3_bestKind wsX3_isThing := goodIn_r _ [8, 2, 9, 10, 7, 11, 60, 61, 62, 63, 64, 65, 66, 67, 68, 69, 70, 71, 72] (by decide +kernel) (by decide +kernel)
set_option maxRecDepth 20000 in
theorem gX3_bestKind_X3_isThing : GoodIn wsX3_bestKind (wsV RX3 111 RX3 yX3_isThing wsX3_isThing) := goodIn_app (goodIn_of _ (by decide +kernel)) ggX3_bestKind_X3_isThing
set_option maxRecDepth 20000 in
theorem ggX3_bestKind_X3_wrongBy : GoodIn wsX3_bestKind wsX3_wrongBy := goodIn_r _ [14] (by decide +kernel) (by decide +kernel)
set_option maxRecDepth 20000 in
theorem gX3_bestKind_X3_wrongBy : GoodIn wsX3_bestKind (va_wsS RX3 140 yX3_wrongBy wsX3_wrongBy) := goodIn_app (goodIn_of _ (by decide +kernel)) ggX3_bestKind_X3_wrongBy
set_option maxRecDepth 20000 in
theorem ggX3_bestKind_X3_isIn : GoodIn wsX3_bestKind wsX3_isIn := goodIn_r _ [11] (by decide +kernel) (by decide +kernel)
set_option maxRecDepth 20000 in
theorem gX3_bestKind_X3_isIn : GoodIn wsX3_bestKind (va_wsS RX3 42 yX3_isIn wsX3_isIn) := goodIn_app (goodIn_of _ (by decide +kernel)) ggX3_bestKind_X3_isIn
set_option maxRecDepth 20000 in
theorem ggX3_bestKind_X3_no : GoodIn wsX3_bestKind wsX3_no := goodIn_r _ [18, 19, 60, 61, 62, 63, 64, 65, 66, 67, 68, 69, 70, 71, 72] (by decide +kernel) (by decide +kernel)
set_option maxRecDepth 20000 in
theorem gX3_bestKind_X3_no : GoodIn wsX3_bestKind (wsV RX3 36 RX3 yX3_no wsX3_no) := goodIn_app (goodIn_of _ (by decide +kernel)) ggX3_bestKind_X3_no
set_option maxRecDepth 20000 in
theorem ggX3_bestKind_X3_copies : GoodIn wsX3_bestKind wsX3_copies := goodIn_r _ [22] (by decide +kernel) (by decide +kernel)
set_option maxRecDepth 20000 in
theorem gX3_bestKind_X3_copies : GoodIn wsX3_bestKind (va_wsS RX3 127 yX3_copies wsX3_copies) := goodIn_app (goodIn_of _ (by decide +kernel)) ggX3_bestKind_X3_copies
set_option maxRecDepth 20000 in
theorem ggX3_bestKind_X3_of : GoodIn wsX3_bestKind wsX3_of := goodIn_r _ [25] (by decide +kernel) (by decide +kernel)
set_option maxRecDepth 20000 in
theorem gX3_bestKind_X3_of : GoodIn wsX3_bestKind (va_wsS RX3 50 yX3_of wsX3_of) := goodIn_app (goodIn_of _ (by decide +kernel)) ggX3_bestKind_X3_of
set_option maxRecDepth 20000 in
theorem ggX3_bestKind_X3_apartThen : GoodIn wsX3_bestKind wsX3_apartThen := goodIn_r _ [29, 3, 30, 31, 7, 32, 33, 34, 35, 36, 37, 38, 39, 40, 41, 23, 24, 25, 42, 43, 44, 45, 46, 47, 48, 49, 50, 51, 52, 53, 54, 55, 56, 57, 58, 59, 60, 61, 62, 63, 64, 65, 66, 67, 68, 69, 70, 71, 72] (by decide +kernel) (by decide +kernel)
set_option maxRecDepth 20000 in
theorem gX3_bestKind_X3_apartThen : GoodIn wsX3_bestKind (wsV RX3 164 RX3 yX3_apartThen wsX3_apartThen) := goodIn_app (goodIn_of _ (by decide +kernel)) ggX3_bestKind_X3_apartThen
theorem dX3_bestKind_0 : decode cX3_bestKind 0 = .ok (.aload_n 0, 1) := by decide +kernel
theorem dX3_bestKind_1 : decode cX3_bestKind 1 = .ok (.iload_n 1, 1) := by decide +kernel
theorem dX3_bestKind_2 : decode cX3_bestKind 2 = .ok (.invokevirtual 111, 3) := by decide +kernel
theorem dX3_bestKind_5 : decode cX3_bestKind 5 = .ok (.ifCond .eq 13, 3) := by decide +kernel
theorem dX3_bestKind_8 : decode cX3_bestKind 8 = .ok (.iload_n 2, 1) := by decide +kernel
theorem dX3_bestKind_9 : decode cX3_bestKind 9 = .ok (.iconst 0, 1) := by decide +kernel
theorem dX3_bestKind_10 : decode cX3_bestKind 10 = .ok (.bipush 30, 2) := by decide +kernel
theorem dX3_bestKind_12 : decode cX3_bestKind 12 = .ok (.invokestatic 140, 3) := by decide +kernel
theorem dX3_bestKind_15 : decode cX3_bestKind 15 = .ok (.goto 4, 3) := by decide +kernel
theorem dX3_bestKind_18 : decode cX3_bestKind 18 = .ok (.iconst (-1), 1) := by decide +kernel
theorem dX3_bestKind_19 : decode cX3_bestKind 19 = .ok (.istore 4, 2) := by decide +kernel
theorem dX3_bestKind_21 : decode cX3_bestKind 21 = .ok (.iload 4, 2) := by decide +kernel
theorem dX3_bestKind_23 : decode cX3_bestKind 23 = .ok (.ifCond .ne 16, 3) := by decide +kernel
theorem dX3_bestKind_26 : decode cX3_bestKind 26 = .ok (.iload_n 3, 1) := by decide +kernel
theorem dX3_bestKind_27 : decode cX3_bestKind 27 = .ok (.iconst 0, 1) := by decide +kernel
theorem dX3_bestKind_28 : decode cX3_bestKind 28 = .ok (.iconst 1, 1) := by decide +kernel
theorem dX3_bestKind_29 : decode cX3_bestKind 29 = .ok (.invokestatic 42, 3) := by decide +kernel
theorem dX3_bestKind_32 : decode cX3_bestKind 32 = .ok (.ifCond .ne 7, 3) := by decide +kernel
theorem dX3_bestKind_35 : decode cX3_bestKind 35 = .ok (.bipush (-2), 2) := by decide +kernel
theorem dX3_bestKind_37 : decode cX3_bestKind 37 = .ok (.istore 4, 2) := by decide +kernel
theorem dX3_bestKind_39 : decode cX3_bestKind 39 = .ok (.iload 4, 2) := by decide +kernel
theorem dX3_bestKind_41 : decode cX3_bestKind 41 = .ok (.ifCond .eq 10, 3) := by decide +kernel
theorem dX3_bestKind_44 : decode cX3_bestKind 44 = .ok (.aload_n 0, 1) := by decide +kernel
theorem dX3_bestKind_45 : decode cX3_bestKind 45 = .ok (.iload 4, 2) := by decide +kernel
theorem dX3_bestKind_47 : decode cX3_bestKind 47 = .ok (.invokevirtual 36, 3) := by decide +kernel
theorem dX3_bestKind_50 : decode cX3_bestKind 50 = .ok (.ireturn, 1) := by decide +kernel
theorem dX3_bestKind_51 : decode cX3_bestKind 51 = .ok (.iconst 0, 1) := by decide +kernel
theorem dX3_bestKind_52 : decode cX3_bestKind 52 = .ok (.istore 5, 2) := by decide +kernel
theorem dX3_bestKind_54 : decode cX3_bestKind 54 = .ok (.ldc 35, 2) := by decide +kernel
theorem dX3_bestKind_56 : decode cX3_bestKind 56 = .ok (.istore 6, 2) := by decide +kernel
theorem dX3_bestKind_58 : decode cX3_bestKind 58 = .ok (.iconst 0, 1) := by decide +kernel
theorem dX3_bestKind_59 : decode cX3_bestKind 59 = .ok (.istore 7, 2) := by decide +kernel
theorem dX3_bestKind_61 : decode cX3_bestKind 61 = .ok (.iload 7, 2) := by decide +kernel
theorem dX3_bestKind_63 : decode cX3_bestKind 63 = .ok (.bipush 6, 2) := by decide +kernel
theorem dX3_bestKind_65 : decode cX3_bestKind 65 = .ok (.if_icmp .ge 57, 3) := by decide +kernel
theorem dX3_bestKind_68 : decode cX3_bestKind 68 = .ok (.aload_n 0, 1) := by decide +kernel
theorem dX3_bestKind_69 : decode cX3_bestKind 69 = .ok (.getfield 9, 3) := by decide +kernel
theorem dX3_bestKind_72 : decode cX3_bestKind 72 = .ok (.aload_n 0, 1) := by decide +kernel
theorem dX3_bestKind_73 : decode cX3_bestKind 73 = .ok (.getfield 13, 3) := by decide +kernel
theorem dX3_bestKind_76 : decode cX3_bestKind 76 = .ok (.invokestatic 127, 3) := by decide +kernel
theorem dX3_bestKind_79 : decode cX3_bestKind 79 = .ok (.aload_n 0, 1) := by decide +kernel
theorem dX3_bestKind_80 : decode cX3_bestKind 80 = .ok (.getfield 13, 3) := by decide +kernel
theorem dX3_bestKind_83 : decode cX3_bestKind 83 = .ok (.iload_n 1, 1) := by decide +kernel
theorem dX3_bestKind_84 : decode cX3_bestKind 84 = .ok (.iconst 0, 1) := by decide +kernel
theorem dX3_bestKind_85 : decode cX3_bestKind 85 = .ok (.invokestatic 50, 3) := by decide +kernel
theorem dX3_bestKind_88 : decode cX3_bestKind 88 = .ok (.iload 7, 2) := by decide +kernel
theorem dX3_bestKind_90 : decode cX3_bestKind 90 = .ok (.iastore, 1) := by decide +kernel
theorem dX3_bestKind_91 : decode cX3_bestKind 91 = .ok (.aload_n 0, 1) := by decide +kernel
theorem dX3_bestKind_92 : decode cX3_bestKind 92 = .ok (.iload_n 2, 1) := by decide +kernel
theorem dX3_bestKind_93 : decode cX3_bestKind 93 = .ok (.invokevirtual 164, 3) := by decide +kernel
theorem dX3_bestKind_96 : decode cX3_bestKind 96 = .ok (.istore 8, 2) := by decide +kernel
theorem dX3_bestKind_98 : decode cX3_bestKind 98 = .ok (.iload 8, 2) := by decide +kernel
theorem dX3_bestKind_100 : decode cX3_bestKind 100 = .ok (.iload 6, 2) := by decide +kernel
theorem dX3_bestKind_102 : decode cX3_bestKind 102 = .ok (.if_icmp .lt 6, 3) := by decide +kernel
theorem dX3_bestKind_105 : decode cX3_bestKind 105 = .ok (.goto 11, 3) := by decide +kernel
theorem dX3_bestKind_108 : decode cX3_bestKind 108 = .ok (.iload 7, 2) := by decide +kernel
theorem dX3_bestKind_110 : decode cX3_bestKind 110 = .ok (.istore 5, 2) := by decide +kernel
theorem dX3_bestKind_112 : decode cX3_bestKind 112 = .ok (.iload 8, 2) := by decide +kernel
theorem dX3_bestKind_114 : decode cX3_bestKind 114 = .ok (.istore 6, 2) := by decide +kernel
theorem dX3_bestKind_116 : decode cX3_bestKind 116 = .ok (.iinc 7 1, 3) := by decide +kernel
theorem dX3_bestKind_119 : decode cX3_bestKind 119 = .ok (.goto (-58), 3) := by decide +kernel
theorem dX3_bestKind_122 : decode cX3_bestKind 122 = .ok (.iload_n 3, 1) := by decide +kernel
theorem dX3_bestKind_123 : decode cX3_bestKind 123 = .ok (.ifCond .ne 8, 3) := by decide +kernel
theorem dX3_bestKind_126 : decode cX3_bestKind 126 = .ok (.iload 5, 2) := by decide +kernel
theorem dX3_bestKind_128 : decode cX3_bestKind 128 = .ok (.goto 5, 3) := by decide +kernel
theorem dX3_bestKind_131 : decode cX3_bestKind 131 = .ok (.iload 6, 2) := by decide +kernel
theorem dX3_bestKind_133 : decode cX3_bestKind 133 = .ok (.ireturn, 1) := by decide +kernel
set_option maxRecDepth 20000 in
theorem ggX3_heaviest_X3_isIn : GoodIn wsX3_heaviest wsX3_isIn := goodIn_r _ [5] (by decide +kernel) (by decide +kernel)
set_option maxRecDepth 20000 in
theorem gX3_heaviest_X3_isIn : GoodIn wsX3_heaviest (va_wsS RX3 42 yX3_isIn wsX3_isIn) := goodIn_app (goodIn_of _ (by decide +kernel)) ggX3_heaviest_X3_isIn
set_option maxRecDepth 20000 in
theorem ggX3_heaviest_X3_no : GoodIn wsX3_heaviest wsX3_no := goodIn_r _ [9, 10, 35, 36, 37, 38, 39, 40, 41, 42, 43, 44, 45, 46, 47] (by decide +kernel) (by decide +kernel)
set_option maxRecDepth 20000 in
theorem gX3_heaviest_X3_no : GoodIn wsX3_heaviest (wsV RX3 36 RX3 yX3_no wsX3_no) := goodIn_app (goodIn_of _ (by decide +kernel)) ggX3_heaviest_X3_no
set_option maxRecDepth 20000 in
theorem ggX3_heaviest_X3_weighs : GoodIn wsX3_heaviest wsX3_weighs := goodIn_r _ [13, 14, 15, 4, 16, 17, 18, 19, 20, 21, 22, 23, 24, 25] (by decide +kernel) (by decide +kernel)
set_option maxRecDepth 20000 in
theorem gX3_heaviest_X3_weighs : GoodIn wsX3_heaviest (va_wsS RX3 61 yX3_weighs wsX3_weighs) := goodIn_app (goodIn_of _ (by decide +kernel)) ggX3_heaviest_X3_weighs
set_option maxRecDepth 20000 in
theorem ggX3_heaviest_X3_weighsOn : GoodIn wsX3_heaviest wsX3_weighsOn := goodIn_r _ [16, 17, 18, 4, 19, 20, 21, 22, 23, 24, 25] (by decide +kernel) (by decide +kernel)
set_option maxRecDepth 20000 in
theorem gX3_heaviest_X3_weighsOn : GoodIn wsX3_heaviest (va_wsS RX3 57 yX3_weighsOn wsX3_weighsOn) := goodIn_app (goodIn_of _ (by decide +kernel)) ggX3_heaviest_X3_weighsOn
set_option maxRecDepth 20000 in
theorem ggX3_heaviest_X3_isAtDoor : GoodIn wsX3_heaviest wsX3_isAtDoor := goodIn_r _ [28, 29, 30, 4, 31, 32, 33, 34] (by decide +kernel) (by decide +kernel)
set_option maxRecDepth 20000 in
theorem gX3_heaviest_X3_isAtDoor : GoodIn wsX3_heaviest (va_wsS RX3 176 yX3_isAtDoor wsX3_isAtDoor) := goodIn_app (goodIn_of _ (by decide +kernel)) ggX3_heaviest_X3_isAtDoor
theorem dX3_heaviest_0 : decode cX3_heaviest 0 = .ok (.iload_n 1, 1) := by decide +kernel
theorem dX3_heaviest_1 : decode cX3_heaviest 1 = .ok (.iconst 0, 1) := by decide +kernel
theorem dX3_heaviest_2 : decode cX3_heaviest 2 = .ok (.iconst 4, 1) := by decide +kernel
theorem dX3_heaviest_3 : decode cX3_heaviest 3 = .ok (.invokestatic 42, 3) := by decide +kernel
theorem dX3_heaviest_6 : decode cX3_heaviest 6 = .ok (.ifCond .ne 10, 3) := by decide +kernel
theorem dX3_heaviest_9 : decode cX3_heaviest 9 = .ok (.aload_n 0, 1) := by decide +kernel
theorem dX3_heaviest_10 : decode cX3_heaviest 10 = .ok (.bipush (-2), 2) := by decide +kernel
theorem dX3_heaviest_12 : decode cX3_heaviest 12 = .ok (.invokevirtual 36, 3) := by decide +kernel
theorem dX3_heaviest_15 : decode cX3_heaviest 15 = .ok (.ireturn, 1) := by decide +kernel
theorem dX3_heaviest_16 : decode cX3_heaviest 16 = .ok (.bipush (-9), 2) := by decide +kernel
theorem dX3_heaviest_18 : decode cX3_heaviest 18 = .ok (.istore_n 2, 1) := by decide +kernel
theorem dX3_heaviest_19 : decode cX3_heaviest 19 = .ok (.bipush (-9), 2) := by decide +kernel
theorem dX3_heaviest_21 : decode cX3_heaviest 21 = .ok (.istore_n 3, 1) := by decide +kernel
theorem dX3_heaviest_22 : decode cX3_heaviest 22 = .ok (.iconst 0, 1) := by decide +kernel
theorem dX3_heaviest_23 : decode cX3_heaviest 23 = .ok (.istore 4, 2) := by decide +kernel
theorem dX3_heaviest_25 : decode cX3_heaviest 25 = .ok (.iconst 0, 1) := by decide +kernel
theorem dX3_heaviest_26 : decode cX3_heaviest 26 = .ok (.istore 5, 2) := by decide +kernel
theorem dX3_heaviest_28 : decode cX3_heaviest 28 = .ok (.iload 5, 2) := by decide +kernel
theorem dX3_heaviest_30 : decode cX3_heaviest 30 = .ok (.aload_n 0, 1) := by decide +kernel
theorem dX3_heaviest_31 : decode cX3_heaviest 31 = .ok (.getfield 9, 3) := by decide +kernel
theorem dX3_heaviest_34 : decode cX3_heaviest 34 = .ok (.iconst 0, 1) := by decide +kernel
theorem dX3_heaviest_35 : decode cX3_heaviest 35 = .ok (.iaload, 1) := by decide +kernel
theorem dX3_heaviest_36 : decode cX3_heaviest 36 = .ok (.if_icmp .ge 114, 3) := by decide +kernel
theorem dX3_heaviest_39 : decode cX3_heaviest 39 = .ok (.aload_n 0, 1) := by decide +kernel
theorem dX3_heaviest_40 : decode cX3_heaviest 40 = .ok (.getfield 9, 3) := by decide +kernel
theorem dX3_heaviest_43 : decode cX3_heaviest 43 = .ok (.iload 5, 2) := by decide +kernel
theorem dX3_heaviest_45 : decode cX3_heaviest 45 = .ok (.invokestatic 61, 3) := by decide +kernel
theorem dX3_heaviest_48 : decode cX3_heaviest 48 = .ok (.istore 6, 2) := by decide +kernel
theorem dX3_heaviest_50 : decode cX3_heaviest 50 = .ok (.aload_n 0, 1) := by decide +kernel
theorem dX3_heaviest_51 : decode cX3_heaviest 51 = .ok (.getfield 9, 3) := by decide +kernel
theorem dX3_heaviest_54 : decode cX3_heaviest 54 = .ok (.iload 5, 2) := by decide +kernel
theorem dX3_heaviest_56 : decode cX3_heaviest 56 = .ok (.aload_n 0, 1) := by decide +kernel
theorem dX3_heaviest_57 : decode cX3_heaviest 57 = .ok (.getfield 9, 3) := by decide +kernel
theorem dX3_heaviest_60 : decode cX3_heaviest 60 = .ok (.iconst 1, 1) := by decide +kernel
theorem dX3_heaviest_61 : decode cX3_heaviest 61 = .ok (.iaload, 1) := by decide +kernel
theorem dX3_heaviest_62 : decode cX3_heaviest 62 = .ok (.iconst 1, 1) := by decide +kernel
theorem dX3_heaviest_63 : decode cX3_heaviest 63 = .ok (.iadd, 1) := by decide +kernel
theorem dX3_heaviest_64 : decode cX3_heaviest 64 = .ok (.invokestatic 57, 3) := by decide +kernel
theorem dX3_heaviest_67 : decode cX3_heaviest 67 = .ok (.istore 7, 2) := by decide +kernel
theorem dX3_heaviest_69 : decode cX3_heaviest 69 = .ok (.iload_n 2, 1) := by decide +kernel
theorem dX3_heaviest_70 : decode cX3_heaviest 70 = .ok (.ifCond .lt 16, 3) := by decide +kernel
theorem dX3_heaviest_73 : decode cX3_heaviest 73 = .ok (.iload 6, 2) := by decide +kernel
theorem dX3_heaviest_75 : decode cX3_heaviest 75 = .ok (.aload_n 0, 1) := by decide +kernel
theorem dX3_heaviest_76 : decode cX3_heaviest 76 = .ok (.getfield 9, 3) := by decide +kernel
theorem dX3_heaviest_79 : decode cX3_heaviest 79 = .ok (.iload_n 2, 1) := by decide +kernel
theorem dX3_heaviest_80 : decode cX3_heaviest 80 = .ok (.invokestatic 61, 3) := by decide +kernel
theorem dX3_heaviest_83 : decode cX3_heaviest 83 = .ok (.if_icmp .le 6, 3) := by decide +kernel
theorem dX3_heaviest_86 : decode cX3_heaviest 86 = .ok (.iload 5, 2) := by decide +kernel
theorem dX3_heaviest_88 : decode cX3_heaviest 88 = .ok (.istore_n 2, 1) := by decide +kernel
theorem dX3_heaviest_89 : decode cX3_heaviest 89 = .ok (.iload_n 3, 1) := by decide +kernel
theorem dX3_heaviest_90 : decode cX3_heaviest 90 = .ok (.ifCond .lt 16, 3) := by decide +kernel
theorem dX3_heaviest_93 : decode cX3_heaviest 93 = .ok (.iload 6, 2) := by decide +kernel
theorem dX3_heaviest_95 : decode cX3_heaviest 95 = .ok (.aload_n 0, 1) := by decide +kernel
theorem dX3_heaviest_96 : decode cX3_heaviest 96 = .ok (.getfield 9, 3) := by decide +kernel
theorem dX3_heaviest_99 : decode cX3_heaviest 99 = .ok (.iload_n 3, 1) := by decide +kernel
theorem dX3_heaviest_100 : decode cX3_heaviest 100 = .ok (.invokestatic 61, 3) := by decide +kernel
theorem dX3_heaviest_103 : decode cX3_heaviest 103 = .ok (.if_icmp .ge 6, 3) := by decide +kernel
theorem dX3_heaviest_106 : decode cX3_heaviest 106 = .ok (.iload 5, 2) := by decide +kernel
theorem dX3_heaviest_108 : decode cX3_heaviest 108 = .ok (.istore_n 3, 1) := by decide +kernel
theorem dX3_heaviest_109 : decode cX3_heaviest 109 = .ok (.iload 4, 2) := by decide +kernel
theorem dX3_heaviest_111 : decode cX3_heaviest 111 = .ok (.iload_n 1, 1) := by decide +kernel
theorem dX3_heaviest_112 : decode cX3_heaviest 112 = .ok (.iconst 3, 1) := by decide +kernel
theorem dX3_heaviest_113 : decode cX3_heaviest 113 = .ok (.if_icmp .ne 13, 3) := by decide +kernel
theorem dX3_heaviest_116 : decode cX3_heaviest 116 = .ok (.iload 7, 2) := by decide +kernel
theorem dX3_heaviest_118 : decode cX3_heaviest 118 = .ok (.iload 6, 2) := by decide +kernel
theorem dX3_heaviest_120 : decode cX3_heaviest 120 = .ok (.if_icmp .le 20, 3) := by decide +kernel
theorem dX3_heaviest_123 : decode cX3_heaviest 123 = .ok (.goto 10, 3) := by decide +kernel
theorem dX3_heaviest_126 : decode cX3_heaviest 126 = .ok (.iload 7, 2) := by decide +kernel
theorem dX3_heaviest_128 : decode cX3_heaviest 128 = .ok (.iload 6, 2) := by decide +kernel
theorem dX3_heaviest_130 : decode cX3_heaviest 130 = .ok (.if_icmp .ge 10, 3) := by decide +kernel
theorem dX3_heaviest_133 : decode cX3_heaviest 133 = .ok (.iconst 1, 1) := by decide +kernel
theorem dX3_heaviest_134 : decode cX3_heaviest 134 = .ok (.iload 5, 2) := by decide +kernel
theorem dX3_heaviest_136 : decode cX3_heaviest 136 = .ok (.ishl, 1) := by decide +kernel
theorem dX3_heaviest_137 : decode cX3_heaviest 137 = .ok (.goto 4, 3) := by decide +kernel
theorem dX3_heaviest_140 : decode cX3_heaviest 140 = .ok (.iconst 0, 1) := by decide +kernel
theorem dX3_heaviest_141 : decode cX3_heaviest 141 = .ok (.ior, 1) := by decide +kernel
theorem dX3_heaviest_142 : decode cX3_heaviest 142 = .ok (.istore 4, 2) := by decide +kernel
theorem dX3_heaviest_144 : decode cX3_heaviest 144 = .ok (.iinc 5 1, 3) := by decide +kernel
theorem dX3_heaviest_147 : decode cX3_heaviest 147 = .ok (.goto (-119), 3) := by decide +kernel
theorem dX3_heaviest_150 : decode cX3_heaviest 150 = .ok (.aload_n 0, 1) := by decide +kernel
theorem dX3_heaviest_151 : decode cX3_heaviest 151 = .ok (.getfield 9, 3) := by decide +kernel
theorem dX3_heaviest_154 : decode cX3_heaviest 154 = .ok (.iconst 0, 1) := by decide +kernel
theorem dX3_heaviest_155 : decode cX3_heaviest 155 = .ok (.invokestatic 176, 3) := by decide +kernel
theorem dX3_heaviest_158 : decode cX3_heaviest 158 = .ok (.ifCond .eq 7, 3) := by decide +kernel
theorem dX3_heaviest_161 : decode cX3_heaviest 161 = .ok (.iconst 1, 1) := by decide +kernel
theorem dX3_heaviest_162 : decode cX3_heaviest 162 = .ok (.goto 4, 3) := by decide +kernel
theorem dX3_heaviest_165 : decode cX3_heaviest 165 = .ok (.iconst 0, 1) := by decide +kernel
theorem dX3_heaviest_166 : decode cX3_heaviest 166 = .ok (.aload_n 0, 1) := by decide +kernel
theorem dX3_heaviest_167 : decode cX3_heaviest 167 = .ok (.getfield 9, 3) := by decide +kernel
theorem dX3_heaviest_170 : decode cX3_heaviest 170 = .ok (.iconst 1, 1) := by decide +kernel
theorem dX3_heaviest_171 : decode cX3_heaviest 171 = .ok (.invokestatic 176, 3) := by decide +kernel
theorem dX3_heaviest_174 : decode cX3_heaviest 174 = .ok (.ifCond .eq 7, 3) := by decide +kernel
theorem dX3_heaviest_177 : decode cX3_heaviest 177 = .ok (.iconst 2, 1) := by decide +kernel
theorem dX3_heaviest_178 : decode cX3_heaviest 178 = .ok (.goto 4, 3) := by decide +kernel
theorem dX3_heaviest_181 : decode cX3_heaviest 181 = .ok (.iconst 0, 1) := by decide +kernel
theorem dX3_heaviest_182 : decode cX3_heaviest 182 = .ok (.iadd, 1) := by decide +kernel
theorem dX3_heaviest_183 : decode cX3_heaviest 183 = .ok (.istore 5, 2) := by decide +kernel
theorem dX3_heaviest_185 : decode cX3_heaviest 185 = .ok (.iload_n 1, 1) := by decide +kernel
theorem dX3_heaviest_186 : decode cX3_heaviest 186 = .ok (.ifCond .ne 7, 3) := by decide +kernel
theorem dX3_heaviest_189 : decode cX3_heaviest 189 = .ok (.iload_n 2, 1) := by decide +kernel
theorem dX3_heaviest_190 : decode cX3_heaviest 190 = .ok (.goto 24, 3) := by decide +kernel
theorem dX3_heaviest_193 : decode cX3_heaviest 193 = .ok (.iload_n 1, 1) := by decide +kernel
theorem dX3_heaviest_194 : decode cX3_heaviest 194 = .ok (.iconst 1, 1) := by decide +kernel
theorem dX3_heaviest_195 : decode cX3_heaviest 195 = .ok (.if_icmp .ne 7, 3) := by decide +kernel
theorem dX3_heaviest_198 : decode cX3_heaviest 198 = .ok (.iload_n 3, 1) := by decide +kernel
theorem dX3_heaviest_199 : decode cX3_heaviest 199 = .ok (.goto 15, 3) := by decide +kernel
theorem dX3_heaviest_202 : decode cX3_heaviest 202 = .ok (.iload_n 1, 1) := by decide +kernel
theorem dX3_heaviest_203 : decode cX3_heaviest 203 = .ok (.iconst 2, 1) := by decide +kernel
theorem dX3_heaviest_204 : decode cX3_heaviest 204 = .ok (.if_icmp .ne 8, 3) := by decide +kernel
theorem dX3_heaviest_207 : decode cX3_heaviest 207 = .ok (.iload 5, 2) := by decide +kernel
theorem dX3_heaviest_209 : decode cX3_heaviest 209 = .ok (.goto 5, 3) := by decide +kernel
theorem dX3_heaviest_212 : decode cX3_heaviest 212 = .ok (.iload 4, 2) := by decide +kernel
theorem dX3_heaviest_214 : decode cX3_heaviest 214 = .ok (.ireturn, 1) := by decide +kernel
set_option maxRecDepth 20000 in
theorem ggX3_hasBy_X3_copies : GoodIn wsX3_hasBy wsX3_copies := goodIn_r _ [6] (by decide +kernel) (by decide +kernel)
set_option maxRecDepth 20000 in
theorem gX3_hasBy_X3_copies : GoodIn wsX3_hasBy (va_wsS RX3 127 yX3_copies wsX3_copies) := goodIn_app (goodIn_of _ (by decide +kernel)) ggX3_hasBy_X3_copies
set_option maxRecDepth 20000 in
theorem ggX3_hasBy_X3_of : GoodIn wsX3_hasBy wsX3_of := goodIn_r _ [9] (by decide +kernel) (by decide +kernel)
set_option maxRecDepth 20000 in
theorem gX3_hasBy_X3_of : GoodIn wsX3_hasBy (va_wsS RX3 50 yX3_of wsX3_of) := goodIn_app (goodIn_of _ (by decide +kernel)) ggX3_hasBy_X3_of
set_option maxRecDepth 20000 in
theorem ggX3_hasBy_X3_hangsIn : GoodIn wsX3_hasBy wsX3_hangsIn := goodIn_r _ [12, 7, 8, 5, 9] (by decide +kernel) (by decide +kernel)
set_option maxRecDepth 20000 in
theorem gX3_hasBy_X3_hangsIn : GoodIn wsX3_hasBy (va_wsS RX3 107 yX3_hangsIn wsX3_hangsIn) := goodIn_app (goodIn_of _ (by decide +kernel)) ggX3_hasBy_X3_hangsIn
set_option maxRecDepth 20000 in
theorem ggX3_hasBy_X3_daysOn : GoodIn wsX3_hasBy wsX3_daysOn := goodIn_r _ [15, 16, 17, 5, 18, 19, 20, 21, 22, 23, 24, 7, 8, 9, 25, 26, 27, 28, 29, 30, 31, 32, 33, 34, 35, 36, 37, 38, 39] (by decide +kernel) (by decide +kernel)
set_option maxRecDepth 20000 in
theorem gX3_hasBy_X3_daysOn : GoodIn wsX3_hasBy (va_wsS RX3 121 yX3_daysOn wsX3_daysOn) := goodIn_app (goodIn_of _ (by decide +kernel)) ggX3_hasBy_X3_daysOn
set_option maxRecDepth 20000 in
theorem ggX3_hasBy_X3_floorOf : GoodIn wsX3_hasBy wsX3_floorOf := goodIn_r _ [42] (by decide +kernel) (by decide +kernel)
set_option maxRecDepth 20000 in
theorem gX3_hasBy_X3_floorOf : GoodIn wsX3_hasBy (va_wsS RX3 68 yX3_floorOf wsX3_floorOf) := goodIn_app (goodIn_of _ (by decide +kernel)) ggX3_hasBy_X3_floorOf
theorem dX3_hasBy_0 : decode cX3_hasBy 0 = .ok (.aload_n 0, 1) := by decide +kernel
theorem dX3_hasBy_1 : decode cX3_hasBy 1 = .ok (.getfield 9, 3) := by decide +kernel
theorem dX3_hasBy_4 : decode cX3_hasBy 4 = .ok (.aload_n 0, 1) := by decide +kernel
theorem dX3_hasBy_5 : decode cX3_hasBy 5 = .ok (.getfield 13, 3) := by decide +kernel
theorem dX3_hasBy_8 : decode cX3_hasBy 8 = .ok (.invokestatic 127, 3) := by decide +kernel
theorem dX3_hasBy_11 : decode cX3_hasBy 11 = .ok (.aload_n 0, 1) := by decide +kernel
theorem dX3_hasBy_12 : decode cX3_hasBy 12 = .ok (.getfield 9, 3) := by decide +kernel
theorem dX3_hasBy_15 : decode cX3_hasBy 15 = .ok (.iload_n 1, 1) := by decide +kernel
theorem dX3_hasBy_16 : decode cX3_hasBy 16 = .ok (.iconst 2, 1) := by decide +kernel
theorem dX3_hasBy_17 : decode cX3_hasBy 17 = .ok (.invokestatic 50, 3) := by decide +kernel
theorem dX3_hasBy_20 : decode cX3_hasBy 20 = .ok (.iaload, 1) := by decide +kernel
theorem dX3_hasBy_21 : decode cX3_hasBy 21 = .ok (.istore 7, 2) := by decide +kernel
theorem dX3_hasBy_23 : decode cX3_hasBy 23 = .ok (.iload_n 3, 1) := by decide +kernel
theorem dX3_hasBy_24 : decode cX3_hasBy 24 = .ok (.ifCond .ne 12, 3) := by decide +kernel
theorem dX3_hasBy_27 : decode cX3_hasBy 27 = .ok (.aload_n 0, 1) := by decide +kernel
theorem dX3_hasBy_28 : decode cX3_hasBy 28 = .ok (.getfield 13, 3) := by decide +kernel
theorem dX3_hasBy_31 : decode cX3_hasBy 31 = .ok (.iload_n 2, 1) := by decide +kernel
theorem dX3_hasBy_32 : decode cX3_hasBy 32 = .ok (.iconst 2, 1) := by decide +kernel
theorem dX3_hasBy_33 : decode cX3_hasBy 33 = .ok (.invokestatic 107, 3) := by decide +kernel
theorem dX3_hasBy_36 : decode cX3_hasBy 36 = .ok (.iload 5, 2) := by decide +kernel
theorem dX3_hasBy_38 : decode cX3_hasBy 38 = .ok (.ifCond .ne 13, 3) := by decide +kernel
theorem dX3_hasBy_41 : decode cX3_hasBy 41 = .ok (.aload_n 0, 1) := by decide +kernel
theorem dX3_hasBy_42 : decode cX3_hasBy 42 = .ok (.getfield 13, 3) := by decide +kernel
theorem dX3_hasBy_45 : decode cX3_hasBy 45 = .ok (.iload 4, 2) := by decide +kernel
theorem dX3_hasBy_47 : decode cX3_hasBy 47 = .ok (.iconst 2, 1) := by decide +kernel
theorem dX3_hasBy_48 : decode cX3_hasBy 48 = .ok (.invokestatic 107, 3) := by decide +kernel
theorem dX3_hasBy_51 : decode cX3_hasBy 51 = .ok (.aload_n 0, 1) := by decide +kernel
theorem dX3_hasBy_52 : decode cX3_hasBy 52 = .ok (.getfield 13, 3) := by decide +kernel
theorem dX3_hasBy_55 : decode cX3_hasBy 55 = .ok (.iload 6, 2) := by decide +kernel
theorem dX3_hasBy_57 : decode cX3_hasBy 57 = .ok (.invokestatic 121, 3) := by decide +kernel
theorem dX3_hasBy_60 : decode cX3_hasBy 60 = .ok (.aload_n 0, 1) := by decide +kernel
theorem dX3_hasBy_61 : decode cX3_hasBy 61 = .ok (.getfield 13, 3) := by decide +kernel
theorem dX3_hasBy_64 : decode cX3_hasBy 64 = .ok (.iload 7, 2) := by decide +kernel
theorem dX3_hasBy_66 : decode cX3_hasBy 66 = .ok (.invokestatic 68, 3) := by decide +kernel
theorem dX3_hasBy_69 : decode cX3_hasBy 69 = .ok (.iload_n 1, 1) := by decide +kernel
theorem dX3_hasBy_70 : decode cX3_hasBy 70 = .ok (.iload_n 2, 1) := by decide +kernel
theorem dX3_hasBy_71 : decode cX3_hasBy 71 = .ok (.if_icmp .ne 7, 3) := by decide +kernel
theorem dX3_hasBy_74 : decode cX3_hasBy 74 = .ok (.iload_n 3, 1) := by decide +kernel
theorem dX3_hasBy_75 : decode cX3_hasBy 75 = .ok (.goto 5, 3) := by decide +kernel
theorem dX3_hasBy_78 : decode cX3_hasBy 78 = .ok (.iload 5, 2) := by decide +kernel
theorem dX3_hasBy_80 : decode cX3_hasBy 80 = .ok (.iadd, 1) := by decide +kernel
theorem dX3_hasBy_81 : decode cX3_hasBy 81 = .ok (.ireturn, 1) := by decide +kernel
set_option maxRecDepth 20000 in
theorem ggX3_two_X3_isThing : GoodIn wsX3_two wsX3_isThing := goodIn_r _ [6, 1, 7, 8, 5, 9, 62, 63, 64, 65, 66, 67, 68, 69, 70, 71, 72, 73, 74] (by decide +kernel) (by decide +kernel)
set_option maxRecDepth 20000 in
theorem gX3_two_X3_isThing : GoodIn wsX3_two (wsV RX3 111 RX3 yX3_isThing wsX3_isThing) := goodIn_app (goodIn_of _ (by decide +kernel)) ggX3_two_X3_isThing
set_option maxRecDepth 20000 in
theorem ggX3_two_X3_wrongBy : GoodIn wsX3_two wsX3_wrongBy := goodIn_r _ [12] (by decide +kernel) (by decide +kernel)
set_option maxRecDepth 20000 in
theorem gX3_two_X3_wrongBy : GoodIn wsX3_two (va_wsS RX3 140 yX3_wrongBy wsX3_wrongBy) := goodIn_app (goodIn_of _ (by decide +kernel)) ggX3_two_X3_wrongBy
set_option maxRecDepth 20000 in
theorem ggX3_two_X3_of : GoodIn wsX3_two wsX3_of := goodIn_r _ [15] (by decide +kernel) (by decide +kernel)
set_option maxRecDepth 20000 in
theorem gX3_two_X3_of : GoodIn wsX3_two (va_wsS RX3 50 yX3_of wsX3_of) := goodIn_app (goodIn_of _ (by decide +kernel)) ggX3_two_X3_of
set_option maxRecDepth 20000 in
theorem ggX3_two_X3_no : GoodIn wsX3_two wsX3_no := goodIn_r _ [19, 20, 62, 63, 64, 65, 66, 67, 68, 69, 70, 71, 72, 73, 74] (by decide +kernel) (by decide +kernel)
set_option maxRecDepth 20000 in
theorem gX3_two_X3_no : GoodIn wsX3_two (wsV RX3 36 RX3 yX3_no wsX3_no) := goodIn_app (goodIn_of _ (by decide +kernel)) ggX3_two_X3_no
set_option maxRecDepth 20000 in
theorem ggX3_two_X3_hasBy : GoodIn wsX3_two wsX3_hasBy := goodIn_r _ [24, 1, 25, 26, 27, 5, 28, 13, 14, 15, 29, 30, 31, 32, 33, 34, 35, 36, 37, 38, 39, 40, 41, 42, 43, 44, 45, 46, 47, 48, 49, 50, 51, 52, 53, 54, 55, 56, 57, 58, 59, 60, 61, 62, 63, 64, 65, 66, 67, 68, 69, 70, 71, 72, 73, 74] (by decide +kernel) (by decide +kernel)
set_option maxRecDepth 20000 in
theorem gX3_two_X3_hasBy : GoodIn wsX3_two (wsV RX3 180 RX3 yX3_hasBy wsX3_hasBy) := goodIn_app (goodIn_of _ (by decide +kernel)) ggX3_two_X3_hasBy
theorem dX3_two_0 : decode cX3_two 0 = .ok (.aload_n 0, 1) := by decide +kernel
theorem dX3_two_1 : decode cX3_two 1 = .ok (.iload_n 1, 1) := by decide +kernel
theorem dX3_two_2 : decode cX3_two 2 = .ok (.invokevirtual 111, 3) := by decide +kernel
theorem dX3_two_5 : decode cX3_two 5 = .ok (.ifCond .eq 26, 3) := by decide +kernel
theorem dX3_two_8 : decode cX3_two 8 = .ok (.aload_n 0, 1) := by decide +kernel
theorem dX3_two_9 : decode cX3_two 9 = .ok (.iload_n 2, 1) := by decide +kernel
theorem dX3_two_10 : decode cX3_two 10 = .ok (.invokevirtual 111, 3) := by decide +kernel
theorem dX3_two_13 : decode cX3_two 13 = .ok (.ifCond .eq 18, 3) := by decide +kernel
theorem dX3_two_16 : decode cX3_two 16 = .ok (.iload_n 1, 1) := by decide +kernel
theorem dX3_two_17 : decode cX3_two 17 = .ok (.iload_n 2, 1) := by decide +kernel
theorem dX3_two_18 : decode cX3_two 18 = .ok (.if_icmp .eq 13, 3) := by decide +kernel
theorem dX3_two_21 : decode cX3_two 21 = .ok (.iload_n 3, 1) := by decide +kernel
theorem dX3_two_22 : decode cX3_two 22 = .ok (.iconst 0, 1) := by decide +kernel
theorem dX3_two_23 : decode cX3_two 23 = .ok (.bipush 30, 2) := by decide +kernel
theorem dX3_two_25 : decode cX3_two 25 = .ok (.invokestatic 140, 3) := by decide +kernel
theorem dX3_two_28 : decode cX3_two 28 = .ok (.goto 4, 3) := by decide +kernel
theorem dX3_two_31 : decode cX3_two 31 = .ok (.iconst (-1), 1) := by decide +kernel
theorem dX3_two_32 : decode cX3_two 32 = .ok (.istore 4, 2) := by decide +kernel
theorem dX3_two_34 : decode cX3_two 34 = .ok (.iload 4, 2) := by decide +kernel
theorem dX3_two_36 : decode cX3_two 36 = .ok (.ifCond .ne 35, 3) := by decide +kernel
theorem dX3_two_39 : decode cX3_two 39 = .ok (.aload_n 0, 1) := by decide +kernel
theorem dX3_two_40 : decode cX3_two 40 = .ok (.getfield 9, 3) := by decide +kernel
theorem dX3_two_43 : decode cX3_two 43 = .ok (.iload_n 1, 1) := by decide +kernel
theorem dX3_two_44 : decode cX3_two 44 = .ok (.iconst 2, 1) := by decide +kernel
theorem dX3_two_45 : decode cX3_two 45 = .ok (.invokestatic 50, 3) := by decide +kernel
theorem dX3_two_48 : decode cX3_two 48 = .ok (.iaload, 1) := by decide +kernel
theorem dX3_two_49 : decode cX3_two 49 = .ok (.iconst 2, 1) := by decide +kernel
theorem dX3_two_50 : decode cX3_two 50 = .ok (.if_icmp .eq 17, 3) := by decide +kernel
theorem dX3_two_53 : decode cX3_two 53 = .ok (.aload_n 0, 1) := by decide +kernel
theorem dX3_two_54 : decode cX3_two 54 = .ok (.getfield 9, 3) := by decide +kernel
theorem dX3_two_57 : decode cX3_two 57 = .ok (.iload_n 2, 1) := by decide +kernel
theorem dX3_two_58 : decode cX3_two 58 = .ok (.iconst 2, 1) := by decide +kernel
theorem dX3_two_59 : decode cX3_two 59 = .ok (.invokestatic 50, 3) := by decide +kernel
theorem dX3_two_62 : decode cX3_two 62 = .ok (.iaload, 1) := by decide +kernel
theorem dX3_two_63 : decode cX3_two 63 = .ok (.iconst 2, 1) := by decide +kernel
theorem dX3_two_64 : decode cX3_two 64 = .ok (.if_icmp .ne 7, 3) := by decide +kernel
theorem dX3_two_67 : decode cX3_two 67 = .ok (.bipush (-3), 2) := by decide +kernel
theorem dX3_two_69 : decode cX3_two 69 = .ok (.istore 4, 2) := by decide +kernel
theorem dX3_two_71 : decode cX3_two 71 = .ok (.iload 4, 2) := by decide +kernel
theorem dX3_two_73 : decode cX3_two 73 = .ok (.ifCond .eq 10, 3) := by decide +kernel
theorem dX3_two_76 : decode cX3_two 76 = .ok (.aload_n 0, 1) := by decide +kernel
theorem dX3_two_77 : decode cX3_two 77 = .ok (.iload 4, 2) := by decide +kernel
theorem dX3_two_79 : decode cX3_two 79 = .ok (.invokevirtual 36, 3) := by decide +kernel
theorem dX3_two_82 : decode cX3_two 82 = .ok (.ireturn, 1) := by decide +kernel
theorem dX3_two_83 : decode cX3_two 83 = .ok (.iconst 0, 1) := by decide +kernel
theorem dX3_two_84 : decode cX3_two 84 = .ok (.istore 5, 2) := by decide +kernel
theorem dX3_two_86 : decode cX3_two 86 = .ok (.iload 5, 2) := by decide +kernel
theorem dX3_two_88 : decode cX3_two 88 = .ok (.iconst 4, 1) := by decide +kernel
theorem dX3_two_89 : decode cX3_two 89 = .ok (.if_icmp .ge 88, 3) := by decide +kernel
theorem dX3_two_92 : decode cX3_two 92 = .ok (.iload 5, 2) := by decide +kernel
theorem dX3_two_94 : decode cX3_two 94 = .ok (.iconst 2, 1) := by decide +kernel
theorem dX3_two_95 : decode cX3_two 95 = .ok (.idiv, 1) := by decide +kernel
theorem dX3_two_96 : decode cX3_two 96 = .ok (.istore 6, 2) := by decide +kernel
theorem dX3_two_98 : decode cX3_two 98 = .ok (.iload 5, 2) := by decide +kernel
theorem dX3_two_100 : decode cX3_two 100 = .ok (.iconst 2, 1) := by decide +kernel
theorem dX3_two_101 : decode cX3_two 101 = .ok (.irem, 1) := by decide +kernel
theorem dX3_two_102 : decode cX3_two 102 = .ok (.istore 7, 2) := by decide +kernel
theorem dX3_two_104 : decode cX3_two 104 = .ok (.aload_n 0, 1) := by decide +kernel
theorem dX3_two_105 : decode cX3_two 105 = .ok (.iload_n 1, 1) := by decide +kernel
theorem dX3_two_106 : decode cX3_two 106 = .ok (.iload_n 1, 1) := by decide +kernel
theorem dX3_two_107 : decode cX3_two 107 = .ok (.iconst 1, 1) := by decide +kernel
theorem dX3_two_108 : decode cX3_two 108 = .ok (.iload 6, 2) := by decide +kernel
theorem dX3_two_110 : decode cX3_two 110 = .ok (.isub, 1) := by decide +kernel
theorem dX3_two_111 : decode cX3_two 111 = .ok (.iload_n 2, 1) := by decide +kernel
theorem dX3_two_112 : decode cX3_two 112 = .ok (.iload 7, 2) := by decide +kernel
theorem dX3_two_114 : decode cX3_two 114 = .ok (.iload_n 3, 1) := by decide +kernel
theorem dX3_two_115 : decode cX3_two 115 = .ok (.invokevirtual 180, 3) := by decide +kernel
theorem dX3_two_118 : decode cX3_two 118 = .ok (.aload_n 0, 1) := by decide +kernel
theorem dX3_two_119 : decode cX3_two 119 = .ok (.iload_n 1, 1) := by decide +kernel
theorem dX3_two_120 : decode cX3_two 120 = .ok (.iload_n 1, 1) := by decide +kernel
theorem dX3_two_121 : decode cX3_two 121 = .ok (.iload 6, 2) := by decide +kernel
theorem dX3_two_123 : decode cX3_two 123 = .ok (.iload_n 2, 1) := by decide +kernel
theorem dX3_two_124 : decode cX3_two 124 = .ok (.iload 7, 2) := by decide +kernel
theorem dX3_two_126 : decode cX3_two 126 = .ok (.iload_n 3, 1) := by decide +kernel
theorem dX3_two_127 : decode cX3_two 127 = .ok (.invokevirtual 180, 3) := by decide +kernel
theorem dX3_two_130 : decode cX3_two 130 = .ok (.if_icmp .gt 41, 3) := by decide +kernel
theorem dX3_two_133 : decode cX3_two 133 = .ok (.aload_n 0, 1) := by decide +kernel
theorem dX3_two_134 : decode cX3_two 134 = .ok (.iload_n 2, 1) := by decide +kernel
theorem dX3_two_135 : decode cX3_two 135 = .ok (.iload_n 1, 1) := by decide +kernel
theorem dX3_two_136 : decode cX3_two 136 = .ok (.iload 6, 2) := by decide +kernel
theorem dX3_two_138 : decode cX3_two 138 = .ok (.iload_n 2, 1) := by decide +kernel
theorem dX3_two_139 : decode cX3_two 139 = .ok (.iconst 1, 1) := by decide +kernel
theorem dX3_two_140 : decode cX3_two 140 = .ok (.iload 7, 2) := by decide +kernel
theorem dX3_two_142 : decode cX3_two 142 = .ok (.isub, 1) := by decide +kernel
theorem dX3_two_143 : decode cX3_two 143 = .ok (.iload_n 3, 1) := by decide +kernel
theorem dX3_two_144 : decode cX3_two 144 = .ok (.invokevirtual 180, 3) := by decide +kernel
theorem dX3_two_147 : decode cX3_two 147 = .ok (.aload_n 0, 1) := by decide +kernel
theorem dX3_two_148 : decode cX3_two 148 = .ok (.iload_n 2, 1) := by decide +kernel
theorem dX3_two_149 : decode cX3_two 149 = .ok (.iload_n 1, 1) := by decide +kernel
theorem dX3_two_150 : decode cX3_two 150 = .ok (.iload 6, 2) := by decide +kernel
theorem dX3_two_152 : decode cX3_two 152 = .ok (.iload_n 2, 1) := by decide +kernel
theorem dX3_two_153 : decode cX3_two 153 = .ok (.iload 7, 2) := by decide +kernel
theorem dX3_two_155 : decode cX3_two 155 = .ok (.iload_n 3, 1) := by decide +kernel
theorem dX3_two_156 : decode cX3_two 156 = .ok (.invokevirtual 180, 3) := by decide +kernel
theorem dX3_two_159 : decode cX3_two 159 = .ok (.if_icmp .gt 12, 3) := by decide +kernel
theorem dX3_two_162 : decode cX3_two 162 = .ok (.bipush 10, 2) := by decide +kernel
theorem dX3_two_164 : decode cX3_two 164 = .ok (.iload 6, 2) := by decide +kernel
theorem dX3_two_166 : decode cX3_two 166 = .ok (.imul, 1) := by decide +kernel
theorem dX3_two_167 : decode cX3_two 167 = .ok (.iload 7, 2) := by decide +kernel
theorem dX3_two_169 : decode cX3_two 169 = .ok (.iadd, 1) := by decide +kernel
theorem dX3_two_170 : decode cX3_two 170 = .ok (.ireturn, 1) := by decide +kernel
theorem dX3_two_171 : decode cX3_two 171 = .ok (.iinc 5 1, 3) := by decide +kernel
theorem dX3_two_174 : decode cX3_two 174 = .ok (.goto (-88), 3) := by decide +kernel
theorem dX3_two_177 : decode cX3_two 177 = .ok (.bipush (-9), 2) := by decide +kernel
theorem dX3_two_179 : decode cX3_two 179 = .ok (.ireturn, 1) := by decide +kernel
theorem dX3_gcd_0 : decode cX3_gcd 0 = .ok (.lload_n 0, 1) := by decide +kernel
theorem dX3_gcd_1 : decode cX3_gcd 1 = .ok (.lstore 4, 2) := by decide +kernel
theorem dX3_gcd_3 : decode cX3_gcd 3 = .ok (.lload_n 2, 1) := by decide +kernel
theorem dX3_gcd_4 : decode cX3_gcd 4 = .ok (.lstore 6, 2) := by decide +kernel
theorem dX3_gcd_6 : decode cX3_gcd 6 = .ok (.lload 6, 2) := by decide +kernel
theorem dX3_gcd_8 : decode cX3_gcd 8 = .ok (.lconst 0, 1) := by decide +kernel
theorem dX3_gcd_9 : decode cX3_gcd 9 = .ok (.lcmp, 1) := by decide +kernel
theorem dX3_gcd_10 : decode cX3_gcd 10 = .ok (.ifCond .eq 21, 3) := by decide +kernel
theorem dX3_gcd_13 : decode cX3_gcd 13 = .ok (.lload 4, 2) := by decide +kernel
theorem dX3_gcd_15 : decode cX3_gcd 15 = .ok (.lload 6, 2) := by decide +kernel
theorem dX3_gcd_17 : decode cX3_gcd 17 = .ok (.lrem, 1) := by decide +kernel
theorem dX3_gcd_18 : decode cX3_gcd 18 = .ok (.lstore 8, 2) := by decide +kernel
theorem dX3_gcd_20 : decode cX3_gcd 20 = .ok (.lload 6, 2) := by decide +kernel
theorem dX3_gcd_22 : decode cX3_gcd 22 = .ok (.lstore 4, 2) := by decide +kernel
theorem dX3_gcd_24 : decode cX3_gcd 24 = .ok (.lload 8, 2) := by decide +kernel
theorem dX3_gcd_26 : decode cX3_gcd 26 = .ok (.lstore 6, 2) := by decide +kernel
theorem dX3_gcd_28 : decode cX3_gcd 28 = .ok (.goto (-22), 3) := by decide +kernel
theorem dX3_gcd_31 : decode cX3_gcd 31 = .ok (.lload 4, 2) := by decide +kernel
theorem dX3_gcd_33 : decode cX3_gcd 33 = .ok (.lreturn, 1) := by decide +kernel
set_option maxRecDepth 20000 in
theorem ggX3_partOf_X3_gcd : GoodIn wsX3_partOf wsX3_gcd := goodIn_r _ [4] (by decide +kernel) (by decide +kernel)
set_option maxRecDepth 20000 in
theorem gX3_partOf_X3_gcd : GoodIn wsX3_partOf (va_wsS RX3 184 yX3_gcd wsX3_gcd) := goodIn_app (goodIn_of _ (by decide +kernel)) ggX3_partOf_X3_gcd
theorem dX3_partOf_0 : decode cX3_partOf 0 = .ok (.lload_n 0, 1) := by decide +kernel
theorem dX3_partOf_1 : decode cX3_partOf 1 = .ok (.lconst 0, 1) := by decide +kernel
theorem dX3_partOf_2 : decode cX3_partOf 2 = .ok (.lcmp, 1) := by decide +kernel
theorem dX3_partOf_3 : decode cX3_partOf 3 = .ok (.ifCond .ne 7, 3) := by decide +kernel
theorem dX3_partOf_6 : decode cX3_partOf 6 = .ok (.iload 4, 2) := by decide +kernel
theorem dX3_partOf_8 : decode cX3_partOf 8 = .ok (.i2l, 1) := by decide +kernel
theorem dX3_partOf_9 : decode cX3_partOf 9 = .ok (.lreturn, 1) := by decide +kernel
theorem dX3_partOf_10 : decode cX3_partOf 10 = .ok (.iload 4, 2) := by decide +kernel
theorem dX3_partOf_12 : decode cX3_partOf 12 = .ok (.ifCond .ne 7, 3) := by decide +kernel
theorem dX3_partOf_15 : decode cX3_partOf 15 = .ok (.lload_n 0, 1) := by decide +kernel
theorem dX3_partOf_16 : decode cX3_partOf 16 = .ok (.goto 4, 3) := by decide +kernel
theorem dX3_partOf_19 : decode cX3_partOf 19 = .ok (.lload_n 2, 1) := by decide +kernel
theorem dX3_partOf_20 : decode cX3_partOf 20 = .ok (.lload_n 0, 1) := by decide +kernel
theorem dX3_partOf_21 : decode cX3_partOf 21 = .ok (.lload_n 2, 1) := by decide +kernel
theorem dX3_partOf_22 : decode cX3_partOf 22 = .ok (.invokestatic 184, 3) := by decide +kernel
theorem dX3_partOf_25 : decode cX3_partOf 25 = .ok (.ldiv, 1) := by decide +kernel
theorem dX3_partOf_26 : decode cX3_partOf 26 = .ok (.lreturn, 1) := by decide +kernel
set_option maxRecDepth 20000 in
theorem ggX3_draught_X3_noWide : GoodIn wsX3_draught wsX3_noWide := goodIn_r _ [7, 8, 9, 10, 11, 6, 12, 13, 56, 57, 58, 59, 60, 61, 62, 63, 64, 65, 66, 67, 68] (by decide +kernel) (by decide +kernel)
set_option maxRecDepth 20000 in
theorem gX3_draught_X3_noWide : GoodIn wsX3_draught (wsV RX3 188 RX3 yX3_noWide wsX3_noWide) := goodIn_app (goodIn_of _ (by decide +kernel)) ggX3_draught_X3_noWide
set_option maxRecDepth 20000 in
theorem ggX3_draught_X3_isIn : GoodIn wsX3_draught wsX3_isIn := goodIn_r _ [16] (by decide +kernel) (by decide +kernel)
set_option maxRecDepth 20000 in
theorem gX3_draught_X3_isIn : GoodIn wsX3_draught (va_wsS RX3 42 yX3_isIn wsX3_isIn) := goodIn_app (goodIn_of _ (by decide +kernel)) ggX3_draught_X3_isIn
set_option maxRecDepth 20000 in
theorem ggX3_draught_X3_copies : GoodIn wsX3_draught wsX3_copies := goodIn_r _ [19] (by decide +kernel) (by decide +kernel)
set_option maxRecDepth 20000 in
theorem gX3_draught_X3_copies : GoodIn wsX3_draught (va_wsS RX3 127 yX3_copies wsX3_copies) := goodIn_app (goodIn_of _ (by decide +kernel)) ggX3_draught_X3_copies
set_option maxRecDepth 20000 in
theorem ggX3_draught_X3_has : GoodIn wsX3_draught wsX3_has := goodIn_r _ [22] (by decide +kernel) (by decide +kernel)
set_option maxRecDepth 20000 in
theorem gX3_draught_X3_has : GoodIn wsX3_draught (va_wsS RX3 71 yX3_has wsX3_has) := goodIn_app (goodIn_of _ (by decide +kernel)) ggX3_draught_X3_has
set_option maxRecDepth 20000 in
theorem ggX3_draught_X3_day : GoodIn wsX3_draught wsX3_day := goodIn_r _ [25, 26, 27, 6, 28, 29, 30, 31, 32, 33, 34, 35, 36, 37, 38, 39, 40, 41, 42, 43, 44, 45, 46, 47, 48, 49] (by decide +kernel) (by decide +kernel)
set_option maxRecDepth 20000 in
theorem gX3_draught_X3_day : GoodIn wsX3_draught (va_wsS RX3 82 yX3_day wsX3_day) := goodIn_app (goodIn_of _ (by decide +kernel)) ggX3_draught_X3_day
set_option maxRecDepth 20000 in
theorem ggX3_draught_X3_partOf : GoodIn wsX3_draught wsX3_partOf := goodIn_r _ [52, 53, 54, 6, 55] (by decide +kernel) (by decide +kernel)
set_option maxRecDepth 20000 in
theorem gX3_draught_X3_partOf : GoodIn wsX3_draught (va_wsS RX3 192 yX3_partOf wsX3_partOf) := goodIn_app (goodIn_of _ (by decide +kernel)) ggX3_draught_X3_partOf
theorem dX3_draught_0 : decode cX3_draught 0 = .ok (.iload_n 1, 1) := by decide +kernel
theorem dX3_draught_1 : decode cX3_draught 1 = .ok (.ifCond .lt 12, 3) := by decide +kernel
theorem dX3_draught_4 : decode cX3_draught 4 = .ok (.iload_n 3, 1) := by decide +kernel
theorem dX3_draught_5 : decode cX3_draught 5 = .ok (.ifCond .lt 8, 3) := by decide +kernel
theorem dX3_draught_8 : decode cX3_draught 8 = .ok (.iload_n 2, 1) := by decide +kernel
theorem dX3_draught_9 : decode cX3_draught 9 = .ok (.iconst 2, 1) := by decide +kernel
theorem dX3_draught_10 : decode cX3_draught 10 = .ok (.if_icmp .ge 10, 3) := by decide +kernel
theorem dX3_draught_13 : decode cX3_draught 13 = .ok (.aload_n 0, 1) := by decide +kernel
theorem dX3_draught_14 : decode cX3_draught 14 = .ok (.bipush (-4), 2) := by decide +kernel
theorem dX3_draught_16 : decode cX3_draught 16 = .ok (.invokevirtual 188, 3) := by decide +kernel
theorem dX3_draught_19 : decode cX3_draught 19 = .ok (.lreturn, 1) := by decide +kernel
theorem dX3_draught_20 : decode cX3_draught 20 = .ok (.iload_n 1, 1) := by decide +kernel
theorem dX3_draught_21 : decode cX3_draught 21 = .ok (.bipush 7, 2) := by decide +kernel
theorem dX3_draught_23 : decode cX3_draught 23 = .ok (.if_icmp .gt 15, 3) := by decide +kernel
theorem dX3_draught_26 : decode cX3_draught 26 = .ok (.iload_n 2, 1) := by decide +kernel
theorem dX3_draught_27 : decode cX3_draught 27 = .ok (.bipush 20, 2) := by decide +kernel
theorem dX3_draught_29 : decode cX3_draught 29 = .ok (.if_icmp .gt 9, 3) := by decide +kernel
theorem dX3_draught_32 : decode cX3_draught 32 = .ok (.iload_n 3, 1) := by decide +kernel
theorem dX3_draught_33 : decode cX3_draught 33 = .ok (.bipush 20, 2) := by decide +kernel
theorem dX3_draught_35 : decode cX3_draught 35 = .ok (.if_icmp .le 10, 3) := by decide +kernel
theorem dX3_draught_38 : decode cX3_draught 38 = .ok (.aload_n 0, 1) := by decide +kernel
theorem dX3_draught_39 : decode cX3_draught 39 = .ok (.bipush (-6), 2) := by decide +kernel
theorem dX3_draught_41 : decode cX3_draught 41 = .ok (.invokevirtual 188, 3) := by decide +kernel
theorem dX3_draught_44 : decode cX3_draught 44 = .ok (.lreturn, 1) := by decide +kernel
theorem dX3_draught_45 : decode cX3_draught 45 = .ok (.iload 4, 2) := by decide +kernel
theorem dX3_draught_47 : decode cX3_draught 47 = .ok (.iconst 0, 1) := by decide +kernel
theorem dX3_draught_48 : decode cX3_draught 48 = .ok (.iconst 1, 1) := by decide +kernel
theorem dX3_draught_49 : decode cX3_draught 49 = .ok (.invokestatic 42, 3) := by decide +kernel
theorem dX3_draught_52 : decode cX3_draught 52 = .ok (.ifCond .ne 10, 3) := by decide +kernel
theorem dX3_draught_55 : decode cX3_draught 55 = .ok (.aload_n 0, 1) := by decide +kernel
theorem dX3_draught_56 : decode cX3_draught 56 = .ok (.bipush (-2), 2) := by decide +kernel
theorem dX3_draught_58 : decode cX3_draught 58 = .ok (.invokevirtual 188, 3) := by decide +kernel
theorem dX3_draught_61 : decode cX3_draught 61 = .ok (.lreturn, 1) := by decide +kernel
theorem dX3_draught_62 : decode cX3_draught 62 = .ok (.lconst 0, 1) := by decide +kernel
theorem dX3_draught_63 : decode cX3_draught 63 = .ok (.lstore 5, 2) := by decide +kernel
theorem dX3_draught_65 : decode cX3_draught 65 = .ok (.lconst 1, 1) := by decide +kernel
theorem dX3_draught_66 : decode cX3_draught 66 = .ok (.lstore 7, 2) := by decide +kernel
theorem dX3_draught_68 : decode cX3_draught 68 = .ok (.iconst 0, 1) := by decide +kernel
theorem dX3_draught_69 : decode cX3_draught 69 = .ok (.istore 9, 2) := by decide +kernel
theorem dX3_draught_71 : decode cX3_draught 71 = .ok (.iload 9, 2) := by decide +kernel
theorem dX3_draught_73 : decode cX3_draught 73 = .ok (.iload_n 1, 1) := by decide +kernel
theorem dX3_draught_74 : decode cX3_draught 74 = .ok (.if_icmp .ge 16, 3) := by decide +kernel
theorem dX3_draught_77 : decode cX3_draught 77 = .ok (.lload 7, 2) := by decide +kernel
theorem dX3_draught_79 : decode cX3_draught 79 = .ok (.iload_n 2, 1) := by decide +kernel
theorem dX3_draught_80 : decode cX3_draught 80 = .ok (.i2l, 1) := by decide +kernel
theorem dX3_draught_81 : decode cX3_draught 81 = .ok (.lmul, 1) := by decide +kernel
theorem dX3_draught_82 : decode cX3_draught 82 = .ok (.lstore 7, 2) := by decide +kernel
theorem dX3_draught_84 : decode cX3_draught 84 = .ok (.iinc 9 1, 3) := by decide +kernel
theorem dX3_draught_87 : decode cX3_draught 87 = .ok (.goto (-16), 3) := by decide +kernel
theorem dX3_draught_90 : decode cX3_draught 90 = .ok (.iconst 0, 1) := by decide +kernel
theorem dX3_draught_91 : decode cX3_draught 91 = .ok (.istore 9, 2) := by decide +kernel
theorem dX3_draught_93 : decode cX3_draught 93 = .ok (.iload 9, 2) := by decide +kernel
theorem dX3_draught_95 : decode cX3_draught 95 = .ok (.iconst 1, 1) := by decide +kernel
theorem dX3_draught_96 : decode cX3_draught 96 = .ok (.iload_n 1, 1) := by decide +kernel
theorem dX3_draught_97 : decode cX3_draught 97 = .ok (.ishl, 1) := by decide +kernel
theorem dX3_draught_98 : decode cX3_draught 98 = .ok (.if_icmp .ge 105, 3) := by decide +kernel
theorem dX3_draught_101 : decode cX3_draught 101 = .ok (.lconst 1, 1) := by decide +kernel
theorem dX3_draught_102 : decode cX3_draught 102 = .ok (.lstore 10, 2) := by decide +kernel
theorem dX3_draught_104 : decode cX3_draught 104 = .ok (.aload_n 0, 1) := by decide +kernel
theorem dX3_draught_105 : decode cX3_draught 105 = .ok (.getfield 9, 3) := by decide +kernel
theorem dX3_draught_108 : decode cX3_draught 108 = .ok (.aload_n 0, 1) := by decide +kernel
theorem dX3_draught_109 : decode cX3_draught 109 = .ok (.getfield 13, 3) := by decide +kernel
theorem dX3_draught_112 : decode cX3_draught 112 = .ok (.invokestatic 127, 3) := by decide +kernel
theorem dX3_draught_115 : decode cX3_draught 115 = .ok (.iconst 0, 1) := by decide +kernel
theorem dX3_draught_116 : decode cX3_draught 116 = .ok (.istore 12, 2) := by decide +kernel
theorem dX3_draught_118 : decode cX3_draught 118 = .ok (.iload 12, 2) := by decide +kernel
theorem dX3_draught_120 : decode cX3_draught 120 = .ok (.iload_n 1, 1) := by decide +kernel
theorem dX3_draught_121 : decode cX3_draught 121 = .ok (.if_icmp .ge 55, 3) := by decide +kernel
theorem dX3_draught_124 : decode cX3_draught 124 = .ok (.lload 10, 2) := by decide +kernel
theorem dX3_draught_126 : decode cX3_draught 126 = .ok (.iload 9, 2) := by decide +kernel
theorem dX3_draught_128 : decode cX3_draught 128 = .ok (.iload 12, 2) := by decide +kernel
theorem dX3_draught_130 : decode cX3_draught 130 = .ok (.invokestatic 71, 3) := by decide +kernel
theorem dX3_draught_133 : decode cX3_draught 133 = .ok (.ifCond .eq 7, 3) := by decide +kernel
theorem dX3_draught_136 : decode cX3_draught 136 = .ok (.lconst 1, 1) := by decide +kernel
theorem dX3_draught_137 : decode cX3_draught 137 = .ok (.goto 7, 3) := by decide +kernel
theorem dX3_draught_140 : decode cX3_draught 140 = .ok (.iload_n 2, 1) := by decide +kernel
theorem dX3_draught_141 : decode cX3_draught 141 = .ok (.iconst 1, 1) := by decide +kernel
theorem dX3_draught_142 : decode cX3_draught 142 = .ok (.isub, 1) := by decide +kernel
theorem dX3_draught_143 : decode cX3_draught 143 = .ok (.i2l, 1) := by decide +kernel
theorem dX3_draught_144 : decode cX3_draught 144 = .ok (.lmul, 1) := by decide +kernel
theorem dX3_draught_145 : decode cX3_draught 145 = .ok (.lstore 10, 2) := by decide +kernel
theorem dX3_draught_147 : decode cX3_draught 147 = .ok (.aload_n 0, 1) := by decide +kernel
theorem dX3_draught_148 : decode cX3_draught 148 = .ok (.getfield 13, 3) := by decide +kernel
theorem dX3_draught_151 : decode cX3_draught 151 = .ok (.iload 9, 2) := by decide +kernel
theorem dX3_draught_153 : decode cX3_draught 153 = .ok (.iload 12, 2) := by decide +kernel
theorem dX3_draught_155 : decode cX3_draught 155 = .ok (.invokestatic 71, 3) := by decide +kernel
theorem dX3_draught_158 : decode cX3_draught 158 = .ok (.ifCond .eq 8, 3) := by decide +kernel
theorem dX3_draught_161 : decode cX3_draught 161 = .ok (.bipush (-8), 2) := by decide +kernel
theorem dX3_draught_163 : decode cX3_draught 163 = .ok (.goto 4, 3) := by decide +kernel
theorem dX3_draught_166 : decode cX3_draught 166 = .ok (.iconst 0, 1) := by decide +kernel
theorem dX3_draught_167 : decode cX3_draught 167 = .ok (.invokestatic 82, 3) := by decide +kernel
theorem dX3_draught_170 : decode cX3_draught 170 = .ok (.iinc 12 1, 3) := by decide +kernel
theorem dX3_draught_173 : decode cX3_draught 173 = .ok (.goto (-55), 3) := by decide +kernel
theorem dX3_draught_176 : decode cX3_draught 176 = .ok (.lload 5, 2) := by decide +kernel
theorem dX3_draught_178 : decode cX3_draught 178 = .ok (.aload_n 0, 1) := by decide +kernel
theorem dX3_draught_179 : decode cX3_draught 179 = .ok (.getfield 13, 3) := by decide +kernel
theorem dX3_draught_182 : decode cX3_draught 182 = .ok (.iconst 2, 1) := by decide +kernel
theorem dX3_draught_183 : decode cX3_draught 183 = .ok (.iaload, 1) := by decide +kernel
theorem dX3_draught_184 : decode cX3_draught 184 = .ok (.iload_n 3, 1) := by decide +kernel
theorem dX3_draught_185 : decode cX3_draught 185 = .ok (.if_icmp .lt 8, 3) := by decide +kernel
theorem dX3_draught_188 : decode cX3_draught 188 = .ok (.lload 10, 2) := by decide +kernel
theorem dX3_draught_190 : decode cX3_draught 190 = .ok (.goto 4, 3) := by decide +kernel
theorem dX3_draught_193 : decode cX3_draught 193 = .ok (.lconst 0, 1) := by decide +kernel
theorem dX3_draught_194 : decode cX3_draught 194 = .ok (.ladd, 1) := by decide +kernel
theorem dX3_draught_195 : decode cX3_draught 195 = .ok (.lstore 5, 2) := by decide +kernel
theorem dX3_draught_197 : decode cX3_draught 197 = .ok (.iinc 9 1, 3) := by decide +kernel
theorem dX3_draught_200 : decode cX3_draught 200 = .ok (.goto (-107), 3) := by decide +kernel
theorem dX3_draught_203 : decode cX3_draught 203 = .ok (.lload 5, 2) := by decide +kernel
theorem dX3_draught_205 : decode cX3_draught 205 = .ok (.lload 7, 2) := by decide +kernel
theorem dX3_draught_207 : decode cX3_draught 207 = .ok (.iload 4, 2) := by decide +kernel
theorem dX3_draught_209 : decode cX3_draught 209 = .ok (.invokestatic 192, 3) := by decide +kernel
theorem dX3_draught_212 : decode cX3_draught 212 = .ok (.lreturn, 1) := by decide +kernel
set_option maxRecDepth 20000 in
theorem ggX3_allWeigh_X3_weighs : GoodIn wsX3_allWeigh wsX3_weighs := goodIn_r _ [5, 6, 7, 4, 8, 9, 10, 11, 12, 13, 14, 15, 16, 17] (by decide +kernel) (by decide +kernel)
set_option maxRecDepth 20000 in
theorem gX3_allWeigh_X3_weighs : GoodIn wsX3_allWeigh (va_wsS RX3 61 yX3_weighs wsX3_weighs) := goodIn_app (goodIn_of _ (by decide +kernel)) ggX3_allWeigh_X3_weighs
theorem dX3_allWeigh_0 : decode cX3_allWeigh 0 = .ok (.iconst 0, 1) := by decide +kernel
theorem dX3_allWeigh_1 : decode cX3_allWeigh 1 = .ok (.istore_n 1, 1) := by decide +kernel
theorem dX3_allWeigh_2 : decode cX3_allWeigh 2 = .ok (.iconst 0, 1) := by decide +kernel
theorem dX3_allWeigh_3 : decode cX3_allWeigh 3 = .ok (.istore_n 2, 1) := by decide +kernel
theorem dX3_allWeigh_4 : decode cX3_allWeigh 4 = .ok (.iload_n 2, 1) := by decide +kernel
theorem dX3_allWeigh_5 : decode cX3_allWeigh 5 = .ok (.aload_n 0, 1) := by decide +kernel
theorem dX3_allWeigh_6 : decode cX3_allWeigh 6 = .ok (.getfield 9, 3) := by decide +kernel
theorem dX3_allWeigh_9 : decode cX3_allWeigh 9 = .ok (.iconst 0, 1) := by decide +kernel
theorem dX3_allWeigh_10 : decode cX3_allWeigh 10 = .ok (.iaload, 1) := by decide +kernel
theorem dX3_allWeigh_11 : decode cX3_allWeigh 11 = .ok (.if_icmp .ge 20, 3) := by decide +kernel
theorem dX3_allWeigh_14 : decode cX3_allWeigh 14 = .ok (.iload_n 1, 1) := by decide +kernel
theorem dX3_allWeigh_15 : decode cX3_allWeigh 15 = .ok (.aload_n 0, 1) := by decide +kernel
theorem dX3_allWeigh_16 : decode cX3_allWeigh 16 = .ok (.getfield 9, 3) := by decide +kernel
theorem dX3_allWeigh_19 : decode cX3_allWeigh 19 = .ok (.iload_n 2, 1) := by decide +kernel
theorem dX3_allWeigh_20 : decode cX3_allWeigh 20 = .ok (.invokestatic 61, 3) := by decide +kernel
theorem dX3_allWeigh_23 : decode cX3_allWeigh 23 = .ok (.iadd, 1) := by decide +kernel
theorem dX3_allWeigh_24 : decode cX3_allWeigh 24 = .ok (.istore_n 1, 1) := by decide +kernel
theorem dX3_allWeigh_25 : decode cX3_allWeigh 25 = .ok (.iinc 2 1, 3) := by decide +kernel
theorem dX3_allWeigh_28 : decode cX3_allWeigh 28 = .ok (.goto (-24), 3) := by decide +kernel
theorem dX3_allWeigh_31 : decode cX3_allWeigh 31 = .ok (.iload_n 1, 1) := by decide +kernel
theorem dX3_allWeigh_32 : decode cX3_allWeigh 32 = .ok (.ireturn, 1) := by decide +kernel
set_option maxRecDepth 20000 in
theorem ggX3_mean_X3_isIn : GoodIn wsX3_mean wsX3_isIn := goodIn_r _ [5] (by decide +kernel) (by decide +kernel)
set_option maxRecDepth 20000 in
theorem gX3_mean_X3_isIn : GoodIn wsX3_mean (va_wsS RX3 42 yX3_isIn wsX3_isIn) := goodIn_app (goodIn_of _ (by decide +kernel)) ggX3_mean_X3_isIn
set_option maxRecDepth 20000 in
theorem ggX3_mean_X3_allWeigh : GoodIn wsX3_mean wsX3_allWeigh := goodIn_r _ [9, 1, 10, 11, 4, 12, 13, 14, 15, 16, 17, 18, 19, 20, 21, 22, 23, 24, 41, 42, 43, 44, 45, 46, 47, 48, 49, 50, 51, 52, 53] (by decide +kernel) (by decide +kernel)
set_option maxRecDepth 20000 in
theorem gX3_mean_X3_allWeigh : GoodIn wsX3_mean (wsV RX3 196 RX3 yX3_allWeigh wsX3_allWeigh) := goodIn_app (goodIn_of _ (by decide +kernel)) ggX3_mean_X3_allWeigh
set_option maxRecDepth 20000 in
theorem ggX3_mean_X3_partOf : GoodIn wsX3_mean wsX3_partOf := goodIn_r _ [27, 28, 29, 4, 30] (by decide +kernel) (by decide +kernel)
set_option maxRecDepth 20000 in
theorem gX3_mean_X3_partOf : GoodIn wsX3_mean (va_wsS RX3 192 yX3_partOf wsX3_partOf) := goodIn_app (goodIn_of _ (by decide +kernel)) ggX3_mean_X3_partOf
set_option maxRecDepth 20000 in
theorem ggX3_mean_X3_noWide : GoodIn wsX3_mean wsX3_noWide := goodIn_r _ [34, 35, 36, 37, 38, 4, 39, 40, 41, 42, 43, 44, 45, 46, 47, 48, 49, 50, 51, 52, 53] (by decide +kernel) (by decide +kernel)
set_option maxRecDepth 20000 in
theorem gX3_mean_X3_noWide : GoodIn wsX3_mean (wsV RX3 188 RX3 yX3_noWide wsX3_noWide) := goodIn_app (goodIn_of _ (by decide +kernel)) ggX3_mean_X3_noWide
theorem dX3_mean_0 : decode cX3_mean 0 = .ok (.iload_n 1, 1) := by decide +kernel
theorem dX3_mean_1 : decode cX3_mean 1 = .ok (.iconst 0, 1) := by decide +kernel
theorem dX3_mean_2 : decode cX3_mean 2 = .ok (.iconst 1, 1) := by decide +kernel
theorem dX3_mean_3 : decode cX3_mean 3 = .ok (.invokestatic 42, 3) := by decide +kernel
theorem dX3_mean_6 : decode cX3_mean 6 = .ok (.ifCond .eq 22, 3) := by decide +kernel
theorem dX3_mean_9 : decode cX3_mean 9 = .ok (.aload_n 0, 1) := by decide +kernel
theorem dX3_mean_10 : decode cX3_mean 10 = .ok (.invokevirtual 196, 3) := by decide +kernel
theorem dX3_mean_13 : decode cX3_mean 13 = .ok (.i2l, 1) := by decide +kernel
theorem dX3_mean_14 : decode cX3_mean 14 = .ok (.aload_n 0, 1) := by decide +kernel
theorem dX3_mean_15 : decode cX3_mean 15 = .ok (.getfield 9, 3) := by decide +kernel
theorem dX3_mean_18 : decode cX3_mean 18 = .ok (.iconst 0, 1) := by decide +kernel
theorem dX3_mean_19 : decode cX3_mean 19 = .ok (.iaload, 1) := by decide +kernel
theorem dX3_mean_20 : decode cX3_mean 20 = .ok (.i2l, 1) := by decide +kernel
theorem dX3_mean_21 : decode cX3_mean 21 = .ok (.iload_n 1, 1) := by decide +kernel
theorem dX3_mean_22 : decode cX3_mean 22 = .ok (.invokestatic 192, 3) := by decide +kernel
theorem dX3_mean_25 : decode cX3_mean 25 = .ok (.goto 9, 3) := by decide +kernel
theorem dX3_mean_28 : decode cX3_mean 28 = .ok (.aload_n 0, 1) := by decide +kernel
theorem dX3_mean_29 : decode cX3_mean 29 = .ok (.bipush (-2), 2) := by decide +kernel
theorem dX3_mean_31 : decode cX3_mean 31 = .ok (.invokevirtual 188, 3) := by decide +kernel
theorem dX3_mean_34 : decode cX3_mean 34 = .ok (.lreturn, 1) := by decide +kernel
set_option maxRecDepth 20000 in
theorem ggX3_whatIs_X3_isThing : GoodIn wsX3_whatIs wsX3_isThing := goodIn_r _ [9, 1, 10, 11, 8, 12, 48, 49, 50, 51, 52, 53, 54, 55, 56, 57, 58, 59, 60] (by decide +kernel) (by decide +kernel)
set_option maxRecDepth 20000 in
theorem gX3_whatIs_X3_isThing : GoodIn wsX3_whatIs (wsV RX3 111 RX3 yX3_isThing wsX3_isThing) := goodIn_app (goodIn_of _ (by decide +kernel)) ggX3_whatIs_X3_isThing
set_option maxRecDepth 20000 in
theorem ggX3_whatIs_X3_no : GoodIn wsX3_whatIs wsX3_no := goodIn_r _ [16, 17, 48, 49, 50, 51, 52, 53, 54, 55, 56, 57, 58, 59, 60] (by decide +kernel) (by decide +kernel)
set_option maxRecDepth 20000 in
theorem gX3_whatIs_X3_no : GoodIn wsX3_whatIs (wsV RX3 36 RX3 yX3_no wsX3_no) := goodIn_app (goodIn_of _ (by decide +kernel)) ggX3_whatIs_X3_no
set_option maxRecDepth 20000 in
theorem ggX3_whatIs_X3_isIn : GoodIn wsX3_whatIs wsX3_isIn := goodIn_r _ [12] (by decide +kernel) (by decide +kernel)
set_option maxRecDepth 20000 in
theorem gX3_whatIs_X3_isIn : GoodIn wsX3_whatIs (va_wsS RX3 42 yX3_isIn wsX3_isIn) := goodIn_app (goodIn_of _ (by decide +kernel)) ggX3_whatIs_X3_isIn
set_option maxRecDepth 20000 in
theorem ggX3_whatIs_X3_copies : GoodIn wsX3_whatIs wsX3_copies := goodIn_r _ [20] (by decide +kernel) (by decide +kernel)
set_option maxRecDepth 20000 in
theorem gX3_whatIs_X3_copies : GoodIn wsX3_whatIs (va_wsS RX3 127 yX3_copies wsX3_copies) := goodIn_app (goodIn_of _ (by decide +kernel)) ggX3_whatIs_X3_copies
set_option maxRecDepth 20000 in
theorem ggX3_whatIs_X3_of : GoodIn wsX3_whatIs wsX3_of := goodIn_r _ [23] (by decide +kernel) (by decide +kernel)
set_option maxRecDepth 20000 in
theorem gX3_whatIs_X3_of : GoodIn wsX3_whatIs (va_wsS RX3 50 yX3_of wsX3_of) := goodIn_app (goodIn_of _ (by decide +kernel)) ggX3_whatIs_X3_of
set_option maxRecDepth 20000 in
theorem ggX3_whatIs_X3_day : GoodIn wsX3_whatIs wsX3_day := goodIn_r _ [26, 27, 28, 8, 29, 30, 31, 32, 21, 22, 23, 33, 34, 35, 36, 37, 38, 39, 40, 41, 42, 43, 44, 45, 46, 47] (by decide +kernel) (by decide +kernel)
set_option maxRecDepth 20000 in
theorem gX3_whatIs_X3_day : GoodIn wsX3_whatIs (va_wsS RX3 82 yX3_day wsX3_day) := goodIn_app (goodIn_of _ (by decide +kernel)) ggX3_whatIs_X3_day
theorem dX3_whatIs_0 : decode cX3_whatIs 0 = .ok (.aload_n 0, 1) := by decide +kernel
theorem dX3_whatIs_1 : decode cX3_whatIs 1 = .ok (.iload_n 1, 1) := by decide +kernel
theorem dX3_whatIs_2 : decode cX3_whatIs 2 = .ok (.invokevirtual 111, 3) := by decide +kernel
theorem dX3_whatIs_5 : decode cX3_whatIs 5 = .ok (.ifCond .ne 9, 3) := by decide +kernel
theorem dX3_whatIs_8 : decode cX3_whatIs 8 = .ok (.aload_n 0, 1) := by decide +kernel
theorem dX3_whatIs_9 : decode cX3_whatIs 9 = .ok (.iconst (-1), 1) := by decide +kernel
theorem dX3_whatIs_10 : decode cX3_whatIs 10 = .ok (.invokevirtual 36, 3) := by decide +kernel
theorem dX3_whatIs_13 : decode cX3_whatIs 13 = .ok (.ireturn, 1) := by decide +kernel
theorem dX3_whatIs_14 : decode cX3_whatIs 14 = .ok (.iload_n 2, 1) := by decide +kernel
theorem dX3_whatIs_15 : decode cX3_whatIs 15 = .ok (.iconst 0, 1) := by decide +kernel
theorem dX3_whatIs_16 : decode cX3_whatIs 16 = .ok (.iconst 1, 1) := by decide +kernel
theorem dX3_whatIs_17 : decode cX3_whatIs 17 = .ok (.invokestatic 42, 3) := by decide +kernel
theorem dX3_whatIs_20 : decode cX3_whatIs 20 = .ok (.ifCond .ne 10, 3) := by decide +kernel
theorem dX3_whatIs_23 : decode cX3_whatIs 23 = .ok (.aload_n 0, 1) := by decide +kernel
theorem dX3_whatIs_24 : decode cX3_whatIs 24 = .ok (.bipush (-2), 2) := by decide +kernel
theorem dX3_whatIs_26 : decode cX3_whatIs 26 = .ok (.invokevirtual 36, 3) := by decide +kernel
theorem dX3_whatIs_29 : decode cX3_whatIs 29 = .ok (.ireturn, 1) := by decide +kernel
theorem dX3_whatIs_30 : decode cX3_whatIs 30 = .ok (.iconst 0, 1) := by decide +kernel
theorem dX3_whatIs_31 : decode cX3_whatIs 31 = .ok (.istore_n 3, 1) := by decide +kernel
theorem dX3_whatIs_32 : decode cX3_whatIs 32 = .ok (.iconst 0, 1) := by decide +kernel
theorem dX3_whatIs_33 : decode cX3_whatIs 33 = .ok (.istore 4, 2) := by decide +kernel
theorem dX3_whatIs_35 : decode cX3_whatIs 35 = .ok (.iload 4, 2) := by decide +kernel
theorem dX3_whatIs_37 : decode cX3_whatIs 37 = .ok (.iload_n 2, 1) := by decide +kernel
theorem dX3_whatIs_38 : decode cX3_whatIs 38 = .ok (.ifCond .ne 8, 3) := by decide +kernel
theorem dX3_whatIs_41 : decode cX3_whatIs 41 = .ok (.bipush 6, 2) := by decide +kernel
theorem dX3_whatIs_43 : decode cX3_whatIs 43 = .ok (.goto 5, 3) := by decide +kernel
theorem dX3_whatIs_46 : decode cX3_whatIs 46 = .ok (.bipush 10, 2) := by decide +kernel
theorem dX3_whatIs_48 : decode cX3_whatIs 48 = .ok (.if_icmp .ge 103, 3) := by decide +kernel
theorem dX3_whatIs_51 : decode cX3_whatIs 51 = .ok (.iconst 1, 1) := by decide +kernel
theorem dX3_whatIs_52 : decode cX3_whatIs 52 = .ok (.istore 5, 2) := by decide +kernel
theorem dX3_whatIs_54 : decode cX3_whatIs 54 = .ok (.aload_n 0, 1) := by decide +kernel
theorem dX3_whatIs_55 : decode cX3_whatIs 55 = .ok (.getfield 9, 3) := by decide +kernel
theorem dX3_whatIs_58 : decode cX3_whatIs 58 = .ok (.aload_n 0, 1) := by decide +kernel
theorem dX3_whatIs_59 : decode cX3_whatIs 59 = .ok (.getfield 13, 3) := by decide +kernel
theorem dX3_whatIs_62 : decode cX3_whatIs 62 = .ok (.invokestatic 127, 3) := by decide +kernel
theorem dX3_whatIs_65 : decode cX3_whatIs 65 = .ok (.aload_n 0, 1) := by decide +kernel
theorem dX3_whatIs_66 : decode cX3_whatIs 66 = .ok (.getfield 13, 3) := by decide +kernel
theorem dX3_whatIs_69 : decode cX3_whatIs 69 = .ok (.iload_n 1, 1) := by decide +kernel
theorem dX3_whatIs_70 : decode cX3_whatIs 70 = .ok (.iload_n 2, 1) := by decide +kernel
theorem dX3_whatIs_71 : decode cX3_whatIs 71 = .ok (.invokestatic 50, 3) := by decide +kernel
theorem dX3_whatIs_74 : decode cX3_whatIs 74 = .ok (.iload 4, 2) := by decide +kernel
theorem dX3_whatIs_76 : decode cX3_whatIs 76 = .ok (.iastore, 1) := by decide +kernel
theorem dX3_whatIs_77 : decode cX3_whatIs 77 = .ok (.iconst 0, 1) := by decide +kernel
theorem dX3_whatIs_78 : decode cX3_whatIs 78 = .ok (.istore 6, 2) := by decide +kernel
theorem dX3_whatIs_80 : decode cX3_whatIs 80 = .ok (.iload 6, 2) := by decide +kernel
theorem dX3_whatIs_82 : decode cX3_whatIs 82 = .ok (.aload_n 0, 1) := by decide +kernel
theorem dX3_whatIs_83 : decode cX3_whatIs 83 = .ok (.getfield 199, 3) := by decide +kernel
theorem dX3_whatIs_86 : decode cX3_whatIs 86 = .ok (.if_icmp .ge 43, 3) := by decide +kernel
theorem dX3_whatIs_89 : decode cX3_whatIs 89 = .ok (.iload 5, 2) := by decide +kernel
theorem dX3_whatIs_91 : decode cX3_whatIs 91 = .ok (.aload_n 0, 1) := by decide +kernel
theorem dX3_whatIs_92 : decode cX3_whatIs 92 = .ok (.getfield 13, 3) := by decide +kernel
theorem dX3_whatIs_95 : decode cX3_whatIs 95 = .ok (.iconst 2, 1) := by decide +kernel
theorem dX3_whatIs_96 : decode cX3_whatIs 96 = .ok (.iaload, 1) := by decide +kernel
theorem dX3_whatIs_97 : decode cX3_whatIs 97 = .ok (.aload_n 0, 1) := by decide +kernel
theorem dX3_whatIs_98 : decode cX3_whatIs 98 = .ok (.getfield 25, 3) := by decide +kernel
theorem dX3_whatIs_101 : decode cX3_whatIs 101 = .ok (.iload 6, 2) := by decide +kernel
theorem dX3_whatIs_103 : decode cX3_whatIs 103 = .ok (.iaload, 1) := by decide +kernel
theorem dX3_whatIs_104 : decode cX3_whatIs 104 = .ok (.if_icmp .ne 7, 3) := by decide +kernel
theorem dX3_whatIs_107 : decode cX3_whatIs 107 = .ok (.iconst 1, 1) := by decide +kernel
theorem dX3_whatIs_108 : decode cX3_whatIs 108 = .ok (.goto 4, 3) := by decide +kernel
theorem dX3_whatIs_111 : decode cX3_whatIs 111 = .ok (.iconst 0, 1) := by decide +kernel
theorem dX3_whatIs_112 : decode cX3_whatIs 112 = .ok (.iand, 1) := by decide +kernel
theorem dX3_whatIs_113 : decode cX3_whatIs 113 = .ok (.istore 5, 2) := by decide +kernel
theorem dX3_whatIs_115 : decode cX3_whatIs 115 = .ok (.aload_n 0, 1) := by decide +kernel
theorem dX3_whatIs_116 : decode cX3_whatIs 116 = .ok (.getfield 13, 3) := by decide +kernel
theorem dX3_whatIs_119 : decode cX3_whatIs 119 = .ok (.iconst 0, 1) := by decide +kernel
theorem dX3_whatIs_120 : decode cX3_whatIs 120 = .ok (.invokestatic 82, 3) := by decide +kernel
theorem dX3_whatIs_123 : decode cX3_whatIs 123 = .ok (.iinc 6 1, 3) := by decide +kernel
theorem dX3_whatIs_126 : decode cX3_whatIs 126 = .ok (.goto (-46), 3) := by decide +kernel
theorem dX3_whatIs_129 : decode cX3_whatIs 129 = .ok (.iload_n 3, 1) := by decide +kernel
theorem dX3_whatIs_130 : decode cX3_whatIs 130 = .ok (.iload 5, 2) := by decide +kernel
theorem dX3_whatIs_132 : decode cX3_whatIs 132 = .ok (.ifCond .eq 10, 3) := by decide +kernel
theorem dX3_whatIs_135 : decode cX3_whatIs 135 = .ok (.iconst 1, 1) := by decide +kernel
theorem dX3_whatIs_136 : decode cX3_whatIs 136 = .ok (.iload 4, 2) := by decide +kernel
theorem dX3_whatIs_138 : decode cX3_whatIs 138 = .ok (.ishl, 1) := by decide +kernel
theorem dX3_whatIs_139 : decode cX3_whatIs 139 = .ok (.goto 4, 3) := by decide +kernel
theorem dX3_whatIs_142 : decode cX3_whatIs 142 = .ok (.iconst 0, 1) := by decide +kernel
theorem dX3_whatIs_143 : decode cX3_whatIs 143 = .ok (.ior, 1) := by decide +kernel
theorem dX3_whatIs_144 : decode cX3_whatIs 144 = .ok (.istore_n 3, 1) := by decide +kernel
theorem dX3_whatIs_145 : decode cX3_whatIs 145 = .ok (.iinc 4 1, 3) := by decide +kernel
theorem dX3_whatIs_148 : decode cX3_whatIs 148 = .ok (.goto (-113), 3) := by decide +kernel
theorem dX3_whatIs_151 : decode cX3_whatIs 151 = .ok (.iload_n 3, 1) := by decide +kernel
theorem dX3_whatIs_152 : decode cX3_whatIs 152 = .ok (.ireturn, 1) := by decide +kernel
set_option maxRecDepth 20000 in
theorem ggX3_row_X3_wrongBy : GoodIn wsX3_row wsX3_wrongBy := goodIn_r _ [6] (by decide +kernel) (by decide +kernel)
set_option maxRecDepth 20000 in
theorem gX3_row_X3_wrongBy : GoodIn wsX3_row (va_wsS RX3 140 yX3_wrongBy wsX3_wrongBy) := goodIn_app (goodIn_of _ (by decide +kernel)) ggX3_row_X3_wrongBy
set_option maxRecDepth 20000 in
theorem ggX3_row_X3_no : GoodIn wsX3_row wsX3_no := goodIn_r _ [10, 11, 12, 13, 14, 15, 16, 17, 18, 19, 20, 21, 22, 23, 24] (by decide +kernel) (by decide +kernel)
set_option maxRecDepth 20000 in
theorem gX3_row_X3_no : GoodIn wsX3_row (wsV RX3 36 RX3 yX3_no wsX3_no) := goodIn_app (goodIn_of _ (by decide +kernel)) ggX3_row_X3_no
theorem dX3_row_0 : decode cX3_row 0 = .ok (.iload_n 1, 1) := by decide +kernel
theorem dX3_row_1 : decode cX3_row 1 = .ok (.iconst 0, 1) := by decide +kernel
theorem dX3_row_2 : decode cX3_row 2 = .ok (.bipush 99, 2) := by decide +kernel
theorem dX3_row_4 : decode cX3_row 4 = .ok (.invokestatic 140, 3) := by decide +kernel
theorem dX3_row_7 : decode cX3_row 7 = .ok (.istore_n 2, 1) := by decide +kernel
theorem dX3_row_8 : decode cX3_row 8 = .ok (.iload_n 2, 1) := by decide +kernel
theorem dX3_row_9 : decode cX3_row 9 = .ok (.ifCond .ne 15, 3) := by decide +kernel
theorem dX3_row_12 : decode cX3_row 12 = .ok (.aload_n 0, 1) := by decide +kernel
theorem dX3_row_13 : decode cX3_row 13 = .ok (.getfield 199, 3) := by decide +kernel
theorem dX3_row_16 : decode cX3_row 16 = .ok (.bipush 16, 2) := by decide +kernel
theorem dX3_row_18 : decode cX3_row 18 = .ok (.if_icmp .ne 6, 3) := by decide +kernel
theorem dX3_row_21 : decode cX3_row 21 = .ok (.bipush (-6), 2) := by decide +kernel
theorem dX3_row_23 : decode cX3_row 23 = .ok (.istore_n 2, 1) := by decide +kernel
theorem dX3_row_24 : decode cX3_row 24 = .ok (.iload_n 2, 1) := by decide +kernel
theorem dX3_row_25 : decode cX3_row 25 = .ok (.ifCond .eq 9, 3) := by decide +kernel
theorem dX3_row_28 : decode cX3_row 28 = .ok (.aload_n 0, 1) := by decide +kernel
theorem dX3_row_29 : decode cX3_row 29 = .ok (.iload_n 2, 1) := by decide +kernel
theorem dX3_row_30 : decode cX3_row 30 = .ok (.invokevirtual 36, 3) := by decide +kernel
theorem dX3_row_33 : decode cX3_row 33 = .ok (.ireturn, 1) := by decide +kernel
theorem dX3_row_34 : decode cX3_row 34 = .ok (.aload_n 0, 1) := by decide +kernel
theorem dX3_row_35 : decode cX3_row 35 = .ok (.getfield 25, 3) := by decide +kernel
theorem dX3_row_38 : decode cX3_row 38 = .ok (.aload_n 0, 1) := by decide +kernel
theorem dX3_row_39 : decode cX3_row 39 = .ok (.getfield 199, 3) := by decide +kernel
theorem dX3_row_42 : decode cX3_row 42 = .ok (.iload_n 1, 1) := by decide +kernel
theorem dX3_row_43 : decode cX3_row 43 = .ok (.iastore, 1) := by decide +kernel
theorem dX3_row_44 : decode cX3_row 44 = .ok (.aload_n 0, 1) := by decide +kernel
theorem dX3_row_45 : decode cX3_row 45 = .ok (.dup, 1) := by decide +kernel
theorem dX3_row_46 : decode cX3_row 46 = .ok (.getfield 199, 3) := by decide +kernel
theorem dX3_row_49 : decode cX3_row 49 = .ok (.iconst 1, 1) := by decide +kernel
theorem dX3_row_50 : decode cX3_row 50 = .ok (.iadd, 1) := by decide +kernel
theorem dX3_row_51 : decode cX3_row 51 = .ok (.putfield 199, 3) := by decide +kernel
theorem dX3_row_54 : decode cX3_row 54 = .ok (.aload_n 0, 1) := by decide +kernel
theorem dX3_row_55 : decode cX3_row 55 = .ok (.getfield 199, 3) := by decide +kernel
theorem dX3_row_58 : decode cX3_row 58 = .ok (.ireturn, 1) := by decide +kernel
set_option maxRecDepth 20000 in
theorem ggX3_judge_X3_isThing : GoodIn wsX3_judge wsX3_isThing := goodIn_r _ [8, 2, 9, 10, 7, 11, 27, 28, 29, 30, 31, 32, 33, 34, 35, 36, 37, 38, 39] (by decide +kernel) (by decide +kernel)
set_option maxRecDepth 20000 in
theorem gX3_judge_X3_isThing : GoodIn wsX3_judge (wsV RX3 111 RX3 yX3_isThing wsX3_isThing) := goodIn_app (goodIn_of _ (by decide +kernel)) ggX3_judge_X3_isThing
set_option maxRecDepth 20000 in
theorem ggX3_judge_X3_weighs : GoodIn wsX3_judge wsX3_weighs := goodIn_r _ [14, 15, 16, 7, 17, 18, 19, 20, 21, 22, 23, 24, 25, 26] (by decide +kernel) (by decide +kernel)
set_option maxRecDepth 20000 in
theorem gX3_judge_X3_weighs : GoodIn wsX3_judge (va_wsS RX3 61 yX3_weighs wsX3_weighs) := goodIn_app (goodIn_of _ (by decide +kernel)) ggX3_judge_X3_weighs
theorem dX3_judge_0 : decode cX3_judge 0 = .ok (.aload_n 0, 1) := by decide +kernel
theorem dX3_judge_1 : decode cX3_judge 1 = .ok (.getfield 199, 3) := by decide +kernel
theorem dX3_judge_4 : decode cX3_judge 4 = .ok (.istore_n 1, 1) := by decide +kernel
theorem dX3_judge_5 : decode cX3_judge 5 = .ok (.aload_n 0, 1) := by decide +kernel
theorem dX3_judge_6 : decode cX3_judge 6 = .ok (.iconst 0, 1) := by decide +kernel
theorem dX3_judge_7 : decode cX3_judge 7 = .ok (.putfield 199, 3) := by decide +kernel
theorem dX3_judge_10 : decode cX3_judge 10 = .ok (.iconst 0, 1) := by decide +kernel
theorem dX3_judge_11 : decode cX3_judge 11 = .ok (.istore_n 2, 1) := by decide +kernel
theorem dX3_judge_12 : decode cX3_judge 12 = .ok (.iload_n 2, 1) := by decide +kernel
theorem dX3_judge_13 : decode cX3_judge 13 = .ok (.iload_n 1, 1) := by decide +kernel
theorem dX3_judge_14 : decode cX3_judge 14 = .ok (.if_icmp .ge 36, 3) := by decide +kernel
theorem dX3_judge_17 : decode cX3_judge 17 = .ok (.aload_n 0, 1) := by decide +kernel
theorem dX3_judge_18 : decode cX3_judge 18 = .ok (.iload_n 2, 1) := by decide +kernel
theorem dX3_judge_19 : decode cX3_judge 19 = .ok (.invokevirtual 111, 3) := by decide +kernel
theorem dX3_judge_22 : decode cX3_judge 22 = .ok (.ifCond .eq 20, 3) := by decide +kernel
theorem dX3_judge_25 : decode cX3_judge 25 = .ok (.aload_n 0, 1) := by decide +kernel
theorem dX3_judge_26 : decode cX3_judge 26 = .ok (.getfield 9, 3) := by decide +kernel
theorem dX3_judge_29 : decode cX3_judge 29 = .ok (.iload_n 2, 1) := by decide +kernel
theorem dX3_judge_30 : decode cX3_judge 30 = .ok (.invokestatic 61, 3) := by decide +kernel
theorem dX3_judge_33 : decode cX3_judge 33 = .ok (.aload_n 0, 1) := by decide +kernel
theorem dX3_judge_34 : decode cX3_judge 34 = .ok (.getfield 25, 3) := by decide +kernel
theorem dX3_judge_37 : decode cX3_judge 37 = .ok (.iload_n 2, 1) := by decide +kernel
theorem dX3_judge_38 : decode cX3_judge 38 = .ok (.iaload, 1) := by decide +kernel
theorem dX3_judge_39 : decode cX3_judge 39 = .ok (.if_icmp .eq 5, 3) := by decide +kernel
theorem dX3_judge_42 : decode cX3_judge 42 = .ok (.iload_n 2, 1) := by decide +kernel
theorem dX3_judge_43 : decode cX3_judge 43 = .ok (.ireturn, 1) := by decide +kernel
theorem dX3_judge_44 : decode cX3_judge 44 = .ok (.iinc 2 1, 3) := by decide +kernel
theorem dX3_judge_47 : decode cX3_judge 47 = .ok (.goto (-35), 3) := by decide +kernel
theorem dX3_judge_50 : decode cX3_judge 50 = .ok (.bipush (-9), 2) := by decide +kernel
theorem dX3_judge_52 : decode cX3_judge 52 = .ok (.ireturn, 1) := by decide +kernel
theorem dX3_clear_0 : decode cX3_clear 0 = .ok (.aload_n 0, 1) := by decide +kernel
theorem dX3_clear_1 : decode cX3_clear 1 = .ok (.getfield 199, 3) := by decide +kernel
theorem dX3_clear_4 : decode cX3_clear 4 = .ok (.istore_n 1, 1) := by decide +kernel
theorem dX3_clear_5 : decode cX3_clear 5 = .ok (.aload_n 0, 1) := by decide +kernel
theorem dX3_clear_6 : decode cX3_clear 6 = .ok (.iconst 0, 1) := by decide +kernel
theorem dX3_clear_7 : decode cX3_clear 7 = .ok (.putfield 199, 3) := by decide +kernel
theorem dX3_clear_10 : decode cX3_clear 10 = .ok (.iload_n 1, 1) := by decide +kernel
theorem dX3_clear_11 : decode cX3_clear 11 = .ok (.ireturn, 1) := by decide +kernel
theorem dX3_drawn_0 : decode cX3_drawn 0 = .ok (.aload_n 0, 1) := by decide +kernel
theorem dX3_drawn_1 : decode cX3_drawn 1 = .ok (.aload_n 0, 1) := by decide +kernel
theorem dX3_drawn_2 : decode cX3_drawn 2 = .ok (.getfield 202, 3) := by decide +kernel
theorem dX3_drawn_5 : decode cX3_drawn 5 = .ok (.ldc 205, 2) := by decide +kernel
theorem dX3_drawn_7 : decode cX3_drawn 7 = .ok (.imul, 1) := by decide +kernel
theorem dX3_drawn_8 : decode cX3_drawn 8 = .ok (.ldc 206, 2) := by decide +kernel
theorem dX3_drawn_10 : decode cX3_drawn 10 = .ok (.iadd, 1) := by decide +kernel
theorem dX3_drawn_11 : decode cX3_drawn 11 = .ok (.putfield 202, 3) := by decide +kernel
theorem dX3_drawn_14 : decode cX3_drawn 14 = .ok (.aload_n 0, 1) := by decide +kernel
theorem dX3_drawn_15 : decode cX3_drawn 15 = .ok (.getfield 202, 3) := by decide +kernel
theorem dX3_drawn_18 : decode cX3_drawn 18 = .ok (.ldc 207, 2) := by decide +kernel
theorem dX3_drawn_20 : decode cX3_drawn 20 = .ok (.iand, 1) := by decide +kernel
theorem dX3_drawn_21 : decode cX3_drawn 21 = .ok (.sipush 256, 3) := by decide +kernel
theorem dX3_drawn_24 : decode cX3_drawn 24 = .ok (.idiv, 1) := by decide +kernel
theorem dX3_drawn_25 : decode cX3_drawn 25 = .ok (.iload_n 1, 1) := by decide +kernel
theorem dX3_drawn_26 : decode cX3_drawn 26 = .ok (.irem, 1) := by decide +kernel
theorem dX3_drawn_27 : decode cX3_drawn 27 = .ok (.ireturn, 1) := by decide +kernel
set_option maxRecDepth 20000 in
theorem ggX3_lots_X3_no : GoodIn wsX3_lots wsX3_no := goodIn_r _ [8, 9, 65, 66, 67, 68, 69, 70, 71, 72, 73, 74, 75, 76, 77] (by decide +kernel) (by decide +kernel)
set_option maxRecDepth 20000 in
theorem gX3_lots_X3_no : GoodIn wsX3_lots (wsV RX3 36 RX3 yX3_no wsX3_no) := goodIn_app (goodIn_of _ (by decide +kernel)) ggX3_lots_X3_no
set_option maxRecDepth 20000 in
theorem ggX3_lots_X3_isIn : GoodIn wsX3_lots wsX3_isIn := goodIn_r _ [12] (by decide +kernel) (by decide +kernel)
set_option maxRecDepth 20000 in
theorem gX3_lots_X3_isIn : GoodIn wsX3_lots (va_wsS RX3 42 yX3_isIn wsX3_isIn) := goodIn_app (goodIn_of _ (by decide +kernel)) ggX3_lots_X3_isIn
set_option maxRecDepth 20000 in
theorem ggX3_lots_X3_copies : GoodIn wsX3_lots wsX3_copies := goodIn_r _ [15] (by decide +kernel) (by decide +kernel)
set_option maxRecDepth 20000 in
theorem gX3_lots_X3_copies : GoodIn wsX3_lots (va_wsS RX3 127 yX3_copies wsX3_copies) := goodIn_app (goodIn_of _ (by decide +kernel)) ggX3_lots_X3_copies
set_option maxRecDepth 20000 in
theorem ggX3_lots_X3_drawn : GoodIn wsX3_lots wsX3_drawn := goodIn_r _ [19, 1, 20, 21, 22, 65, 66, 67, 68, 69, 70, 71, 72, 73, 74, 75, 76, 77] (by decide +kernel) (by decide +kernel)
set_option maxRecDepth 20000 in
theorem gX3_lots_X3_drawn : GoodIn wsX3_lots (wsV RX3 208 RX3 yX3_drawn wsX3_drawn) := goodIn_app (goodIn_of _ (by decide +kernel)) ggX3_lots_X3_drawn
set_option maxRecDepth 20000 in
theorem ggX3_lots_X3_hangsIn : GoodIn wsX3_lots wsX3_hangsIn := goodIn_r _ [25, 26, 27, 7, 28] (by decide +kernel) (by decide +kernel)
set_option maxRecDepth 20000 in
theorem gX3_lots_X3_hangsIn : GoodIn wsX3_lots (va_wsS RX3 107 yX3_hangsIn wsX3_hangsIn) := goodIn_app (goodIn_of _ (by decide +kernel)) ggX3_lots_X3_hangsIn
set_option maxRecDepth 20000 in
theorem ggX3_lots_X3_daysOn : GoodIn wsX3_lots wsX3_daysOn := goodIn_r _ [31, 32, 33, 7, 34, 35, 36, 37, 38, 39, 40, 26, 27, 28, 41, 42, 43, 44, 45, 46, 47, 48, 49, 50, 51, 52, 53, 54, 55] (by decide +kernel) (by decide +kernel)
set_option maxRecDepth 20000 in
theorem gX3_lots_X3_daysOn : GoodIn wsX3_lots (va_wsS RX3 121 yX3_daysOn wsX3_daysOn) := goodIn_app (goodIn_of _ (by decide +kernel)) ggX3_lots_X3_daysOn
set_option maxRecDepth 20000 in
theorem ggX3_lots_X3_isAtDoor : GoodIn wsX3_lots wsX3_isAtDoor := goodIn_r _ [58, 59, 60, 7, 61, 62, 63, 64] (by decide +kernel) (by decide +kernel)
set_option maxRecDepth 20000 in
theorem gX3_lots_X3_isAtDoor : GoodIn wsX3_lots (va_wsS RX3 176 yX3_isAtDoor wsX3_isAtDoor) := goodIn_app (goodIn_of _ (by decide +kernel)) ggX3_lots_X3_isAtDoor
theorem dX3_lots_0 : decode cX3_lots 0 = .ok (.iload_n 1, 1) := by decide +kernel
theorem dX3_lots_1 : decode cX3_lots 1 = .ok (.iconst 1, 1) := by decide +kernel
theorem dX3_lots_2 : decode cX3_lots 2 = .ok (.if_icmp .ge 10, 3) := by decide +kernel
theorem dX3_lots_5 : decode cX3_lots 5 = .ok (.aload_n 0, 1) := by decide +kernel
theorem dX3_lots_6 : decode cX3_lots 6 = .ok (.bipush (-4), 2) := by decide +kernel
theorem dX3_lots_8 : decode cX3_lots 8 = .ok (.invokevirtual 36, 3) := by decide +kernel
theorem dX3_lots_11 : decode cX3_lots 11 = .ok (.ireturn, 1) := by decide +kernel
theorem dX3_lots_12 : decode cX3_lots 12 = .ok (.iload_n 1, 1) := by decide +kernel
theorem dX3_lots_13 : decode cX3_lots 13 = .ok (.bipush 20, 2) := by decide +kernel
theorem dX3_lots_15 : decode cX3_lots 15 = .ok (.if_icmp .le 10, 3) := by decide +kernel
theorem dX3_lots_18 : decode cX3_lots 18 = .ok (.aload_n 0, 1) := by decide +kernel
theorem dX3_lots_19 : decode cX3_lots 19 = .ok (.bipush (-6), 2) := by decide +kernel
theorem dX3_lots_21 : decode cX3_lots 21 = .ok (.invokevirtual 36, 3) := by decide +kernel
theorem dX3_lots_24 : decode cX3_lots 24 = .ok (.ireturn, 1) := by decide +kernel
theorem dX3_lots_25 : decode cX3_lots 25 = .ok (.iload_n 3, 1) := by decide +kernel
theorem dX3_lots_26 : decode cX3_lots 26 = .ok (.iconst 0, 1) := by decide +kernel
theorem dX3_lots_27 : decode cX3_lots 27 = .ok (.iconst 1, 1) := by decide +kernel
theorem dX3_lots_28 : decode cX3_lots 28 = .ok (.invokestatic 42, 3) := by decide +kernel
theorem dX3_lots_31 : decode cX3_lots 31 = .ok (.ifCond .ne 10, 3) := by decide +kernel
theorem dX3_lots_34 : decode cX3_lots 34 = .ok (.aload_n 0, 1) := by decide +kernel
theorem dX3_lots_35 : decode cX3_lots 35 = .ok (.bipush (-2), 2) := by decide +kernel
theorem dX3_lots_37 : decode cX3_lots 37 = .ok (.invokevirtual 36, 3) := by decide +kernel
theorem dX3_lots_40 : decode cX3_lots 40 = .ok (.ireturn, 1) := by decide +kernel
theorem dX3_lots_41 : decode cX3_lots 41 = .ok (.aload_n 0, 1) := by decide +kernel
theorem dX3_lots_42 : decode cX3_lots 42 = .ok (.iload_n 2, 1) := by decide +kernel
theorem dX3_lots_43 : decode cX3_lots 43 = .ok (.putfield 202, 3) := by decide +kernel
theorem dX3_lots_46 : decode cX3_lots 46 = .ok (.iconst 0, 1) := by decide +kernel
theorem dX3_lots_47 : decode cX3_lots 47 = .ok (.istore 4, 2) := by decide +kernel
theorem dX3_lots_49 : decode cX3_lots 49 = .ok (.iconst 0, 1) := by decide +kernel
theorem dX3_lots_50 : decode cX3_lots 50 = .ok (.istore 5, 2) := by decide +kernel
theorem dX3_lots_52 : decode cX3_lots 52 = .ok (.iload 5, 2) := by decide +kernel
theorem dX3_lots_54 : decode cX3_lots 54 = .ok (.iload_n 1, 1) := by decide +kernel
theorem dX3_lots_55 : decode cX3_lots 55 = .ok (.if_icmp .ge 124, 3) := by decide +kernel
theorem dX3_lots_58 : decode cX3_lots 58 = .ok (.aload_n 0, 1) := by decide +kernel
theorem dX3_lots_59 : decode cX3_lots 59 = .ok (.getfield 9, 3) := by decide +kernel
theorem dX3_lots_62 : decode cX3_lots 62 = .ok (.aload_n 0, 1) := by decide +kernel
theorem dX3_lots_63 : decode cX3_lots 63 = .ok (.getfield 13, 3) := by decide +kernel
theorem dX3_lots_66 : decode cX3_lots 66 = .ok (.invokestatic 127, 3) := by decide +kernel
theorem dX3_lots_69 : decode cX3_lots 69 = .ok (.iconst 0, 1) := by decide +kernel
theorem dX3_lots_70 : decode cX3_lots 70 = .ok (.istore 6, 2) := by decide +kernel
theorem dX3_lots_72 : decode cX3_lots 72 = .ok (.iload 6, 2) := by decide +kernel
theorem dX3_lots_74 : decode cX3_lots 74 = .ok (.aload_n 0, 1) := by decide +kernel
theorem dX3_lots_75 : decode cX3_lots 75 = .ok (.getfield 9, 3) := by decide +kernel
theorem dX3_lots_78 : decode cX3_lots 78 = .ok (.iconst 0, 1) := by decide +kernel
theorem dX3_lots_79 : decode cX3_lots 79 = .ok (.iaload, 1) := by decide +kernel
theorem dX3_lots_80 : decode cX3_lots 80 = .ok (.if_icmp .ge 23, 3) := by decide +kernel
theorem dX3_lots_83 : decode cX3_lots 83 = .ok (.aload_n 0, 1) := by decide +kernel
theorem dX3_lots_84 : decode cX3_lots 84 = .ok (.getfield 13, 3) := by decide +kernel
theorem dX3_lots_87 : decode cX3_lots 87 = .ok (.iload 6, 2) := by decide +kernel
theorem dX3_lots_89 : decode cX3_lots 89 = .ok (.aload_n 0, 1) := by decide +kernel
theorem dX3_lots_90 : decode cX3_lots 90 = .ok (.iconst 3, 1) := by decide +kernel
theorem dX3_lots_91 : decode cX3_lots 91 = .ok (.invokevirtual 208, 3) := by decide +kernel
theorem dX3_lots_94 : decode cX3_lots 94 = .ok (.invokestatic 107, 3) := by decide +kernel
theorem dX3_lots_97 : decode cX3_lots 97 = .ok (.iinc 6 1, 3) := by decide +kernel
theorem dX3_lots_100 : decode cX3_lots 100 = .ok (.goto (-28), 3) := by decide +kernel
theorem dX3_lots_103 : decode cX3_lots 103 = .ok (.aload_n 0, 1) := by decide +kernel
theorem dX3_lots_104 : decode cX3_lots 104 = .ok (.getfield 13, 3) := by decide +kernel
theorem dX3_lots_107 : decode cX3_lots 107 = .ok (.bipush 12, 2) := by decide +kernel
theorem dX3_lots_109 : decode cX3_lots 109 = .ok (.invokestatic 121, 3) := by decide +kernel
theorem dX3_lots_112 : decode cX3_lots 112 = .ok (.iload 4, 2) := by decide +kernel
theorem dX3_lots_114 : decode cX3_lots 114 = .ok (.iload_n 3, 1) := by decide +kernel
theorem dX3_lots_115 : decode cX3_lots 115 = .ok (.ifCond .ne 22, 3) := by decide +kernel
theorem dX3_lots_118 : decode cX3_lots 118 = .ok (.aload_n 0, 1) := by decide +kernel
theorem dX3_lots_119 : decode cX3_lots 119 = .ok (.getfield 13, 3) := by decide +kernel
theorem dX3_lots_122 : decode cX3_lots 122 = .ok (.iconst 2, 1) := by decide +kernel
theorem dX3_lots_123 : decode cX3_lots 123 = .ok (.iaload, 1) := by decide +kernel
theorem dX3_lots_124 : decode cX3_lots 124 = .ok (.bipush 10, 2) := by decide +kernel
theorem dX3_lots_126 : decode cX3_lots 126 = .ok (.if_icmp .ne 7, 3) := by decide +kernel
theorem dX3_lots_129 : decode cX3_lots 129 = .ok (.iconst 1, 1) := by decide +kernel
theorem dX3_lots_130 : decode cX3_lots 130 = .ok (.goto 40, 3) := by decide +kernel
theorem dX3_lots_133 : decode cX3_lots 133 = .ok (.iconst 0, 1) := by decide +kernel
theorem dX3_lots_134 : decode cX3_lots 134 = .ok (.goto 36, 3) := by decide +kernel
theorem dX3_lots_137 : decode cX3_lots 137 = .ok (.aload_n 0, 1) := by decide +kernel
theorem dX3_lots_138 : decode cX3_lots 138 = .ok (.getfield 13, 3) := by decide +kernel
theorem dX3_lots_141 : decode cX3_lots 141 = .ok (.iconst 0, 1) := by decide +kernel
theorem dX3_lots_142 : decode cX3_lots 142 = .ok (.invokestatic 176, 3) := by decide +kernel
theorem dX3_lots_145 : decode cX3_lots 145 = .ok (.ifCond .eq 7, 3) := by decide +kernel
theorem dX3_lots_148 : decode cX3_lots 148 = .ok (.iconst 1, 1) := by decide +kernel
theorem dX3_lots_149 : decode cX3_lots 149 = .ok (.goto 4, 3) := by decide +kernel
theorem dX3_lots_152 : decode cX3_lots 152 = .ok (.iconst 0, 1) := by decide +kernel
theorem dX3_lots_153 : decode cX3_lots 153 = .ok (.aload_n 0, 1) := by decide +kernel
theorem dX3_lots_154 : decode cX3_lots 154 = .ok (.getfield 13, 3) := by decide +kernel
theorem dX3_lots_157 : decode cX3_lots 157 = .ok (.iconst 1, 1) := by decide +kernel
theorem dX3_lots_158 : decode cX3_lots 158 = .ok (.invokestatic 176, 3) := by decide +kernel
theorem dX3_lots_161 : decode cX3_lots 161 = .ok (.ifCond .eq 7, 3) := by decide +kernel
theorem dX3_lots_164 : decode cX3_lots 164 = .ok (.iconst 1, 1) := by decide +kernel
theorem dX3_lots_165 : decode cX3_lots 165 = .ok (.goto 4, 3) := by decide +kernel
theorem dX3_lots_168 : decode cX3_lots 168 = .ok (.iconst 0, 1) := by decide +kernel
theorem dX3_lots_169 : decode cX3_lots 169 = .ok (.iadd, 1) := by decide +kernel
theorem dX3_lots_170 : decode cX3_lots 170 = .ok (.iadd, 1) := by decide +kernel
theorem dX3_lots_171 : decode cX3_lots 171 = .ok (.istore 4, 2) := by decide +kernel
theorem dX3_lots_173 : decode cX3_lots 173 = .ok (.iinc 5 1, 3) := by decide +kernel
theorem dX3_lots_176 : decode cX3_lots 176 = .ok (.goto (-124), 3) := by decide +kernel
theorem dX3_lots_179 : decode cX3_lots 179 = .ok (.iload 4, 2) := by decide +kernel
theorem dX3_lots_181 : decode cX3_lots 181 = .ok (.ireturn, 1) := by decide +kernel
set_option maxRecDepth 20000 in
theorem ggX3_image_X3_copies : GoodIn wsX3_image wsX3_copies := goodIn_r _ [7] (by decide +kernel) (by decide +kernel)
set_option maxRecDepth 20000 in
theorem gX3_image_X3_copies : GoodIn wsX3_image (va_wsS RX3 127 yX3_copies wsX3_copies) := goodIn_app (goodIn_of _ (by decide +kernel)) ggX3_image_X3_copies
theorem dX3_image_0 : decode cX3_image 0 = .ok (.aload_n 0, 1) := by decide +kernel
theorem dX3_image_1 : decode cX3_image 1 = .ok (.getfield 9, 3) := by decide +kernel
theorem dX3_image_4 : decode cX3_image 4 = .ok (.aload_n 0, 1) := by decide +kernel
theorem dX3_image_5 : decode cX3_image 5 = .ok (.getfield 16, 3) := by decide +kernel
theorem dX3_image_8 : decode cX3_image 8 = .ok (.invokestatic 127, 3) := by decide +kernel
theorem dX3_image_11 : decode cX3_image 11 = .ok (.aload_n 0, 1) := by decide +kernel
theorem dX3_image_12 : decode cX3_image 12 = .ok (.iconst 1, 1) := by decide +kernel
theorem dX3_image_13 : decode cX3_image 13 = .ok (.putfield 211, 3) := by decide +kernel
theorem dX3_image_16 : decode cX3_image 16 = .ok (.aload_n 0, 1) := by decide +kernel
theorem dX3_image_17 : decode cX3_image 17 = .ok (.getfield 9, 3) := by decide +kernel
theorem dX3_image_20 : decode cX3_image 20 = .ok (.iconst 1, 1) := by decide +kernel
theorem dX3_image_21 : decode cX3_image 21 = .ok (.iaload, 1) := by decide +kernel
theorem dX3_image_22 : decode cX3_image 22 = .ok (.ireturn, 1) := by decide +kernel
set_option maxRecDepth 20000 in
theorem ggX3_on_X3_no : GoodIn wsX3_on wsX3_no := goodIn_r _ [8, 9, 13, 14, 15, 16, 17, 18, 19, 20, 21, 22, 23, 24, 25] (by decide +kernel) (by decide +kernel)
set_option maxRecDepth 20000 in
theorem gX3_on_X3_no : GoodIn wsX3_on (wsV RX3 36 RX3 yX3_no wsX3_no) := goodIn_app (goodIn_of _ (by decide +kernel)) ggX3_on_X3_no
set_option maxRecDepth 20000 in
theorem ggX3_on_X3_copies : GoodIn wsX3_on wsX3_copies := goodIn_r _ [12] (by decide +kernel) (by decide +kernel)
set_option maxRecDepth 20000 in
theorem gX3_on_X3_copies : GoodIn wsX3_on (va_wsS RX3 127 yX3_copies wsX3_copies) := goodIn_app (goodIn_of _ (by decide +kernel)) ggX3_on_X3_copies
theorem dX3_on_0 : decode cX3_on 0 = .ok (.aload_n 0, 1) := by decide +kernel
theorem dX3_on_1 : decode cX3_on 1 = .ok (.getfield 211, 3) := by decide +kernel
theorem dX3_on_4 : decode cX3_on 4 = .ok (.ifCond .ne 10, 3) := by decide +kernel
theorem dX3_on_7 : decode cX3_on 7 = .ok (.aload_n 0, 1) := by decide +kernel
theorem dX3_on_8 : decode cX3_on 8 = .ok (.bipush (-3), 2) := by decide +kernel
theorem dX3_on_10 : decode cX3_on 10 = .ok (.invokevirtual 36, 3) := by decide +kernel
theorem dX3_on_13 : decode cX3_on 13 = .ok (.ireturn, 1) := by decide +kernel
theorem dX3_on_14 : decode cX3_on 14 = .ok (.aload_n 0, 1) := by decide +kernel
theorem dX3_on_15 : decode cX3_on 15 = .ok (.getfield 16, 3) := by decide +kernel
theorem dX3_on_18 : decode cX3_on 18 = .ok (.aload_n 0, 1) := by decide +kernel
theorem dX3_on_19 : decode cX3_on 19 = .ok (.getfield 9, 3) := by decide +kernel
theorem dX3_on_22 : decode cX3_on 22 = .ok (.invokestatic 127, 3) := by decide +kernel
theorem dX3_on_25 : decode cX3_on 25 = .ok (.aload_n 0, 1) := by decide +kernel
theorem dX3_on_26 : decode cX3_on 26 = .ok (.getfield 9, 3) := by decide +kernel
theorem dX3_on_29 : decode cX3_on 29 = .ok (.iconst 1, 1) := by decide +kernel
theorem dX3_on_30 : decode cX3_on 30 = .ok (.iaload, 1) := by decide +kernel
theorem dX3_on_31 : decode cX3_on 31 = .ok (.ireturn, 1) := by decide +kernel
set_option maxRecDepth 20000 in
theorem ggX3_count_X3_isIn : GoodIn wsX3_count wsX3_isIn := goodIn_r _ [8] (by decide +kernel) (by decide +kernel)
set_option maxRecDepth 20000 in
theorem gX3_count_X3_isIn : GoodIn wsX3_count (va_wsS RX3 42 yX3_isIn wsX3_isIn) := goodIn_app (goodIn_of _ (by decide +kernel)) ggX3_count_X3_isIn
set_option maxRecDepth 20000 in
theorem ggX3_count_X3_onSide : GoodIn wsX3_count wsX3_onSide := goodIn_r _ [12, 2, 13, 14, 7, 15, 32, 33, 34, 35, 36, 37, 38, 39, 40, 41, 42, 43, 44] (by decide +kernel) (by decide +kernel)
set_option maxRecDepth 20000 in
theorem gX3_count_X3_onSide : GoodIn wsX3_count (wsV RX3 137 RX3 yX3_onSide wsX3_onSide) := goodIn_app (goodIn_of _ (by decide +kernel)) ggX3_count_X3_onSide
set_option maxRecDepth 20000 in
theorem ggX3_count_X3_allWeigh : GoodIn wsX3_count wsX3_allWeigh := goodIn_r _ [19, 2, 20, 21, 7, 22, 23, 24, 25, 13, 14, 15, 26, 27, 28, 29, 30, 31, 32, 33, 34, 35, 36, 37, 38, 39, 40, 41, 42, 43, 44] (by decide +kernel) (by decide +kernel)
set_option maxRecDepth 20000 in
theorem gX3_count_X3_allWeigh : GoodIn wsX3_count (wsV RX3 196 RX3 yX3_allWeigh wsX3_allWeigh) := goodIn_app (goodIn_of _ (by decide +kernel)) ggX3_count_X3_allWeigh
theorem dX3_count_0 : decode cX3_count 0 = .ok (.iload_n 1, 1) := by decide +kernel
theorem dX3_count_1 : decode cX3_count 1 = .ok (.bipush 11, 2) := by decide +kernel
theorem dX3_count_3 : decode cX3_count 3 = .ok (.bipush 16, 2) := by decide +kernel
theorem dX3_count_5 : decode cX3_count 5 = .ok (.invokestatic 42, 3) := by decide +kernel
theorem dX3_count_8 : decode cX3_count 8 = .ok (.ifCond .eq 13, 3) := by decide +kernel
theorem dX3_count_11 : decode cX3_count 11 = .ok (.aload_n 0, 1) := by decide +kernel
theorem dX3_count_12 : decode cX3_count 12 = .ok (.getfield 28, 3) := by decide +kernel
theorem dX3_count_15 : decode cX3_count 15 = .ok (.iload_n 1, 1) := by decide +kernel
theorem dX3_count_16 : decode cX3_count 16 = .ok (.bipush 10, 2) := by decide +kernel
theorem dX3_count_18 : decode cX3_count 18 = .ok (.isub, 1) := by decide +kernel
theorem dX3_count_19 : decode cX3_count 19 = .ok (.iaload, 1) := by decide +kernel
theorem dX3_count_20 : decode cX3_count 20 = .ok (.ireturn, 1) := by decide +kernel
theorem dX3_count_21 : decode cX3_count 21 = .ok (.iload_n 1, 1) := by decide +kernel
theorem dX3_count_22 : decode cX3_count 22 = .ok (.tableswitch 74 0 7 #[46, 46, 46, 46, 53, 59, 64, 69], 46) := by decide +kernel
theorem dX3_count_68 : decode cX3_count 68 = .ok (.aload_n 0, 1) := by decide +kernel
theorem dX3_count_69 : decode cX3_count 69 = .ok (.getfield 9, 3) := by decide +kernel
theorem dX3_count_72 : decode cX3_count 72 = .ok (.iload_n 1, 1) := by decide +kernel
theorem dX3_count_73 : decode cX3_count 73 = .ok (.iaload, 1) := by decide +kernel
theorem dX3_count_74 : decode cX3_count 74 = .ok (.ireturn, 1) := by decide +kernel
theorem dX3_count_75 : decode cX3_count 75 = .ok (.aload_n 0, 1) := by decide +kernel
theorem dX3_count_76 : decode cX3_count 76 = .ok (.iconst 2, 1) := by decide +kernel
theorem dX3_count_77 : decode cX3_count 77 = .ok (.invokevirtual 137, 3) := by decide +kernel
theorem dX3_count_80 : decode cX3_count 80 = .ok (.ireturn, 1) := by decide +kernel
theorem dX3_count_81 : decode cX3_count 81 = .ok (.aload_n 0, 1) := by decide +kernel
theorem dX3_count_82 : decode cX3_count 82 = .ok (.invokevirtual 196, 3) := by decide +kernel
theorem dX3_count_85 : decode cX3_count 85 = .ok (.ireturn, 1) := by decide +kernel
theorem dX3_count_86 : decode cX3_count 86 = .ok (.aload_n 0, 1) := by decide +kernel
theorem dX3_count_87 : decode cX3_count 87 = .ok (.getfield 199, 3) := by decide +kernel
theorem dX3_count_90 : decode cX3_count 90 = .ok (.ireturn, 1) := by decide +kernel
theorem dX3_count_91 : decode cX3_count 91 = .ok (.aload_n 0, 1) := by decide +kernel
theorem dX3_count_92 : decode cX3_count 92 = .ok (.getfield 86, 3) := by decide +kernel
theorem dX3_count_95 : decode cX3_count 95 = .ok (.ireturn, 1) := by decide +kernel
theorem dX3_count_96 : decode cX3_count 96 = .ok (.bipush (-9), 2) := by decide +kernel
theorem dX3_count_98 : decode cX3_count 98 = .ok (.ireturn, 1) := by decide +kernel
theorem dJ11_isValidCodePoint_9a6ad_0 : decode cJ11_isValidCodePoint_9a6ad 0 = .ok (.iload_n 0, 1) := by decide +kernel
theorem dJ11_isValidCodePoint_9a6ad_1 : decode cJ11_isValidCodePoint_9a6ad 1 = .ok (.bipush 16, 2) := by decide +kernel
theorem dJ11_isValidCodePoint_9a6ad_3 : decode cJ11_isValidCodePoint_9a6ad 3 = .ok (.iushr, 1) := by decide +kernel
theorem dJ11_isValidCodePoint_9a6ad_4 : decode cJ11_isValidCodePoint_9a6ad 4 = .ok (.istore_n 1, 1) := by decide +kernel
theorem dJ11_isValidCodePoint_9a6ad_5 : decode cJ11_isValidCodePoint_9a6ad 5 = .ok (.iload_n 1, 1) := by decide +kernel
theorem dJ11_isValidCodePoint_9a6ad_6 : decode cJ11_isValidCodePoint_9a6ad 6 = .ok (.bipush 17, 2) := by decide +kernel
theorem dJ11_isValidCodePoint_9a6ad_8 : decode cJ11_isValidCodePoint_9a6ad 8 = .ok (.if_icmp .ge 7, 3) := by decide +kernel
theorem dJ11_isValidCodePoint_9a6ad_11 : decode cJ11_isValidCodePoint_9a6ad 11 = .ok (.iconst 1, 1) := by decide +kernel
theorem dJ11_isValidCodePoint_9a6ad_12 : decode cJ11_isValidCodePoint_9a6ad 12 = .ok (.goto 4, 3) := by decide +kernel
theorem dJ11_isValidCodePoint_9a6ad_15 : decode cJ11_isValidCodePoint_9a6ad 15 = .ok (.iconst 0, 1) := by decide +kernel
theorem dJ11_isValidCodePoint_9a6ad_16 : decode cJ11_isValidCodePoint_9a6ad 16 = .ok (.ireturn, 1) := by decide +kernel
theorem dJ11_highSurrogate_5068e_0 : decode cJ11_highSurrogate_5068e 0 = .ok (.iload_n 0, 1) := by decide +kernel
theorem dJ11_highSurrogate_5068e_1 : decode cJ11_highSurrogate_5068e 1 = .ok (.bipush 10, 2) := by decide +kernel
theorem dJ11_highSurrogate_5068e_3 : decode cJ11_highSurrogate_5068e 3 = .ok (.iushr, 1) := by decide +kernel
theorem dJ11_highSurrogate_5068e_4 : decode cJ11_highSurrogate_5068e 4 = .ok (.ldc 110, 2) := by decide +kernel
theorem dJ11_highSurrogate_5068e_6 : decode cJ11_highSurrogate_5068e 6 = .ok (.iadd, 1) := by decide +kernel
theorem dJ11_highSurrogate_5068e_7 : decode cJ11_highSurrogate_5068e 7 = .ok (.i2c, 1) := by decide +kernel
theorem dJ11_highSurrogate_5068e_8 : decode cJ11_highSurrogate_5068e 8 = .ok (.ireturn, 1) := by decide +kernel
theorem dJ11_lowSurrogate_5068e_0 : decode cJ11_lowSurrogate_5068e 0 = .ok (.iload_n 0, 1) := by decide +kernel
theorem dJ11_lowSurrogate_5068e_1 : decode cJ11_lowSurrogate_5068e 1 = .ok (.sipush 1023, 3) := by decide +kernel
theorem dJ11_lowSurrogate_5068e_4 : decode cJ11_lowSurrogate_5068e 4 = .ok (.iand, 1) := by decide +kernel
theorem dJ11_lowSurrogate_5068e_5 : decode cJ11_lowSurrogate_5068e 5 = .ok (.ldc 76, 2) := by decide +kernel
theorem dJ11_lowSurrogate_5068e_7 : decode cJ11_lowSurrogate_5068e 7 = .ok (.iadd, 1) := by decide +kernel
theorem dJ11_lowSurrogate_5068e_8 : decode cJ11_lowSurrogate_5068e 8 = .ok (.i2c, 1) := by decide +kernel
theorem dJ11_lowSurrogate_5068e_9 : decode cJ11_lowSurrogate_5068e 9 = .ok (.ireturn, 1) := by decide +kernel
theorem dJ6_bitCount_0f7a4_0 : decode cJ6_bitCount_0f7a4 0 = .ok (.iload_n 0, 1) := by decide +kernel
theorem dJ6_bitCount_0f7a4_1 : decode cJ6_bitCount_0f7a4 1 = .ok (.iload_n 0, 1) := by decide +kernel
theorem dJ6_bitCount_0f7a4_2 : decode cJ6_bitCount_0f7a4 2 = .ok (.iconst 1, 1) := by decide +kernel
theorem dJ6_bitCount_0f7a4_3 : decode cJ6_bitCount_0f7a4 3 = .ok (.iushr, 1) := by decide +kernel
theorem dJ6_bitCount_0f7a4_4 : decode cJ6_bitCount_0f7a4 4 = .ok (.ldc_w 265, 3) := by decide +kernel
theorem dJ6_bitCount_0f7a4_7 : decode cJ6_bitCount_0f7a4 7 = .ok (.iand, 1) := by decide +kernel
theorem dJ6_bitCount_0f7a4_8 : decode cJ6_bitCount_0f7a4 8 = .ok (.isub, 1) := by decide +kernel
theorem dJ6_bitCount_0f7a4_9 : decode cJ6_bitCount_0f7a4 9 = .ok (.istore_n 0, 1) := by decide +kernel
theorem dJ6_bitCount_0f7a4_10 : decode cJ6_bitCount_0f7a4 10 = .ok (.iload_n 0, 1) := by decide +kernel
theorem dJ6_bitCount_0f7a4_11 : decode cJ6_bitCount_0f7a4 11 = .ok (.ldc_w 266, 3) := by decide +kernel
theorem dJ6_bitCount_0f7a4_14 : decode cJ6_bitCount_0f7a4 14 = .ok (.iand, 1) := by decide +kernel
theorem dJ6_bitCount_0f7a4_15 : decode cJ6_bitCount_0f7a4 15 = .ok (.iload_n 0, 1) := by decide +kernel
theorem dJ6_bitCount_0f7a4_16 : decode cJ6_bitCount_0f7a4 16 = .ok (.iconst 2, 1) := by decide +kernel
theorem dJ6_bitCount_0f7a4_17 : decode cJ6_bitCount_0f7a4 17 = .ok (.iushr, 1) := by decide +kernel
theorem dJ6_bitCount_0f7a4_18 : decode cJ6_bitCount_0f7a4 18 = .ok (.ldc_w 266, 3) := by decide +kernel
theorem dJ6_bitCount_0f7a4_21 : decode cJ6_bitCount_0f7a4 21 = .ok (.iand, 1) := by decide +kernel
theorem dJ6_bitCount_0f7a4_22 : decode cJ6_bitCount_0f7a4 22 = .ok (.iadd, 1) := by decide +kernel
theorem dJ6_bitCount_0f7a4_23 : decode cJ6_bitCount_0f7a4 23 = .ok (.istore_n 0, 1) := by decide +kernel
theorem dJ6_bitCount_0f7a4_24 : decode cJ6_bitCount_0f7a4 24 = .ok (.iload_n 0, 1) := by decide +kernel
theorem dJ6_bitCount_0f7a4_25 : decode cJ6_bitCount_0f7a4 25 = .ok (.iload_n 0, 1) := by decide +kernel
theorem dJ6_bitCount_0f7a4_26 : decode cJ6_bitCount_0f7a4 26 = .ok (.iconst 4, 1) := by decide +kernel
theorem dJ6_bitCount_0f7a4_27 : decode cJ6_bitCount_0f7a4 27 = .ok (.iushr, 1) := by decide +kernel
theorem dJ6_bitCount_0f7a4_28 : decode cJ6_bitCount_0f7a4 28 = .ok (.iadd, 1) := by decide +kernel
theorem dJ6_bitCount_0f7a4_29 : decode cJ6_bitCount_0f7a4 29 = .ok (.ldc_w 267, 3) := by decide +kernel
theorem dJ6_bitCount_0f7a4_32 : decode cJ6_bitCount_0f7a4 32 = .ok (.iand, 1) := by decide +kernel
theorem dJ6_bitCount_0f7a4_33 : decode cJ6_bitCount_0f7a4 33 = .ok (.istore_n 0, 1) := by decide +kernel
theorem dJ6_bitCount_0f7a4_34 : decode cJ6_bitCount_0f7a4 34 = .ok (.iload_n 0, 1) := by decide +kernel
theorem dJ6_bitCount_0f7a4_35 : decode cJ6_bitCount_0f7a4 35 = .ok (.iload_n 0, 1) := by decide +kernel
theorem dJ6_bitCount_0f7a4_36 : decode cJ6_bitCount_0f7a4 36 = .ok (.bipush 8, 2) := by decide +kernel
theorem dJ6_bitCount_0f7a4_38 : decode cJ6_bitCount_0f7a4 38 = .ok (.iushr, 1) := by decide +kernel
theorem dJ6_bitCount_0f7a4_39 : decode cJ6_bitCount_0f7a4 39 = .ok (.iadd, 1) := by decide +kernel
theorem dJ6_bitCount_0f7a4_40 : decode cJ6_bitCount_0f7a4 40 = .ok (.istore_n 0, 1) := by decide +kernel
theorem dJ6_bitCount_0f7a4_41 : decode cJ6_bitCount_0f7a4 41 = .ok (.iload_n 0, 1) := by decide +kernel
theorem dJ6_bitCount_0f7a4_42 : decode cJ6_bitCount_0f7a4 42 = .ok (.iload_n 0, 1) := by decide +kernel
theorem dJ6_bitCount_0f7a4_43 : decode cJ6_bitCount_0f7a4 43 = .ok (.bipush 16, 2) := by decide +kernel
theorem dJ6_bitCount_0f7a4_45 : decode cJ6_bitCount_0f7a4 45 = .ok (.iushr, 1) := by decide +kernel
theorem dJ6_bitCount_0f7a4_46 : decode cJ6_bitCount_0f7a4 46 = .ok (.iadd, 1) := by decide +kernel
theorem dJ6_bitCount_0f7a4_47 : decode cJ6_bitCount_0f7a4 47 = .ok (.istore_n 0, 1) := by decide +kernel
theorem dJ6_bitCount_0f7a4_48 : decode cJ6_bitCount_0f7a4 48 = .ok (.iload_n 0, 1) := by decide +kernel
theorem dJ6_bitCount_0f7a4_49 : decode cJ6_bitCount_0f7a4 49 = .ok (.bipush 63, 2) := by decide +kernel
theorem dJ6_bitCount_0f7a4_51 : decode cJ6_bitCount_0f7a4 51 = .ok (.iand, 1) := by decide +kernel
theorem dJ6_bitCount_0f7a4_52 : decode cJ6_bitCount_0f7a4 52 = .ok (.ireturn, 1) := by decide +kernel
theorem dJ9_abs_0f7a4_0 : decode cJ9_abs_0f7a4 0 = .ok (.iload_n 0, 1) := by decide +kernel
theorem dJ9_abs_0f7a4_1 : decode cJ9_abs_0f7a4 1 = .ok (.ifCond .ge 8, 3) := by decide +kernel
theorem dJ9_abs_0f7a4_4 : decode cJ9_abs_0f7a4 4 = .ok (.iload_n 0, 1) := by decide +kernel
theorem dJ9_abs_0f7a4_5 : decode cJ9_abs_0f7a4 5 = .ok (.ineg, 1) := by decide +kernel
theorem dJ9_abs_0f7a4_6 : decode cJ9_abs_0f7a4 6 = .ok (.goto 4, 3) := by decide +kernel
theorem dJ9_abs_0f7a4_9 : decode cJ9_abs_0f7a4 9 = .ok (.iload_n 0, 1) := by decide +kernel
theorem dJ9_abs_0f7a4_10 : decode cJ9_abs_0f7a4 10 = .ok (.ireturn, 1) := by decide +kernel
theorem dJ9_max_7cf53_0 : decode cJ9_max_7cf53 0 = .ok (.iload_n 0, 1) := by decide +kernel
theorem dJ9_max_7cf53_1 : decode cJ9_max_7cf53 1 = .ok (.iload_n 1, 1) := by decide +kernel
theorem dJ9_max_7cf53_2 : decode cJ9_max_7cf53 2 = .ok (.if_icmp .lt 7, 3) := by decide +kernel
theorem dJ9_max_7cf53_5 : decode cJ9_max_7cf53 5 = .ok (.iload_n 0, 1) := by decide +kernel
theorem dJ9_max_7cf53_6 : decode cJ9_max_7cf53 6 = .ok (.goto 4, 3) := by decide +kernel
theorem dJ9_max_7cf53_9 : decode cJ9_max_7cf53 9 = .ok (.iload_n 1, 1) := by decide +kernel
theorem dJ9_max_7cf53_10 : decode cJ9_max_7cf53 10 = .ok (.ireturn, 1) := by decide +kernel
theorem dJ9_min_7cf53_0 : decode cJ9_min_7cf53 0 = .ok (.iload_n 0, 1) := by decide +kernel
theorem dJ9_min_7cf53_1 : decode cJ9_min_7cf53 1 = .ok (.iload_n 1, 1) := by decide +kernel
theorem dJ9_min_7cf53_2 : decode cJ9_min_7cf53 2 = .ok (.if_icmp .gt 7, 3) := by decide +kernel
theorem dJ9_min_7cf53_5 : decode cJ9_min_7cf53 5 = .ok (.iload_n 0, 1) := by decide +kernel
theorem dJ9_min_7cf53_6 : decode cJ9_min_7cf53 6 = .ok (.goto 4, 3) := by decide +kernel
theorem dJ9_min_7cf53_9 : decode cJ9_min_7cf53 9 = .ok (.iload_n 1, 1) := by decide +kernel
theorem dJ9_min_7cf53_10 : decode cJ9_min_7cf53 10 = .ok (.ireturn, 1) := by decide +kernel
set_option maxRecDepth 20000 in
theorem ggJ0_length_8abf5_J0_coder_7d493 : GoodIn wsJ0_length_8abf5 wsJ0_coder_7d493 := goodIn_r _ [6, 7, 8] (by decide +kernel) (by decide +kernel)
set_option maxRecDepth 20000 in
theorem gJ0_length_8abf5_J0_coder_7d493 : GoodIn wsJ0_length_8abf5 (wsV RJ0 335 RJ0 yJ0_coder_7d493 wsJ0_coder_7d493) := goodIn_app (goodIn_of _ (by decide +kernel)) ggJ0_length_8abf5_J0_coder_7d493
theorem dJ0_length_8abf5_0 : decode cJ0_length_8abf5 0 = .ok (.aload_n 0, 1) := by decide +kernel
theorem dJ0_length_8abf5_1 : decode cJ0_length_8abf5 1 = .ok (.getfield 9, 3) := by decide +kernel
theorem dJ0_length_8abf5_4 : decode cJ0_length_8abf5 4 = .ok (.arraylength, 1) := by decide +kernel
theorem dJ0_length_8abf5_5 : decode cJ0_length_8abf5 5 = .ok (.aload_n 0, 1) := by decide +kernel
theorem dJ0_length_8abf5_6 : decode cJ0_length_8abf5 6 = .ok (.invokevirtual 335, 3) := by decide +kernel
theorem dJ0_length_8abf5_9 : decode cJ0_length_8abf5 9 = .ok (.ishr, 1) := by decide +kernel
theorem dJ0_length_8abf5_10 : decode cJ0_length_8abf5 10 = .ok (.ireturn, 1) := by decide +kernel
set_option maxRecDepth 20000 in
theorem ggJ0_indexOf_0f7a4_J0_indexOf_7cf53 : GoodIn wsJ0_indexOf_0f7a4 wsJ0_indexOf_7cf53 := goodIn_r _ [5, 6, 7, 8, 9, 4, 10, 11, 12, 13, 14, 15, 16, 17, 18, 19, 20, 21, 22, 23, 24, 25, 26, 27, 28, 29, 30, 31, 32, 33, 34, 35, 36, 37, 38, 39, 40, 41, 42, 43, 44, 45, 46, 47, 48, 49, 50, 51, 52, 53, 54, 55, 56, 57, 58, 59, 60, 61, 62, 63, 64, 65, 66, 67, 68, 69, 70, 71, 72, 73, 74, 75, 76, 77, 78, 79, 80, 81, 82, 83, 84, 85] (by decide +kernel) (by decide +kernel)
set_option maxRecDepth 20000 in
theorem gJ0_indexOf_0f7a4_J0_indexOf_7cf53 : GoodIn wsJ0_indexOf_0f7a4 (wsV RJ0 633 RJ0 yJ0_indexOf_7cf53 wsJ0_indexOf_7cf53) := goodIn_app (goodIn_of _ (by decide +kernel)) ggJ0_indexOf_0f7a4_J0_indexOf_7cf53
theorem dJ0_indexOf_0f7a4_0 : decode cJ0_indexOf_0f7a4 0 = .ok (.aload_n 0, 1) := by decide +kernel
theorem dJ0_indexOf_0f7a4_1 : decode cJ0_indexOf_0f7a4 1 = .ok (.iload_n 1, 1) := by decide +kernel
theorem dJ0_indexOf_0f7a4_2 : decode cJ0_indexOf_0f7a4 2 = .ok (.iconst 0, 1) := by decide +kernel
theorem dJ0_indexOf_0f7a4_3 : decode cJ0_indexOf_0f7a4 3 = .ok (.invokevirtual 633, 3) := by decide +kernel
theorem dJ0_indexOf_0f7a4_6 : decode cJ0_indexOf_0f7a4 6 = .ok (.ireturn, 1) := by decide +kernel
set_option maxRecDepth 20000 in
theorem ggJ0_indexOf_7cf53_J0_isLatin1_aae02 : GoodIn wsJ0_indexOf_7cf53 wsJ0_isLatin1_aae02 := goodIn_r _ [6, 7, 8] (by decide +kernel) (by decide +kernel)
set_option maxRecDepth 20000 in
theorem gJ0_indexOf_7cf53_J0_isLatin1_aae02 : GoodIn wsJ0_indexOf_7cf53 (wsV RJ0 492 RJ0 yJ0_isLatin1_aae02 wsJ0_isLatin1_aae02) := goodIn_app (goodIn_of _ (by decide +kernel)) ggJ0_indexOf_7cf53_J0_isLatin1_aae02
set_option maxRecDepth 20000 in
theorem ggJ0_indexOf_7cf53_J0_length_8abf5 : GoodIn wsJ0_indexOf_7cf53 wsJ0_length_8abf5 := goodIn_r _ [12, 1, 13, 14, 15, 5, 16, 7, 8] (by decide +kernel) (by decide +kernel)
set_option maxRecDepth 20000 in
theorem gJ0_indexOf_7cf53_J0_length_8abf5 : GoodIn wsJ0_indexOf_7cf53 (wsV RJ0 505 RJ0 yJ0_length_8abf5 wsJ0_length_8abf5) := goodIn_app (goodIn_of _ (by decide +kernel)) ggJ0_indexOf_7cf53_J0_length_8abf5
set_option maxRecDepth 20000 in
theorem ggJ0_indexOf_7cf53_J1_indexOf_4cfef : GoodIn wsJ0_indexOf_7cf53 wsJ1_indexOf_4cfef := goodIn_r _ [20, 21, 22, 23, 24, 25, 26, 27, 28, 29, 19, 30, 31, 32, 33] (by decide +kernel) (by decide +kernel)
set_option maxRecDepth 20000 in
theorem gJ0_indexOf_7cf53_J1_indexOf_4cfef : GoodIn wsJ0_indexOf_7cf53 (va_wsS RJ0 637 yJ1_indexOf_4cfef wsJ1_indexOf_4cfef) := goodIn_app (goodIn_of _ (by decide +kernel)) ggJ0_indexOf_7cf53_J1_indexOf_4cfef
set_option maxRecDepth 20000 in
theorem ggJ0_indexOf_7cf53_J2_indexOf_4cfef : GoodIn wsJ0_indexOf_7cf53 wsJ2_indexOf_4cfef := goodIn_r _ [37, 38, 22, 23, 24, 39, 26, 27, 40, 41, 42, 36, 43, 44, 45, 46, 47, 48, 49, 50, 51, 5, 52, 53, 54, 55, 56, 57, 58, 59, 60, 61, 62, 63, 64, 65, 66, 67, 68, 69, 70, 71, 72, 73, 74, 75, 76, 77, 78, 79, 80, 81] (by decide +kernel) (by decide +kernel)
set_option maxRecDepth 20000 in
theorem gJ0_indexOf_7cf53_J2_indexOf_4cfef : GoodIn wsJ0_indexOf_7cf53 (va_wsS RJ0 640 yJ2_indexOf_4cfef wsJ2_indexOf_4cfef) := goodIn_app (goodIn_of _ (by decide +kernel)) ggJ0_indexOf_7cf53_J2_indexOf_4cfef
theorem dJ0_indexOf_7cf53_0 : decode cJ0_indexOf_7cf53 0 = .ok (.aload_n 0, 1) := by decide +kernel
theorem dJ0_indexOf_7cf53_1 : decode cJ0_indexOf_7cf53 1 = .ok (.invokevirtual 492, 3) := by decide +kernel
theorem dJ0_indexOf_7cf53_4 : decode cJ0_indexOf_7cf53 4 = .ok (.ifCond .eq 19, 3) := by decide +kernel
theorem dJ0_indexOf_7cf53_7 : decode cJ0_indexOf_7cf53 7 = .ok (.aload_n 0, 1) := by decide +kernel
theorem dJ0_indexOf_7cf53_8 : decode cJ0_indexOf_7cf53 8 = .ok (.getfield 9, 3) := by decide +kernel
theorem dJ0_indexOf_7cf53_11 : decode cJ0_indexOf_7cf53 11 = .ok (.iload_n 1, 1) := by decide +kernel
theorem dJ0_indexOf_7cf53_12 : decode cJ0_indexOf_7cf53 12 = .ok (.iload_n 2, 1) := by decide +kernel
theorem dJ0_indexOf_7cf53_13 : decode cJ0_indexOf_7cf53 13 = .ok (.aload_n 0, 1) := by decide +kernel
theorem dJ0_indexOf_7cf53_14 : decode cJ0_indexOf_7cf53 14 = .ok (.invokevirtual 505, 3) := by decide +kernel
theorem dJ0_indexOf_7cf53_17 : decode cJ0_indexOf_7cf53 17 = .ok (.invokestatic 637, 3) := by decide +kernel
theorem dJ0_indexOf_7cf53_20 : decode cJ0_indexOf_7cf53 20 = .ok (.goto 16, 3) := by decide +kernel
theorem dJ0_indexOf_7cf53_23 : decode cJ0_indexOf_7cf53 23 = .ok (.aload_n 0, 1) := by decide +kernel
theorem dJ0_indexOf_7cf53_24 : decode cJ0_indexOf_7cf53 24 = .ok (.getfield 9, 3) := by decide +kernel
theorem dJ0_indexOf_7cf53_27 : decode cJ0_indexOf_7cf53 27 = .ok (.iload_n 1, 1) := by decide +kernel
theorem dJ0_indexOf_7cf53_28 : decode cJ0_indexOf_7cf53 28 = .ok (.iload_n 2, 1) := by decide +kernel
theorem dJ0_indexOf_7cf53_29 : decode cJ0_indexOf_7cf53 29 = .ok (.aload_n 0, 1) := by decide +kernel
theorem dJ0_indexOf_7cf53_30 : decode cJ0_indexOf_7cf53 30 = .ok (.invokevirtual 505, 3) := by decide +kernel
theorem dJ0_indexOf_7cf53_33 : decode cJ0_indexOf_7cf53 33 = .ok (.invokestatic 640, 3) := by decide +kernel
theorem dJ0_indexOf_7cf53_36 : decode cJ0_indexOf_7cf53 36 = .ok (.ireturn, 1) := by decide +kernel
theorem dJ0_coder_7d493_0 : decode cJ0_coder_7d493 0 = .ok (.getstatic 38, 3) := by decide +kernel
theorem dJ0_coder_7d493_3 : decode cJ0_coder_7d493 3 = .ok (.ifCond .eq 10, 3) := by decide +kernel
theorem dJ0_coder_7d493_6 : decode cJ0_coder_7d493 6 = .ok (.aload_n 0, 1) := by decide +kernel
theorem dJ0_coder_7d493_7 : decode cJ0_coder_7d493 7 = .ok (.getfield 15, 3) := by decide +kernel
theorem dJ0_coder_7d493_10 : decode cJ0_coder_7d493 10 = .ok (.goto 4, 3) := by decide +kernel
theorem dJ0_coder_7d493_13 : decode cJ0_coder_7d493 13 = .ok (.iconst 1, 1) := by decide +kernel
theorem dJ0_coder_7d493_14 : decode cJ0_coder_7d493 14 = .ok (.ireturn, 1) := by decide +kernel
theorem dJ0_isLatin1_aae02_0 : decode cJ0_isLatin1_aae02 0 = .ok (.getstatic 38, 3) := by decide +kernel
theorem dJ0_isLatin1_aae02_3 : decode cJ0_isLatin1_aae02 3 = .ok (.ifCond .eq 14, 3) := by decide +kernel
theorem dJ0_isLatin1_aae02_6 : decode cJ0_isLatin1_aae02 6 = .ok (.aload_n 0, 1) := by decide +kernel
theorem dJ0_isLatin1_aae02_7 : decode cJ0_isLatin1_aae02 7 = .ok (.getfield 15, 3) := by decide +kernel
theorem dJ0_isLatin1_aae02_10 : decode cJ0_isLatin1_aae02 10 = .ok (.ifCond .ne 7, 3) := by decide +kernel
theorem dJ0_isLatin1_aae02_13 : decode cJ0_isLatin1_aae02 13 = .ok (.iconst 1, 1) := by decide +kernel
theorem dJ0_isLatin1_aae02_14 : decode cJ0_isLatin1_aae02 14 = .ok (.goto 4, 3) := by decide +kernel
theorem dJ0_isLatin1_aae02_17 : decode cJ0_isLatin1_aae02 17 = .ok (.iconst 0, 1) := by decide +kernel
theorem dJ0_isLatin1_aae02_18 : decode cJ0_isLatin1_aae02 18 = .ok (.ireturn, 1) := by decide +kernel
set_option maxRecDepth 20000 in
theorem ggJ0_checkBoundsBeginEnd_23922_J3_checkFromToIndex_8c36e : GoodIn wsJ0_checkBoundsBeginEnd_23922 wsJ3_checkFromToIndex_8c36e := goodIn_r _ [5] (by decide +kernel) (by decide +kernel)
set_option maxRecDepth 20000 in
theorem gJ0_checkBoundsBeginEnd_23922_J3_checkFromToIndex_8c36e : GoodIn wsJ0_checkBoundsBeginEnd_23922 (va_wsS RJ0 1062 yJ3_checkFromToIndex_8c36e wsJ3_checkFromToIndex_8c36e) := goodIn_app (goodIn_of _ (by decide +kernel)) ggJ0_checkBoundsBeginEnd_23922_J3_checkFromToIndex_8c36e
theorem dJ0_checkBoundsBeginEnd_23922_0 : decode cJ0_checkBoundsBeginEnd_23922 0 = .ok (.iload_n 0, 1) := by decide +kernel
theorem dJ0_checkBoundsBeginEnd_23922_1 : decode cJ0_checkBoundsBeginEnd_23922 1 = .ok (.iload_n 1, 1) := by decide +kernel
theorem dJ0_checkBoundsBeginEnd_23922_2 : decode cJ0_checkBoundsBeginEnd_23922 2 = .ok (.iload_n 2, 1) := by decide +kernel
theorem dJ0_checkBoundsBeginEnd_23922_3 : decode cJ0_checkBoundsBeginEnd_23922 3 = .ok (.getstatic 1053, 3) := by decide +kernel
theorem dJ0_checkBoundsBeginEnd_23922_6 : decode cJ0_checkBoundsBeginEnd_23922 6 = .ok (.invokestatic 1062, 3) := by decide +kernel
theorem dJ0_checkBoundsBeginEnd_23922_9 : decode cJ0_checkBoundsBeginEnd_23922 9 = .ok (.pop, 1) := by decide +kernel
theorem dJ0_checkBoundsBeginEnd_23922_10 : decode cJ0_checkBoundsBeginEnd_23922 10 = .ok (.return_, 1) := by decide +kernel
theorem dJ1_canEncode_9a6ad_0 : decode cJ1_canEncode_9a6ad 0 = .ok (.iload_n 0, 1) := by decide +kernel
theorem dJ1_canEncode_9a6ad_1 : decode cJ1_canEncode_9a6ad 1 = .ok (.ifCond .lt 14, 3) := by decide +kernel
theorem dJ1_canEncode_9a6ad_4 : decode cJ1_canEncode_9a6ad 4 = .ok (.iload_n 0, 1) := by decide +kernel
theorem dJ1_canEncode_9a6ad_5 : decode cJ1_canEncode_9a6ad 5 = .ok (.sipush 255, 3) := by decide +kernel
theorem dJ1_canEncode_9a6ad_8 : decode cJ1_canEncode_9a6ad 8 = .ok (.if_icmp .gt 7, 3) := by decide +kernel
theorem dJ1_canEncode_9a6ad_11 : decode cJ1_canEncode_9a6ad 11 = .ok (.iconst 1, 1) := by decide +kernel
theorem dJ1_canEncode_9a6ad_12 : decode cJ1_canEncode_9a6ad 12 = .ok (.goto 4, 3) := by decide +kernel
theorem dJ1_canEncode_9a6ad_15 : decode cJ1_canEncode_9a6ad 15 = .ok (.iconst 0, 1) := by decide +kernel
theorem dJ1_canEncode_9a6ad_16 : decode cJ1_canEncode_9a6ad 16 = .ok (.ireturn, 1) := by decide +kernel
set_option maxRecDepth 20000 in
theorem ggJ1_indexOf_4cfef_J1_canEncode_9a6ad : GoodIn wsJ1_indexOf_4cfef wsJ1_canEncode_9a6ad := goodIn_r _ [11] (by decide +kernel) (by decide +kernel)
set_option maxRecDepth 20000 in
theorem gJ1_indexOf_4cfef_J1_canEncode_9a6ad : GoodIn wsJ1_indexOf_4cfef (va_wsS RJ1 88 yJ1_canEncode_9a6ad wsJ1_canEncode_9a6ad) := goodIn_app (goodIn_of _ (by decide +kernel)) ggJ1_indexOf_4cfef_J1_canEncode_9a6ad
set_option maxRecDepth 20000 in
theorem ggJ1_indexOf_4cfef_J1_indexOfChar_4cfef : GoodIn wsJ1_indexOf_4cfef wsJ1_indexOfChar_4cfef := goodIn_r _ [14] (by decide +kernel) (by decide +kernel)
set_option maxRecDepth 20000 in
theorem gJ1_indexOf_4cfef_J1_indexOfChar_4cfef : GoodIn wsJ1_indexOf_4cfef (va_wsS RJ1 95 yJ1_indexOfChar_4cfef wsJ1_indexOfChar_4cfef) := goodIn_app (goodIn_of _ (by decide +kernel)) ggJ1_indexOf_4cfef_J1_indexOfChar_4cfef
theorem dJ1_indexOf_4cfef_0 : decode cJ1_indexOf_4cfef 0 = .ok (.iload_n 1, 1) := by decide +kernel
theorem dJ1_indexOf_4cfef_1 : decode cJ1_indexOf_4cfef 1 = .ok (.invokestatic 88, 3) := by decide +kernel
theorem dJ1_indexOf_4cfef_4 : decode cJ1_indexOf_4cfef 4 = .ok (.ifCond .ne 5, 3) := by decide +kernel
theorem dJ1_indexOf_4cfef_7 : decode cJ1_indexOf_4cfef 7 = .ok (.iconst (-1), 1) := by decide +kernel
theorem dJ1_indexOf_4cfef_8 : decode cJ1_indexOf_4cfef 8 = .ok (.ireturn, 1) := by decide +kernel
theorem dJ1_indexOf_4cfef_9 : decode cJ1_indexOf_4cfef 9 = .ok (.iload_n 2, 1) := by decide +kernel
theorem dJ1_indexOf_4cfef_10 : decode cJ1_indexOf_4cfef 10 = .ok (.iconst 0, 1) := by decide +kernel
theorem dJ1_indexOf_4cfef_11 : decode cJ1_indexOf_4cfef 11 = .ok (.invokestatic 92, 3) := by decide +kernel
theorem dJ1_indexOf_4cfef_14 : decode cJ1_indexOf_4cfef 14 = .ok (.istore_n 2, 1) := by decide +kernel
theorem dJ1_indexOf_4cfef_15 : decode cJ1_indexOf_4cfef 15 = .ok (.iload_n 3, 1) := by decide +kernel
theorem dJ1_indexOf_4cfef_16 : decode cJ1_indexOf_4cfef 16 = .ok (.aload_n 0, 1) := by decide +kernel
theorem dJ1_indexOf_4cfef_17 : decode cJ1_indexOf_4cfef 17 = .ok (.arraylength, 1) := by decide +kernel
theorem dJ1_indexOf_4cfef_18 : decode cJ1_indexOf_4cfef 18 = .ok (.invokestatic 38, 3) := by decide +kernel
theorem dJ1_indexOf_4cfef_21 : decode cJ1_indexOf_4cfef 21 = .ok (.istore_n 3, 1) := by decide +kernel
theorem dJ1_indexOf_4cfef_22 : decode cJ1_indexOf_4cfef 22 = .ok (.iload_n 2, 1) := by decide +kernel
theorem dJ1_indexOf_4cfef_23 : decode cJ1_indexOf_4cfef 23 = .ok (.iload_n 3, 1) := by decide +kernel
theorem dJ1_indexOf_4cfef_24 : decode cJ1_indexOf_4cfef 24 = .ok (.if_icmp .lt 5, 3) := by decide +kernel
theorem dJ1_indexOf_4cfef_27 : decode cJ1_indexOf_4cfef 27 = .ok (.iconst (-1), 1) := by decide +kernel
theorem dJ1_indexOf_4cfef_28 : decode cJ1_indexOf_4cfef 28 = .ok (.ireturn, 1) := by decide +kernel
theorem dJ1_indexOf_4cfef_29 : decode cJ1_indexOf_4cfef 29 = .ok (.aload_n 0, 1) := by decide +kernel
theorem dJ1_indexOf_4cfef_30 : decode cJ1_indexOf_4cfef 30 = .ok (.iload_n 1, 1) := by decide +kernel
theorem dJ1_indexOf_4cfef_31 : decode cJ1_indexOf_4cfef 31 = .ok (.iload_n 2, 1) := by decide +kernel
theorem dJ1_indexOf_4cfef_32 : decode cJ1_indexOf_4cfef 32 = .ok (.iload_n 3, 1) := by decide +kernel
theorem dJ1_indexOf_4cfef_33 : decode cJ1_indexOf_4cfef 33 = .ok (.invokestatic 95, 3) := by decide +kernel
theorem dJ1_indexOf_4cfef_36 : decode cJ1_indexOf_4cfef 36 = .ok (.ireturn, 1) := by decide +kernel
theorem dJ1_indexOfChar_4cfef_0 : decode cJ1_indexOfChar_4cfef 0 = .ok (.iload_n 1, 1) := by decide +kernel
theorem dJ1_indexOfChar_4cfef_1 : decode cJ1_indexOfChar_4cfef 1 = .ok (.i2b, 1) := by decide +kernel
theorem dJ1_indexOfChar_4cfef_2 : decode cJ1_indexOfChar_4cfef 2 = .ok (.istore 4, 2) := by decide +kernel
theorem dJ1_indexOfChar_4cfef_4 : decode cJ1_indexOfChar_4cfef 4 = .ok (.iload_n 2, 1) := by decide +kernel
theorem dJ1_indexOfChar_4cfef_5 : decode cJ1_indexOfChar_4cfef 5 = .ok (.istore 5, 2) := by decide +kernel
theorem dJ1_indexOfChar_4cfef_7 : decode cJ1_indexOfChar_4cfef 7 = .ok (.iload 5, 2) := by decide +kernel
theorem dJ1_indexOfChar_4cfef_9 : decode cJ1_indexOfChar_4cfef 9 = .ok (.iload_n 3, 1) := by decide +kernel
theorem dJ1_indexOfChar_4cfef_10 : decode cJ1_indexOfChar_4cfef 10 = .ok (.if_icmp .ge 21, 3) := by decide +kernel
theorem dJ1_indexOfChar_4cfef_13 : decode cJ1_indexOfChar_4cfef 13 = .ok (.aload_n 0, 1) := by decide +kernel
theorem dJ1_indexOfChar_4cfef_14 : decode cJ1_indexOfChar_4cfef 14 = .ok (.iload 5, 2) := by decide +kernel
theorem dJ1_indexOfChar_4cfef_16 : decode cJ1_indexOfChar_4cfef 16 = .ok (.baload, 1) := by decide +kernel
theorem dJ1_indexOfChar_4cfef_17 : decode cJ1_indexOfChar_4cfef 17 = .ok (.iload 4, 2) := by decide +kernel
theorem dJ1_indexOfChar_4cfef_19 : decode cJ1_indexOfChar_4cfef 19 = .ok (.if_icmp .ne 6, 3) := by decide +kernel
theorem dJ1_indexOfChar_4cfef_22 : decode cJ1_indexOfChar_4cfef 22 = .ok (.iload 5, 2) := by decide +kernel
theorem dJ1_indexOfChar_4cfef_24 : decode cJ1_indexOfChar_4cfef 24 = .ok (.ireturn, 1) := by decide +kernel
theorem dJ1_indexOfChar_4cfef_25 : decode cJ1_indexOfChar_4cfef 25 = .ok (.iinc 5 1, 3) := by decide +kernel
theorem dJ1_indexOfChar_4cfef_28 : decode cJ1_indexOfChar_4cfef 28 = .ok (.goto (-21), 3) := by decide +kernel
theorem dJ1_indexOfChar_4cfef_31 : decode cJ1_indexOfChar_4cfef 31 = .ok (.iconst (-1), 1) := by decide +kernel
theorem dJ1_indexOfChar_4cfef_32 : decode cJ1_indexOfChar_4cfef 32 = .ok (.ireturn, 1) := by decide +kernel
set_option maxRecDepth 20000 in
theorem ggJ2_getChar_3b067_J2_length_9d52b : GoodIn wsJ2_getChar_3b067 wsJ2_length_9d52b := goodIn_r _ [7] (by decide +kernel) (by decide +kernel)
set_option maxRecDepth 20000 in
theorem gJ2_getChar_3b067_J2_length_9d52b : GoodIn wsJ2_getChar_3b067 (va_wsS RJ2 48 yJ2_length_9d52b wsJ2_length_9d52b) := goodIn_app (goodIn_of _ (by decide +kernel)) ggJ2_getChar_3b067_J2_length_9d52b
theorem dJ2_getChar_3b067_0 : decode cJ2_getChar_3b067 0 = .ok (.getstatic 44, 3) := by decide +kernel
theorem dJ2_getChar_3b067_3 : decode cJ2_getChar_3b067 3 = .ok (.ifCond .ne 25, 3) := by decide +kernel
theorem dJ2_getChar_3b067_6 : decode cJ2_getChar_3b067 6 = .ok (.iload_n 1, 1) := by decide +kernel
theorem dJ2_getChar_3b067_7 : decode cJ2_getChar_3b067 7 = .ok (.ifCond .lt 11, 3) := by decide +kernel
theorem dJ2_getChar_3b067_10 : decode cJ2_getChar_3b067 10 = .ok (.iload_n 1, 1) := by decide +kernel
theorem dJ2_getChar_3b067_11 : decode cJ2_getChar_3b067 11 = .ok (.aload_n 0, 1) := by decide +kernel
theorem dJ2_getChar_3b067_12 : decode cJ2_getChar_3b067 12 = .ok (.invokestatic 48, 3) := by decide +kernel
theorem dJ2_getChar_3b067_15 : decode cJ2_getChar_3b067 15 = .ok (.if_icmp .lt 13, 3) := by decide +kernel
theorem dJ2_getChar_3b067_18 : decode cJ2_getChar_3b067 18 = .ok (.new 52, 3) := by decide +kernel
theorem dJ2_getChar_3b067_21 : decode cJ2_getChar_3b067 21 = .ok (.dup, 1) := by decide +kernel
theorem dJ2_getChar_3b067_22 : decode cJ2_getChar_3b067 22 = .ok (.ldc 54, 2) := by decide +kernel
theorem dJ2_getChar_3b067_24 : decode cJ2_getChar_3b067 24 = .ok (.invokespecial 56, 3) := by decide +kernel
theorem dJ2_getChar_3b067_27 : decode cJ2_getChar_3b067 27 = .ok (.athrow, 1) := by decide +kernel
theorem dJ2_getChar_3b067_28 : decode cJ2_getChar_3b067 28 = .ok (.iload_n 1, 1) := by decide +kernel
theorem dJ2_getChar_3b067_29 : decode cJ2_getChar_3b067 29 = .ok (.iconst 1, 1) := by decide +kernel
theorem dJ2_getChar_3b067_30 : decode cJ2_getChar_3b067 30 = .ok (.ishl, 1) := by decide +kernel
theorem dJ2_getChar_3b067_31 : decode cJ2_getChar_3b067 31 = .ok (.istore_n 1, 1) := by decide +kernel
theorem dJ2_getChar_3b067_32 : decode cJ2_getChar_3b067 32 = .ok (.aload_n 0, 1) := by decide +kernel
theorem dJ2_getChar_3b067_33 : decode cJ2_getChar_3b067 33 = .ok (.iload_n 1, 1) := by decide +kernel
theorem dJ2_getChar_3b067_34 : decode cJ2_getChar_3b067 34 = .ok (.iinc 1 1, 3) := by decide +kernel
theorem dJ2_getChar_3b067_37 : decode cJ2_getChar_3b067 37 = .ok (.baload, 1) := by decide +kernel
theorem dJ2_getChar_3b067_38 : decode cJ2_getChar_3b067 38 = .ok (.sipush 255, 3) := by decide +kernel
theorem dJ2_getChar_3b067_41 : decode cJ2_getChar_3b067 41 = .ok (.iand, 1) := by decide +kernel
theorem dJ2_getChar_3b067_42 : decode cJ2_getChar_3b067 42 = .ok (.getstatic 59, 3) := by decide +kernel
theorem dJ2_getChar_3b067_45 : decode cJ2_getChar_3b067 45 = .ok (.ishl, 1) := by decide +kernel
theorem dJ2_getChar_3b067_46 : decode cJ2_getChar_3b067 46 = .ok (.aload_n 0, 1) := by decide +kernel
theorem dJ2_getChar_3b067_47 : decode cJ2_getChar_3b067 47 = .ok (.iload_n 1, 1) := by decide +kernel
theorem dJ2_getChar_3b067_48 : decode cJ2_getChar_3b067 48 = .ok (.baload, 1) := by decide +kernel
theorem dJ2_getChar_3b067_49 : decode cJ2_getChar_3b067 49 = .ok (.sipush 255, 3) := by decide +kernel
theorem dJ2_getChar_3b067_52 : decode cJ2_getChar_3b067 52 = .ok (.iand, 1) := by decide +kernel
theorem dJ2_getChar_3b067_53 : decode cJ2_getChar_3b067 53 = .ok (.getstatic 63, 3) := by decide +kernel
theorem dJ2_getChar_3b067_56 : decode cJ2_getChar_3b067 56 = .ok (.ishl, 1) := by decide +kernel
theorem dJ2_getChar_3b067_57 : decode cJ2_getChar_3b067 57 = .ok (.ior, 1) := by decide +kernel
theorem dJ2_getChar_3b067_58 : decode cJ2_getChar_3b067 58 = .ok (.i2c, 1) := by decide +kernel
theorem dJ2_getChar_3b067_59 : decode cJ2_getChar_3b067 59 = .ok (.ireturn, 1) := by decide +kernel
theorem dJ2_length_9d52b_0 : decode cJ2_length_9d52b 0 = .ok (.aload_n 0, 1) := by decide +kernel
theorem dJ2_length_9d52b_1 : decode cJ2_length_9d52b 1 = .ok (.arraylength, 1) := by decide +kernel
theorem dJ2_length_9d52b_2 : decode cJ2_length_9d52b 2 = .ok (.iconst 1, 1) := by decide +kernel
theorem dJ2_length_9d52b_3 : decode cJ2_length_9d52b 3 = .ok (.ishr, 1) := by decide +kernel
theorem dJ2_length_9d52b_4 : decode cJ2_length_9d52b 4 = .ok (.ireturn, 1) := by decide +kernel
set_option maxRecDepth 20000 in
theorem ggJ2_indexOf_4cfef_J2_indexOfChar_4cfef : GoodIn wsJ2_indexOf_4cfef wsJ2_indexOfChar_4cfef := goodIn_r _ [12, 13, 14, 11, 15, 16, 17, 18, 19, 20, 21, 22, 23, 24, 25, 26, 27, 28, 29, 30, 31, 32, 33, 34, 35, 36] (by decide +kernel) (by decide +kernel)
set_option maxRecDepth 20000 in
theorem gJ2_indexOf_4cfef_J2_indexOfChar_4cfef : GoodIn wsJ2_indexOf_4cfef (va_wsS RJ2 228 yJ2_indexOfChar_4cfef wsJ2_indexOfChar_4cfef) := goodIn_app (goodIn_of _ (by decide +kernel)) ggJ2_indexOf_4cfef_J2_indexOfChar_4cfef
set_option maxRecDepth 20000 in
theorem ggJ2_indexOf_4cfef_J2_indexOfSupplementary_4cfef : GoodIn wsJ2_indexOf_4cfef wsJ2_indexOfSupplementary_4cfef := goodIn_r _ [39, 40, 41, 42, 43, 44, 45, 46, 47, 48, 49, 50, 51, 13, 14, 11, 15, 16, 17, 18, 19, 20, 21, 22, 23, 24, 25, 26, 27, 31, 32, 33, 34, 35, 36] (by decide +kernel) (by decide +kernel)
set_option maxRecDepth 20000 in
theorem gJ2_indexOf_4cfef_J2_indexOfSupplementary_4cfef : GoodIn wsJ2_indexOf_4cfef (va_wsS RJ2 232 yJ2_indexOfSupplementary_4cfef wsJ2_indexOfSupplementary_4cfef) := goodIn_app (goodIn_of _ (by decide +kernel)) ggJ2_indexOf_4cfef_J2_indexOfSupplementary_4cfef
theorem dJ2_indexOf_4cfef_0 : decode cJ2_indexOf_4cfef 0 = .ok (.iload_n 2, 1) := by decide +kernel
theorem dJ2_indexOf_4cfef_1 : decode cJ2_indexOf_4cfef 1 = .ok (.iconst 0, 1) := by decide +kernel
theorem dJ2_indexOf_4cfef_2 : decode cJ2_indexOf_4cfef 2 = .ok (.invokestatic 224, 3) := by decide +kernel
theorem dJ2_indexOf_4cfef_5 : decode cJ2_indexOf_4cfef 5 = .ok (.istore_n 2, 1) := by decide +kernel
theorem dJ2_indexOf_4cfef_6 : decode cJ2_indexOf_4cfef 6 = .ok (.iload_n 3, 1) := by decide +kernel
theorem dJ2_indexOf_4cfef_7 : decode cJ2_indexOf_4cfef 7 = .ok (.aload_n 0, 1) := by decide +kernel
theorem dJ2_indexOf_4cfef_8 : decode cJ2_indexOf_4cfef 8 = .ok (.arraylength, 1) := by decide +kernel
theorem dJ2_indexOf_4cfef_9 : decode cJ2_indexOf_4cfef 9 = .ok (.iconst 1, 1) := by decide +kernel
theorem dJ2_indexOf_4cfef_10 : decode cJ2_indexOf_4cfef 10 = .ok (.ishr, 1) := by decide +kernel
theorem dJ2_indexOf_4cfef_11 : decode cJ2_indexOf_4cfef 11 = .ok (.invokestatic 183, 3) := by decide +kernel
theorem dJ2_indexOf_4cfef_14 : decode cJ2_indexOf_4cfef 14 = .ok (.istore_n 3, 1) := by decide +kernel
theorem dJ2_indexOf_4cfef_15 : decode cJ2_indexOf_4cfef 15 = .ok (.iload_n 2, 1) := by decide +kernel
theorem dJ2_indexOf_4cfef_16 : decode cJ2_indexOf_4cfef 16 = .ok (.iload_n 3, 1) := by decide +kernel
theorem dJ2_indexOf_4cfef_17 : decode cJ2_indexOf_4cfef 17 = .ok (.if_icmp .lt 5, 3) := by decide +kernel
theorem dJ2_indexOf_4cfef_20 : decode cJ2_indexOf_4cfef 20 = .ok (.iconst (-1), 1) := by decide +kernel
theorem dJ2_indexOf_4cfef_21 : decode cJ2_indexOf_4cfef 21 = .ok (.ireturn, 1) := by decide +kernel
theorem dJ2_indexOf_4cfef_22 : decode cJ2_indexOf_4cfef 22 = .ok (.iload_n 1, 1) := by decide +kernel
theorem dJ2_indexOf_4cfef_23 : decode cJ2_indexOf_4cfef 23 = .ok (.ldc 227, 2) := by decide +kernel
theorem dJ2_indexOf_4cfef_25 : decode cJ2_indexOf_4cfef 25 = .ok (.if_icmp .ge 11, 3) := by decide +kernel
theorem dJ2_indexOf_4cfef_28 : decode cJ2_indexOf_4cfef 28 = .ok (.aload_n 0, 1) := by decide +kernel
theorem dJ2_indexOf_4cfef_29 : decode cJ2_indexOf_4cfef 29 = .ok (.iload_n 1, 1) := by decide +kernel
theorem dJ2_indexOf_4cfef_30 : decode cJ2_indexOf_4cfef 30 = .ok (.iload_n 2, 1) := by decide +kernel
theorem dJ2_indexOf_4cfef_31 : decode cJ2_indexOf_4cfef 31 = .ok (.iload_n 3, 1) := by decide +kernel
theorem dJ2_indexOf_4cfef_32 : decode cJ2_indexOf_4cfef 32 = .ok (.invokestatic 228, 3) := by decide +kernel
theorem dJ2_indexOf_4cfef_35 : decode cJ2_indexOf_4cfef 35 = .ok (.ireturn, 1) := by decide +kernel
theorem dJ2_indexOf_4cfef_36 : decode cJ2_indexOf_4cfef 36 = .ok (.aload_n 0, 1) := by decide +kernel
theorem dJ2_indexOf_4cfef_37 : decode cJ2_indexOf_4cfef 37 = .ok (.iload_n 1, 1) := by decide +kernel
theorem dJ2_indexOf_4cfef_38 : decode cJ2_indexOf_4cfef 38 = .ok (.iload_n 2, 1) := by decide +kernel
theorem dJ2_indexOf_4cfef_39 : decode cJ2_indexOf_4cfef 39 = .ok (.iload_n 3, 1) := by decide +kernel
theorem dJ2_indexOf_4cfef_40 : decode cJ2_indexOf_4cfef 40 = .ok (.invokestatic 232, 3) := by decide +kernel
theorem dJ2_indexOf_4cfef_43 : decode cJ2_indexOf_4cfef 43 = .ok (.ireturn, 1) := by decide +kernel
set_option maxRecDepth 20000 in
theorem ggJ2_indexOfChar_4cfef_J2_checkBoundsBeginEnd_d044e : GoodIn wsJ2_indexOfChar_4cfef wsJ2_checkBoundsBeginEnd_d044e := goodIn_r _ [4, 5, 6, 3, 7, 8, 9, 10, 11, 12, 13, 14, 15, 16] (by decide +kernel) (by decide +kernel)
set_option maxRecDepth 20000 in
theorem gJ2_indexOfChar_4cfef_J2_checkBoundsBeginEnd_d044e : GoodIn wsJ2_indexOfChar_4cfef (va_wsS RJ2 96 yJ2_checkBoundsBeginEnd_d044e wsJ2_checkBoundsBeginEnd_d044e) := goodIn_app (goodIn_of _ (by decide +kernel)) ggJ2_indexOfChar_4cfef_J2_checkBoundsBeginEnd_d044e
set_option maxRecDepth 20000 in
theorem ggJ2_indexOfChar_4cfef_J2_indexOfCharUnsafe_4cfef : GoodIn wsJ2_indexOfChar_4cfef wsJ2_indexOfCharUnsafe_4cfef := goodIn_r _ [19, 20, 21, 3, 22, 23, 24, 25, 5, 6, 7] (by decide +kernel) (by decide +kernel)
set_option maxRecDepth 20000 in
theorem gJ2_indexOfChar_4cfef_J2_indexOfCharUnsafe_4cfef : GoodIn wsJ2_indexOfChar_4cfef (va_wsS RJ2 244 yJ2_indexOfCharUnsafe_4cfef wsJ2_indexOfCharUnsafe_4cfef) := goodIn_app (goodIn_of _ (by decide +kernel)) ggJ2_indexOfChar_4cfef_J2_indexOfCharUnsafe_4cfef
theorem dJ2_indexOfChar_4cfef_0 : decode cJ2_indexOfChar_4cfef 0 = .ok (.iload_n 2, 1) := by decide +kernel
theorem dJ2_indexOfChar_4cfef_1 : decode cJ2_indexOfChar_4cfef 1 = .ok (.iload_n 3, 1) := by decide +kernel
theorem dJ2_indexOfChar_4cfef_2 : decode cJ2_indexOfChar_4cfef 2 = .ok (.aload_n 0, 1) := by decide +kernel
theorem dJ2_indexOfChar_4cfef_3 : decode cJ2_indexOfChar_4cfef 3 = .ok (.invokestatic 96, 3) := by decide +kernel
theorem dJ2_indexOfChar_4cfef_6 : decode cJ2_indexOfChar_4cfef 6 = .ok (.aload_n 0, 1) := by decide +kernel
theorem dJ2_indexOfChar_4cfef_7 : decode cJ2_indexOfChar_4cfef 7 = .ok (.iload_n 1, 1) := by decide +kernel
theorem dJ2_indexOfChar_4cfef_8 : decode cJ2_indexOfChar_4cfef 8 = .ok (.iload_n 2, 1) := by decide +kernel
theorem dJ2_indexOfChar_4cfef_9 : decode cJ2_indexOfChar_4cfef 9 = .ok (.iload_n 3, 1) := by decide +kernel
theorem dJ2_indexOfChar_4cfef_10 : decode cJ2_indexOfChar_4cfef 10 = .ok (.invokestatic 244, 3) := by decide +kernel
theorem dJ2_indexOfChar_4cfef_13 : decode cJ2_indexOfChar_4cfef 13 = .ok (.ireturn, 1) := by decide +kernel
set_option maxRecDepth 20000 in
theorem ggJ2_indexOfCharUnsafe_4cfef_J2_getChar_3b067 : GoodIn wsJ2_indexOfCharUnsafe_4cfef wsJ2_getChar_3b067 := goodIn_r _ [4, 5, 6, 7, 8, 9, 3, 10] (by decide +kernel) (by decide +kernel)
set_option maxRecDepth 20000 in
theorem gJ2_indexOfCharUnsafe_4cfef_J2_getChar_3b067 : GoodIn wsJ2_indexOfCharUnsafe_4cfef (va_wsS RJ2 71 yJ2_getChar_3b067 wsJ2_getChar_3b067) := goodIn_app (goodIn_of _ (by decide +kernel)) ggJ2_indexOfCharUnsafe_4cfef_J2_getChar_3b067
theorem dJ2_indexOfCharUnsafe_4cfef_0 : decode cJ2_indexOfCharUnsafe_4cfef 0 = .ok (.iload_n 2, 1) := by decide +kernel
theorem dJ2_indexOfCharUnsafe_4cfef_1 : decode cJ2_indexOfCharUnsafe_4cfef 1 = .ok (.istore 4, 2) := by decide +kernel
theorem dJ2_indexOfCharUnsafe_4cfef_3 : decode cJ2_indexOfCharUnsafe_4cfef 3 = .ok (.iload 4, 2) := by decide +kernel
theorem dJ2_indexOfCharUnsafe_4cfef_5 : decode cJ2_indexOfCharUnsafe_4cfef 5 = .ok (.iload_n 3, 1) := by decide +kernel
theorem dJ2_indexOfCharUnsafe_4cfef_6 : decode cJ2_indexOfCharUnsafe_4cfef 6 = .ok (.if_icmp .ge 22, 3) := by decide +kernel
theorem dJ2_indexOfCharUnsafe_4cfef_9 : decode cJ2_indexOfCharUnsafe_4cfef 9 = .ok (.aload_n 0, 1) := by decide +kernel
theorem dJ2_indexOfCharUnsafe_4cfef_10 : decode cJ2_indexOfCharUnsafe_4cfef 10 = .ok (.iload 4, 2) := by decide +kernel
theorem dJ2_indexOfCharUnsafe_4cfef_12 : decode cJ2_indexOfCharUnsafe_4cfef 12 = .ok (.invokestatic 71, 3) := by decide +kernel
theorem dJ2_indexOfCharUnsafe_4cfef_15 : decode cJ2_indexOfCharUnsafe_4cfef 15 = .ok (.iload_n 1, 1) := by decide +kernel
theorem dJ2_indexOfCharUnsafe_4cfef_16 : decode cJ2_indexOfCharUnsafe_4cfef 16 = .ok (.if_icmp .ne 6, 3) := by decide +kernel
theorem dJ2_indexOfCharUnsafe_4cfef_19 : decode cJ2_indexOfCharUnsafe_4cfef 19 = .ok (.iload 4, 2) := by decide +kernel
theorem dJ2_indexOfCharUnsafe_4cfef_21 : decode cJ2_indexOfCharUnsafe_4cfef 21 = .ok (.ireturn, 1) := by decide +kernel
theorem dJ2_indexOfCharUnsafe_4cfef_22 : decode cJ2_indexOfCharUnsafe_4cfef 22 = .ok (.iinc 4 1, 3) := by decide +kernel
theorem dJ2_indexOfCharUnsafe_4cfef_25 : decode cJ2_indexOfCharUnsafe_4cfef 25 = .ok (.goto (-22), 3) := by decide +kernel
theorem dJ2_indexOfCharUnsafe_4cfef_28 : decode cJ2_indexOfCharUnsafe_4cfef 28 = .ok (.iconst (-1), 1) := by decide +kernel
theorem dJ2_indexOfCharUnsafe_4cfef_29 : decode cJ2_indexOfCharUnsafe_4cfef 29 = .ok (.ireturn, 1) := by decide +kernel
set_option maxRecDepth 20000 in
theorem ggJ2_indexOfSupplementary_4cfef_J11_isValidCodePoint_9a6ad : GoodIn wsJ2_indexOfSupplementary_4cfef wsJ11_isValidCodePoint_9a6ad := goodIn_r _ [4] (by decide +kernel) (by decide +kernel)
set_option maxRecDepth 20000 in
theorem gJ2_indexOfSupplementary_4cfef_J11_isValidCodePoint_9a6ad : GoodIn wsJ2_indexOfSupplementary_4cfef (va_wsS RJ2 164 yJ11_isValidCodePoint_9a6ad wsJ11_isValidCodePoint_9a6ad) := goodIn_app (goodIn_of _ (by decide +kernel)) ggJ2_indexOfSupplementary_4cfef_J11_isValidCodePoint_9a6ad
set_option maxRecDepth 20000 in
theorem ggJ2_indexOfSupplementary_4cfef_J11_highSurrogate_5068e : GoodIn wsJ2_indexOfSupplementary_4cfef wsJ11_highSurrogate_5068e := goodIn_r _ [7, 8] (by decide +kernel) (by decide +kernel)
set_option maxRecDepth 20000 in
theorem gJ2_indexOfSupplementary_4cfef_J11_highSurrogate_5068e : GoodIn wsJ2_indexOfSupplementary_4cfef (va_wsS RJ2 157 yJ11_highSurrogate_5068e wsJ11_highSurrogate_5068e) := goodIn_app (goodIn_of _ (by decide +kernel)) ggJ2_indexOfSupplementary_4cfef_J11_highSurrogate_5068e
set_option maxRecDepth 20000 in
theorem ggJ2_indexOfSupplementary_4cfef_J11_lowSurrogate_5068e : GoodIn wsJ2_indexOfSupplementary_4cfef wsJ11_lowSurrogate_5068e := goodIn_r _ [11, 12] (by decide +kernel) (by decide +kernel)
set_option maxRecDepth 20000 in
theorem gJ2_indexOfSupplementary_4cfef_J11_lowSurrogate_5068e : GoodIn wsJ2_indexOfSupplementary_4cfef (va_wsS RJ2 161 yJ11_lowSurrogate_5068e wsJ11_lowSurrogate_5068e) := goodIn_app (goodIn_of _ (by decide +kernel)) ggJ2_indexOfSupplementary_4cfef_J11_lowSurrogate_5068e
set_option maxRecDepth 20000 in
theorem ggJ2_indexOfSupplementary_4cfef_J2_checkBoundsBeginEnd_d044e : GoodIn wsJ2_indexOfSupplementary_4cfef wsJ2_checkBoundsBeginEnd_d044e := goodIn_r _ [16, 17, 18, 15, 19, 20, 21, 22, 23, 24, 25, 26, 27, 28] (by decide +kernel) (by decide +kernel)
set_option maxRecDepth 20000 in
theorem gJ2_indexOfSupplementary_4cfef_J2_checkBoundsBeginEnd_d044e : GoodIn wsJ2_indexOfSupplementary_4cfef (va_wsS RJ2 96 yJ2_checkBoundsBeginEnd_d044e wsJ2_checkBoundsBeginEnd_d044e) := goodIn_app (goodIn_of _ (by decide +kernel)) ggJ2_indexOfSupplementary_4cfef_J2_checkBoundsBeginEnd_d044e
set_option maxRecDepth 20000 in
theorem ggJ2_indexOfSupplementary_4cfef_J2_getChar_3b067 : GoodIn wsJ2_indexOfSupplementary_4cfef wsJ2_getChar_3b067 := goodIn_r _ [31, 32, 33, 34, 17, 18, 15, 19] (by decide +kernel) (by decide +kernel)
set_option maxRecDepth 20000 in
theorem gJ2_indexOfSupplementary_4cfef_J2_getChar_3b067 : GoodIn wsJ2_indexOfSupplementary_4cfef (va_wsS RJ2 71 yJ2_getChar_3b067 wsJ2_getChar_3b067) := goodIn_app (goodIn_of _ (by decide +kernel)) ggJ2_indexOfSupplementary_4cfef_J2_getChar_3b067
theorem dJ2_indexOfSupplementary_4cfef_0 : decode cJ2_indexOfSupplementary_4cfef 0 = .ok (.iload_n 1, 1) := by decide +kernel
theorem dJ2_indexOfSupplementary_4cfef_1 : decode cJ2_indexOfSupplementary_4cfef 1 = .ok (.invokestatic 164, 3) := by decide +kernel
theorem dJ2_indexOfSupplementary_4cfef_4 : decode cJ2_indexOfSupplementary_4cfef 4 = .ok (.ifCond .eq 65, 3) := by decide +kernel
theorem dJ2_indexOfSupplementary_4cfef_7 : decode cJ2_indexOfSupplementary_4cfef 7 = .ok (.iload_n 1, 1) := by decide +kernel
theorem dJ2_indexOfSupplementary_4cfef_8 : decode cJ2_indexOfSupplementary_4cfef 8 = .ok (.invokestatic 157, 3) := by decide +kernel
theorem dJ2_indexOfSupplementary_4cfef_11 : decode cJ2_indexOfSupplementary_4cfef 11 = .ok (.istore 4, 2) := by decide +kernel
theorem dJ2_indexOfSupplementary_4cfef_13 : decode cJ2_indexOfSupplementary_4cfef 13 = .ok (.iload_n 1, 1) := by decide +kernel
theorem dJ2_indexOfSupplementary_4cfef_14 : decode cJ2_indexOfSupplementary_4cfef 14 = .ok (.invokestatic 161, 3) := by decide +kernel
theorem dJ2_indexOfSupplementary_4cfef_17 : decode cJ2_indexOfSupplementary_4cfef 17 = .ok (.istore 5, 2) := by decide +kernel
theorem dJ2_indexOfSupplementary_4cfef_19 : decode cJ2_indexOfSupplementary_4cfef 19 = .ok (.iload_n 2, 1) := by decide +kernel
theorem dJ2_indexOfSupplementary_4cfef_20 : decode cJ2_indexOfSupplementary_4cfef 20 = .ok (.iload_n 3, 1) := by decide +kernel
theorem dJ2_indexOfSupplementary_4cfef_21 : decode cJ2_indexOfSupplementary_4cfef 21 = .ok (.aload_n 0, 1) := by decide +kernel
theorem dJ2_indexOfSupplementary_4cfef_22 : decode cJ2_indexOfSupplementary_4cfef 22 = .ok (.invokestatic 96, 3) := by decide +kernel
theorem dJ2_indexOfSupplementary_4cfef_25 : decode cJ2_indexOfSupplementary_4cfef 25 = .ok (.iload_n 2, 1) := by decide +kernel
theorem dJ2_indexOfSupplementary_4cfef_26 : decode cJ2_indexOfSupplementary_4cfef 26 = .ok (.istore 6, 2) := by decide +kernel
theorem dJ2_indexOfSupplementary_4cfef_28 : decode cJ2_indexOfSupplementary_4cfef 28 = .ok (.iload 6, 2) := by decide +kernel
theorem dJ2_indexOfSupplementary_4cfef_30 : decode cJ2_indexOfSupplementary_4cfef 30 = .ok (.iload_n 3, 1) := by decide +kernel
theorem dJ2_indexOfSupplementary_4cfef_31 : decode cJ2_indexOfSupplementary_4cfef 31 = .ok (.iconst 1, 1) := by decide +kernel
theorem dJ2_indexOfSupplementary_4cfef_32 : decode cJ2_indexOfSupplementary_4cfef 32 = .ok (.isub, 1) := by decide +kernel
theorem dJ2_indexOfSupplementary_4cfef_33 : decode cJ2_indexOfSupplementary_4cfef 33 = .ok (.if_icmp .ge 36, 3) := by decide +kernel
theorem dJ2_indexOfSupplementary_4cfef_36 : decode cJ2_indexOfSupplementary_4cfef 36 = .ok (.aload_n 0, 1) := by decide +kernel
theorem dJ2_indexOfSupplementary_4cfef_37 : decode cJ2_indexOfSupplementary_4cfef 37 = .ok (.iload 6, 2) := by decide +kernel
theorem dJ2_indexOfSupplementary_4cfef_39 : decode cJ2_indexOfSupplementary_4cfef 39 = .ok (.invokestatic 71, 3) := by decide +kernel
theorem dJ2_indexOfSupplementary_4cfef_42 : decode cJ2_indexOfSupplementary_4cfef 42 = .ok (.iload 4, 2) := by decide +kernel
theorem dJ2_indexOfSupplementary_4cfef_44 : decode cJ2_indexOfSupplementary_4cfef 44 = .ok (.if_icmp .ne 19, 3) := by decide +kernel
theorem dJ2_indexOfSupplementary_4cfef_47 : decode cJ2_indexOfSupplementary_4cfef 47 = .ok (.aload_n 0, 1) := by decide +kernel
theorem dJ2_indexOfSupplementary_4cfef_48 : decode cJ2_indexOfSupplementary_4cfef 48 = .ok (.iload 6, 2) := by decide +kernel
theorem dJ2_indexOfSupplementary_4cfef_50 : decode cJ2_indexOfSupplementary_4cfef 50 = .ok (.iconst 1, 1) := by decide +kernel
theorem dJ2_indexOfSupplementary_4cfef_51 : decode cJ2_indexOfSupplementary_4cfef 51 = .ok (.iadd, 1) := by decide +kernel
