set_option maxRecDepth 20000 in
theorem gX2_door_X0_foresee : GoodIn wsX2_door (wsV RX2 189 RX0 yX0_foresee wsX0_foresee) := goodIn_app (goodIn_of _ (by decide +kernel)) ggX2_door_X0_foresee
set_option maxRecDepth 20000 in
theorem ggX2_door_X0_heightOf : GoodIn wsX2_door wsX0_heightOf := goodIn_r _ [55] (by decide +kernel) (by decide +kernel)
set_option maxRecDepth 20000 in
theorem gX2_door_X0_heightOf : GoodIn wsX2_door (va_wsS RX2 115 yX0_heightOf wsX0_heightOf) := goodIn_app (goodIn_of _ (by decide +kernel)) ggX2_door_X0_heightOf
set_option maxRecDepth 20000 in
theorem ggX2_door_X0_isDoor : GoodIn wsX2_door wsX0_isDoor := goodIn_r _ [59, 60, 61, 62, 5, 63, 78, 79, 80, 81, 82, 83, 84, 85, 86] (by decide +kernel) (by decide +kernel)
set_option maxRecDepth 20000 in
theorem gX2_door_X0_isDoor : GoodIn wsX2_door (wsV RX2 156 RX0 yX0_isDoor wsX0_isDoor) := goodIn_app (goodIn_of _ (by decide +kernel)) ggX2_door_X0_isDoor
theorem dX2_door_0 : decode cX2_door 0 = .ok (.iload_n 1, 1) := by decide +kernel
theorem dX2_door_1 : decode cX2_door 1 = .ok (.invokestatic 109, 3) := by decide +kernel
theorem dX2_door_4 : decode cX2_door 4 = .ok (.ifCond .ne 9, 3) := by decide +kernel
theorem dX2_door_7 : decode cX2_door 7 = .ok (.aload_n 0, 1) := by decide +kernel
theorem dX2_door_8 : decode cX2_door 8 = .ok (.iconst (-1), 1) := by decide +kernel
theorem dX2_door_9 : decode cX2_door 9 = .ok (.invokevirtual 63, 3) := by decide +kernel
theorem dX2_door_12 : decode cX2_door 12 = .ok (.ireturn, 1) := by decide +kernel
theorem dX2_door_13 : decode cX2_door 13 = .ok (.aload_n 0, 1) := by decide +kernel
theorem dX2_door_14 : decode cX2_door 14 = .ok (.getfield 10, 3) := by decide +kernel
theorem dX2_door_17 : decode cX2_door 17 = .ok (.aload_n 0, 1) := by decide +kernel
theorem dX2_door_18 : decode cX2_door 18 = .ok (.getfield 29, 3) := by decide +kernel
theorem dX2_door_21 : decode cX2_door 21 = .ok (.bipush 60, 2) := by decide +kernel
theorem dX2_door_23 : decode cX2_door 23 = .ok (.invokevirtual 189, 3) := by decide +kernel
theorem dX2_door_26 : decode cX2_door 26 = .ok (.iconst 0, 1) := by decide +kernel
theorem dX2_door_27 : decode cX2_door 27 = .ok (.istore_n 2, 1) := by decide +kernel
theorem dX2_door_28 : decode cX2_door 28 = .ok (.iload_n 2, 1) := by decide +kernel
theorem dX2_door_29 : decode cX2_door 29 = .ok (.bipush 60, 2) := by decide +kernel
theorem dX2_door_31 : decode cX2_door 31 = .ok (.if_icmp .gt 40, 3) := by decide +kernel
theorem dX2_door_34 : decode cX2_door 34 = .ok (.iload_n 2, 1) := by decide +kernel
theorem dX2_door_35 : decode cX2_door 35 = .ok (.aload_n 0, 1) := by decide +kernel
theorem dX2_door_36 : decode cX2_door 36 = .ok (.getfield 29, 3) := by decide +kernel
theorem dX2_door_39 : decode cX2_door 39 = .ok (.arraylength, 1) := by decide +kernel
theorem dX2_door_40 : decode cX2_door 40 = .ok (.if_icmp .ge 31, 3) := by decide +kernel
theorem dX2_door_43 : decode cX2_door 43 = .ok (.aload_n 0, 1) := by decide +kernel
theorem dX2_door_44 : decode cX2_door 44 = .ok (.getfield 10, 3) := by decide +kernel
theorem dX2_door_47 : decode cX2_door 47 = .ok (.iload_n 1, 1) := by decide +kernel
theorem dX2_door_48 : decode cX2_door 48 = .ok (.aload_n 0, 1) := by decide +kernel
theorem dX2_door_49 : decode cX2_door 49 = .ok (.getfield 29, 3) := by decide +kernel
theorem dX2_door_52 : decode cX2_door 52 = .ok (.iload_n 2, 1) := by decide +kernel
theorem dX2_door_53 : decode cX2_door 53 = .ok (.iaload, 1) := by decide +kernel
theorem dX2_door_54 : decode cX2_door 54 = .ok (.invokestatic 115, 3) := by decide +kernel
theorem dX2_door_57 : decode cX2_door 57 = .ok (.invokevirtual 156, 3) := by decide +kernel
theorem dX2_door_60 : decode cX2_door 60 = .ok (.ifCond .eq 5, 3) := by decide +kernel
theorem dX2_door_63 : decode cX2_door 63 = .ok (.iload_n 2, 1) := by decide +kernel
theorem dX2_door_64 : decode cX2_door 64 = .ok (.ireturn, 1) := by decide +kernel
theorem dX2_door_65 : decode cX2_door 65 = .ok (.iinc 2 1, 3) := by decide +kernel
theorem dX2_door_68 : decode cX2_door 68 = .ok (.goto (-40), 3) := by decide +kernel
theorem dX2_door_71 : decode cX2_door 71 = .ok (.bipush (-9), 2) := by decide +kernel
theorem dX2_door_73 : decode cX2_door 73 = .ok (.ireturn, 1) := by decide +kernel
set_option maxRecDepth 20000 in
theorem ggX2_level_X2_faultOf : GoodIn wsX2_level wsX2_faultOf := goodIn_r _ [6] (by decide +kernel) (by decide +kernel)
set_option maxRecDepth 20000 in
theorem gX2_level_X2_faultOf : GoodIn wsX2_level (va_wsS RX2 140 yX2_faultOf wsX2_faultOf) := goodIn_app (goodIn_of _ (by decide +kernel)) ggX2_level_X2_faultOf
set_option maxRecDepth 20000 in
theorem ggX2_level_X2_refuse : GoodIn wsX2_level wsX2_refuse := goodIn_r _ [10, 11, 53, 54, 55, 56, 57, 58, 59, 60, 61, 62, 63, 64, 65, 66] (by decide +kernel) (by decide +kernel)
set_option maxRecDepth 20000 in
theorem gX2_level_X2_refuse : GoodIn wsX2_level (wsV RX2 63 RX2 yX2_refuse wsX2_refuse) := goodIn_app (goodIn_of _ (by decide +kernel)) ggX2_level_X2_refuse
set_option maxRecDepth 20000 in
theorem ggX2_level_X0_foresee : GoodIn wsX2_level wsX0_foresee := goodIn_r _ [16, 17, 18, 19, 20, 15, 21, 22, 23, 24, 25, 26, 27, 28, 29, 30, 31, 32, 33, 34, 35, 36, 37, 38, 39, 40, 41, 42, 43, 44, 45, 46, 47, 48, 49, 50, 51, 52, 67, 68, 69, 70, 71, 72, 73, 74, 75] (by decide +kernel) (by decide +kernel)
set_option maxRecDepth 20000 in
theorem gX2_level_X0_foresee : GoodIn wsX2_level (wsV RX2 189 RX0 yX0_foresee wsX0_foresee) := goodIn_app (goodIn_of _ (by decide +kernel)) ggX2_level_X0_foresee
theorem dX2_level_0 : decode cX2_level 0 = .ok (.iload_n 1, 1) := by decide +kernel
theorem dX2_level_1 : decode cX2_level 1 = .ok (.iconst 0, 1) := by decide +kernel
theorem dX2_level_2 : decode cX2_level 2 = .ok (.bipush 60, 2) := by decide +kernel
theorem dX2_level_4 : decode cX2_level 4 = .ok (.invokestatic 140, 3) := by decide +kernel
theorem dX2_level_7 : decode cX2_level 7 = .ok (.istore_n 2, 1) := by decide +kernel
theorem dX2_level_8 : decode cX2_level 8 = .ok (.iload_n 2, 1) := by decide +kernel
theorem dX2_level_9 : decode cX2_level 9 = .ok (.ifCond .eq 9, 3) := by decide +kernel
theorem dX2_level_12 : decode cX2_level 12 = .ok (.aload_n 0, 1) := by decide +kernel
theorem dX2_level_13 : decode cX2_level 13 = .ok (.iload_n 2, 1) := by decide +kernel
theorem dX2_level_14 : decode cX2_level 14 = .ok (.invokevirtual 63, 3) := by decide +kernel
theorem dX2_level_17 : decode cX2_level 17 = .ok (.ireturn, 1) := by decide +kernel
theorem dX2_level_18 : decode cX2_level 18 = .ok (.aload_n 0, 1) := by decide +kernel
theorem dX2_level_19 : decode cX2_level 19 = .ok (.getfield 10, 3) := by decide +kernel
theorem dX2_level_22 : decode cX2_level 22 = .ok (.aload_n 0, 1) := by decide +kernel
theorem dX2_level_23 : decode cX2_level 23 = .ok (.getfield 29, 3) := by decide +kernel
theorem dX2_level_26 : decode cX2_level 26 = .ok (.iload_n 1, 1) := by decide +kernel
theorem dX2_level_27 : decode cX2_level 27 = .ok (.invokevirtual 189, 3) := by decide +kernel
theorem dX2_level_30 : decode cX2_level 30 = .ok (.iconst 0, 1) := by decide +kernel
theorem dX2_level_31 : decode cX2_level 31 = .ok (.istore_n 3, 1) := by decide +kernel
theorem dX2_level_32 : decode cX2_level 32 = .ok (.iconst 0, 1) := by decide +kernel
theorem dX2_level_33 : decode cX2_level 33 = .ok (.istore 4, 2) := by decide +kernel
theorem dX2_level_35 : decode cX2_level 35 = .ok (.iload 4, 2) := by decide +kernel
theorem dX2_level_37 : decode cX2_level 37 = .ok (.iload_n 1, 1) := by decide +kernel
theorem dX2_level_38 : decode cX2_level 38 = .ok (.if_icmp .gt 34, 3) := by decide +kernel
theorem dX2_level_41 : decode cX2_level 41 = .ok (.iload 4, 2) := by decide +kernel
theorem dX2_level_43 : decode cX2_level 43 = .ok (.aload_n 0, 1) := by decide +kernel
theorem dX2_level_44 : decode cX2_level 44 = .ok (.getfield 29, 3) := by decide +kernel
theorem dX2_level_47 : decode cX2_level 47 = .ok (.arraylength, 1) := by decide +kernel
theorem dX2_level_48 : decode cX2_level 48 = .ok (.if_icmp .ge 24, 3) := by decide +kernel
theorem dX2_level_51 : decode cX2_level 51 = .ok (.aload_n 0, 1) := by decide +kernel
theorem dX2_level_52 : decode cX2_level 52 = .ok (.getfield 29, 3) := by decide +kernel
theorem dX2_level_55 : decode cX2_level 55 = .ok (.iload 4, 2) := by decide +kernel
theorem dX2_level_57 : decode cX2_level 57 = .ok (.iaload, 1) := by decide +kernel
theorem dX2_level_58 : decode cX2_level 58 = .ok (.bipush 10, 2) := by decide +kernel
theorem dX2_level_60 : decode cX2_level 60 = .ok (.if_icmp .ne 6, 3) := by decide +kernel
theorem dX2_level_63 : decode cX2_level 63 = .ok (.iinc 3 1, 3) := by decide +kernel
theorem dX2_level_66 : decode cX2_level 66 = .ok (.iinc 4 1, 3) := by decide +kernel
theorem dX2_level_69 : decode cX2_level 69 = .ok (.goto (-34), 3) := by decide +kernel
theorem dX2_level_72 : decode cX2_level 72 = .ok (.iload_n 3, 1) := by decide +kernel
theorem dX2_level_73 : decode cX2_level 73 = .ok (.ireturn, 1) := by decide +kernel
set_option maxRecDepth 20000 in
theorem ggX2_take_X2_faultOf : GoodIn wsX2_take wsX2_faultOf := goodIn_r _ [6] (by decide +kernel) (by decide +kernel)
set_option maxRecDepth 20000 in
theorem gX2_take_X2_faultOf : GoodIn wsX2_take (va_wsS RX2 140 yX2_faultOf wsX2_faultOf) := goodIn_app (goodIn_of _ (by decide +kernel)) ggX2_take_X2_faultOf
set_option maxRecDepth 20000 in
theorem ggX2_take_X2_refuse : GoodIn wsX2_take wsX2_refuse := goodIn_r _ [10, 11, 81, 82, 83, 84, 85, 86, 87, 88, 89, 90, 91, 92, 93, 94] (by decide +kernel) (by decide +kernel)
set_option maxRecDepth 20000 in
theorem gX2_take_X2_refuse : GoodIn wsX2_take (wsV RX2 63 RX2 yX2_refuse wsX2_refuse) := goodIn_app (goodIn_of _ (by decide +kernel)) ggX2_take_X2_refuse
set_option maxRecDepth 20000 in
theorem ggX2_take_X0_apartAfter : GoodIn wsX2_take wsX0_apartAfter := goodIn_r _ [16, 17, 18, 19, 15, 20, 21, 22, 23, 24, 25, 26, 27, 28, 29, 30, 31, 32, 33, 34, 35, 36, 37, 38, 39, 40, 41, 42, 43, 44, 45, 46, 47, 48, 49, 50, 51, 52, 53, 54, 55, 56, 57, 58, 59, 95, 96, 97, 98, 99, 100, 101, 102, 103] (by decide +kernel) (by decide +kernel)
set_option maxRecDepth 20000 in
theorem gX2_take_X0_apartAfter : GoodIn wsX2_take (wsV RX2 193 RX0 yX0_apartAfter wsX0_apartAfter) := goodIn_app (goodIn_of _ (by decide +kernel)) ggX2_take_X0_apartAfter
set_option maxRecDepth 20000 in
theorem ggX2_take_X0_placeOf : GoodIn wsX2_take wsX0_placeOf := goodIn_r _ [63, 28, 44, 45, 46, 15, 47, 27, 95, 96, 97, 98, 99, 100, 101, 102, 103] (by decide +kernel) (by decide +kernel)
set_option maxRecDepth 20000 in
theorem gX2_take_X0_placeOf : GoodIn wsX2_take (wsV RX2 99 RX0 yX0_placeOf wsX0_placeOf) := goodIn_app (goodIn_of _ (by decide +kernel)) ggX2_take_X0_placeOf
set_option maxRecDepth 20000 in
theorem ggX2_take_X2_apartIfPut : GoodIn wsX2_take wsX2_apartIfPut := goodIn_r _ [67, 68, 1, 69, 70, 71, 15, 72, 21, 73, 33, 27, 26, 40, 34, 28, 35, 74, 75, 76, 77, 44, 45, 46, 47, 78, 79, 80, 12, 13, 14, 16, 17, 18, 19, 20, 22, 23, 24, 25, 29, 30, 31, 32, 36, 37, 38, 39, 41, 42, 43, 48, 49, 50, 51, 52, 53, 54, 55, 56, 57, 58, 59, 81, 82, 83, 84, 85, 86, 87, 88, 89, 90, 91, 92, 93, 94, 95, 96, 97, 98, 99, 100, 101, 102, 103] (by decide +kernel) (by decide +kernel)
set_option maxRecDepth 20000 in
theorem gX2_take_X2_apartIfPut : GoodIn wsX2_take (wsV RX2 199 RX2 yX2_apartIfPut wsX2_apartIfPut) := goodIn_app (goodIn_of _ (by decide +kernel)) ggX2_take_X2_apartIfPut
theorem dX2_take_0 : decode cX2_take 0 = .ok (.iload_n 1, 1) := by decide +kernel
theorem dX2_take_1 : decode cX2_take 1 = .ok (.iconst 0, 1) := by decide +kernel
theorem dX2_take_2 : decode cX2_take 2 = .ok (.bipush 30, 2) := by decide +kernel
theorem dX2_take_4 : decode cX2_take 4 = .ok (.invokestatic 140, 3) := by decide +kernel
theorem dX2_take_7 : decode cX2_take 7 = .ok (.istore_n 2, 1) := by decide +kernel
theorem dX2_take_8 : decode cX2_take 8 = .ok (.iload_n 2, 1) := by decide +kernel
theorem dX2_take_9 : decode cX2_take 9 = .ok (.ifCond .eq 9, 3) := by decide +kernel
theorem dX2_take_12 : decode cX2_take 12 = .ok (.aload_n 0, 1) := by decide +kernel
theorem dX2_take_13 : decode cX2_take 13 = .ok (.iload_n 2, 1) := by decide +kernel
theorem dX2_take_14 : decode cX2_take 14 = .ok (.invokevirtual 63, 3) := by decide +kernel
theorem dX2_take_17 : decode cX2_take 17 = .ok (.ireturn, 1) := by decide +kernel
theorem dX2_take_18 : decode cX2_take 18 = .ok (.aload_n 0, 1) := by decide +kernel
theorem dX2_take_19 : decode cX2_take 19 = .ok (.getfield 10, 3) := by decide +kernel
theorem dX2_take_22 : decode cX2_take 22 = .ok (.iload_n 1, 1) := by decide +kernel
theorem dX2_take_23 : decode cX2_take 23 = .ok (.invokevirtual 193, 3) := by decide +kernel
theorem dX2_take_26 : decode cX2_take 26 = .ok (.istore_n 3, 1) := by decide +kernel
theorem dX2_take_27 : decode cX2_take 27 = .ok (.bipush (-9), 2) := by decide +kernel
theorem dX2_take_29 : decode cX2_take 29 = .ok (.istore 4, 2) := by decide +kernel
theorem dX2_take_31 : decode cX2_take 31 = .ok (.iconst 0, 1) := by decide +kernel
theorem dX2_take_32 : decode cX2_take 32 = .ok (.istore 5, 2) := by decide +kernel
theorem dX2_take_34 : decode cX2_take 34 = .ok (.iload 5, 2) := by decide +kernel
theorem dX2_take_36 : decode cX2_take 36 = .ok (.aload_n 0, 1) := by decide +kernel
theorem dX2_take_37 : decode cX2_take 37 = .ok (.getfield 10, 3) := by decide +kernel
theorem dX2_take_40 : decode cX2_take 40 = .ok (.getfield 196, 3) := by decide +kernel
theorem dX2_take_43 : decode cX2_take 43 = .ok (.if_icmp .ge 45, 3) := by decide +kernel
theorem dX2_take_46 : decode cX2_take 46 = .ok (.aload_n 0, 1) := by decide +kernel
theorem dX2_take_47 : decode cX2_take 47 = .ok (.getfield 10, 3) := by decide +kernel
theorem dX2_take_50 : decode cX2_take 50 = .ok (.iload 5, 2) := by decide +kernel
theorem dX2_take_52 : decode cX2_take 52 = .ok (.invokevirtual 99, 3) := by decide +kernel
theorem dX2_take_55 : decode cX2_take 55 = .ok (.iconst 2, 1) := by decide +kernel
theorem dX2_take_56 : decode cX2_take 56 = .ok (.if_icmp .eq 26, 3) := by decide +kernel
theorem dX2_take_59 : decode cX2_take 59 = .ok (.aload_n 0, 1) := by decide +kernel
theorem dX2_take_60 : decode cX2_take 60 = .ok (.iload 5, 2) := by decide +kernel
theorem dX2_take_62 : decode cX2_take 62 = .ok (.iconst 2, 1) := by decide +kernel
theorem dX2_take_63 : decode cX2_take 63 = .ok (.iload_n 1, 1) := by decide +kernel
theorem dX2_take_64 : decode cX2_take 64 = .ok (.invokevirtual 199, 3) := by decide +kernel
theorem dX2_take_67 : decode cX2_take 67 = .ok (.istore 6, 2) := by decide +kernel
theorem dX2_take_69 : decode cX2_take 69 = .ok (.iload 6, 2) := by decide +kernel
theorem dX2_take_71 : decode cX2_take 71 = .ok (.iload_n 3, 1) := by decide +kernel
theorem dX2_take_72 : decode cX2_take 72 = .ok (.if_icmp .ge 10, 3) := by decide +kernel
theorem dX2_take_75 : decode cX2_take 75 = .ok (.iload 6, 2) := by decide +kernel
theorem dX2_take_77 : decode cX2_take 77 = .ok (.istore_n 3, 1) := by decide +kernel
theorem dX2_take_78 : decode cX2_take 78 = .ok (.iload 5, 2) := by decide +kernel
theorem dX2_take_80 : decode cX2_take 80 = .ok (.istore 4, 2) := by decide +kernel
theorem dX2_take_82 : decode cX2_take 82 = .ok (.iinc 5 1, 3) := by decide +kernel
theorem dX2_take_85 : decode cX2_take 85 = .ok (.goto (-51), 3) := by decide +kernel
theorem dX2_take_88 : decode cX2_take 88 = .ok (.iload 4, 2) := by decide +kernel
theorem dX2_take_90 : decode cX2_take 90 = .ok (.ireturn, 1) := by decide +kernel
set_option maxRecDepth 20000 in
theorem ggX2_hang_X2_faultOf : GoodIn wsX2_hang wsX2_faultOf := goodIn_r _ [6] (by decide +kernel) (by decide +kernel)
set_option maxRecDepth 20000 in
theorem gX2_hang_X2_faultOf : GoodIn wsX2_hang (va_wsS RX2 140 yX2_faultOf wsX2_faultOf) := goodIn_app (goodIn_of _ (by decide +kernel)) ggX2_hang_X2_faultOf
set_option maxRecDepth 20000 in
theorem ggX2_hang_X2_refuse : GoodIn wsX2_hang wsX2_refuse := goodIn_r _ [10, 11, 81, 82, 83, 84, 85, 86, 87, 88, 89, 90, 91, 92, 93, 94] (by decide +kernel) (by decide +kernel)
set_option maxRecDepth 20000 in
theorem gX2_hang_X2_refuse : GoodIn wsX2_hang (wsV RX2 63 RX2 yX2_refuse wsX2_refuse) := goodIn_app (goodIn_of _ (by decide +kernel)) ggX2_hang_X2_refuse
set_option maxRecDepth 20000 in
theorem ggX2_hang_X0_apartAfter : GoodIn wsX2_hang wsX0_apartAfter := goodIn_r _ [16, 17, 18, 19, 15, 20, 21, 22, 23, 24, 25, 26, 27, 28, 29, 30, 31, 32, 33, 34, 35, 36, 37, 38, 39, 40, 41, 42, 43, 44, 45, 46, 47, 48, 49, 50, 51, 52, 53, 54, 55, 56, 57, 58, 59, 95, 96, 97, 98, 99, 100, 101, 102, 103] (by decide +kernel) (by decide +kernel)
set_option maxRecDepth 20000 in
theorem gX2_hang_X0_apartAfter : GoodIn wsX2_hang (wsV RX2 193 RX0 yX0_apartAfter wsX0_apartAfter) := goodIn_app (goodIn_of _ (by decide +kernel)) ggX2_hang_X0_apartAfter
set_option maxRecDepth 20000 in
theorem ggX2_hang_X0_placeOf : GoodIn wsX2_hang wsX0_placeOf := goodIn_r _ [63, 28, 44, 45, 46, 15, 47, 27, 95, 96, 97, 98, 99, 100, 101, 102, 103] (by decide +kernel) (by decide +kernel)
set_option maxRecDepth 20000 in
theorem gX2_hang_X0_placeOf : GoodIn wsX2_hang (wsV RX2 99 RX0 yX0_placeOf wsX0_placeOf) := goodIn_app (goodIn_of _ (by decide +kernel)) ggX2_hang_X0_placeOf
set_option maxRecDepth 20000 in
theorem ggX2_hang_X2_apartIfPut : GoodIn wsX2_hang wsX2_apartIfPut := goodIn_r _ [67, 68, 1, 69, 70, 71, 15, 72, 21, 73, 33, 27, 26, 40, 34, 28, 35, 74, 75, 76, 77, 44, 45, 46, 47, 78, 79, 80, 12, 13, 14, 16, 17, 18, 19, 20, 22, 23, 24, 25, 29, 30, 31, 32, 36, 37, 38, 39, 41, 42, 43, 48, 49, 50, 51, 52, 53, 54, 55, 56, 57, 58, 59, 81, 82, 83, 84, 85, 86, 87, 88, 89, 90, 91, 92, 93, 94, 95, 96, 97, 98, 99, 100, 101, 102, 103] (by decide +kernel) (by decide +kernel)
set_option maxRecDepth 20000 in
theorem gX2_hang_X2_apartIfPut : GoodIn wsX2_hang (wsV RX2 199 RX2 yX2_apartIfPut wsX2_apartIfPut) := goodIn_app (goodIn_of _ (by decide +kernel)) ggX2_hang_X2_apartIfPut
theorem dX2_hang_0 : decode cX2_hang 0 = .ok (.iload_n 1, 1) := by decide +kernel
theorem dX2_hang_1 : decode cX2_hang 1 = .ok (.iconst 0, 1) := by decide +kernel
theorem dX2_hang_2 : decode cX2_hang 2 = .ok (.bipush 30, 2) := by decide +kernel
theorem dX2_hang_4 : decode cX2_hang 4 = .ok (.invokestatic 140, 3) := by decide +kernel
theorem dX2_hang_7 : decode cX2_hang 7 = .ok (.istore_n 2, 1) := by decide +kernel
theorem dX2_hang_8 : decode cX2_hang 8 = .ok (.iload_n 2, 1) := by decide +kernel
theorem dX2_hang_9 : decode cX2_hang 9 = .ok (.ifCond .eq 9, 3) := by decide +kernel
theorem dX2_hang_12 : decode cX2_hang 12 = .ok (.aload_n 0, 1) := by decide +kernel
theorem dX2_hang_13 : decode cX2_hang 13 = .ok (.iload_n 2, 1) := by decide +kernel
theorem dX2_hang_14 : decode cX2_hang 14 = .ok (.invokevirtual 63, 3) := by decide +kernel
theorem dX2_hang_17 : decode cX2_hang 17 = .ok (.ireturn, 1) := by decide +kernel
theorem dX2_hang_18 : decode cX2_hang 18 = .ok (.aload_n 0, 1) := by decide +kernel
theorem dX2_hang_19 : decode cX2_hang 19 = .ok (.getfield 10, 3) := by decide +kernel
theorem dX2_hang_22 : decode cX2_hang 22 = .ok (.iload_n 1, 1) := by decide +kernel
theorem dX2_hang_23 : decode cX2_hang 23 = .ok (.invokevirtual 193, 3) := by decide +kernel
theorem dX2_hang_26 : decode cX2_hang 26 = .ok (.istore_n 3, 1) := by decide +kernel
theorem dX2_hang_27 : decode cX2_hang 27 = .ok (.bipush (-9), 2) := by decide +kernel
theorem dX2_hang_29 : decode cX2_hang 29 = .ok (.istore 4, 2) := by decide +kernel
theorem dX2_hang_31 : decode cX2_hang 31 = .ok (.iconst 0, 1) := by decide +kernel
theorem dX2_hang_32 : decode cX2_hang 32 = .ok (.istore 5, 2) := by decide +kernel
theorem dX2_hang_34 : decode cX2_hang 34 = .ok (.iload 5, 2) := by decide +kernel
theorem dX2_hang_36 : decode cX2_hang 36 = .ok (.aload_n 0, 1) := by decide +kernel
theorem dX2_hang_37 : decode cX2_hang 37 = .ok (.getfield 10, 3) := by decide +kernel
theorem dX2_hang_40 : decode cX2_hang 40 = .ok (.getfield 196, 3) := by decide +kernel
theorem dX2_hang_43 : decode cX2_hang 43 = .ok (.if_icmp .ge 67, 3) := by decide +kernel
theorem dX2_hang_46 : decode cX2_hang 46 = .ok (.aload_n 0, 1) := by decide +kernel
theorem dX2_hang_47 : decode cX2_hang 47 = .ok (.getfield 10, 3) := by decide +kernel
theorem dX2_hang_50 : decode cX2_hang 50 = .ok (.iload 5, 2) := by decide +kernel
theorem dX2_hang_52 : decode cX2_hang 52 = .ok (.invokevirtual 99, 3) := by decide +kernel
theorem dX2_hang_55 : decode cX2_hang 55 = .ok (.iconst 2, 1) := by decide +kernel
theorem dX2_hang_56 : decode cX2_hang 56 = .ok (.if_icmp .ne 48, 3) := by decide +kernel
theorem dX2_hang_59 : decode cX2_hang 59 = .ok (.iconst 0, 1) := by decide +kernel
theorem dX2_hang_60 : decode cX2_hang 60 = .ok (.istore 6, 2) := by decide +kernel
theorem dX2_hang_62 : decode cX2_hang 62 = .ok (.iload 6, 2) := by decide +kernel
theorem dX2_hang_64 : decode cX2_hang 64 = .ok (.iconst 2, 1) := by decide +kernel
theorem dX2_hang_65 : decode cX2_hang 65 = .ok (.if_icmp .ge 39, 3) := by decide +kernel
theorem dX2_hang_68 : decode cX2_hang 68 = .ok (.aload_n 0, 1) := by decide +kernel
theorem dX2_hang_69 : decode cX2_hang 69 = .ok (.iload 5, 2) := by decide +kernel
theorem dX2_hang_71 : decode cX2_hang 71 = .ok (.iload 6, 2) := by decide +kernel
theorem dX2_hang_73 : decode cX2_hang 73 = .ok (.iload_n 1, 1) := by decide +kernel
theorem dX2_hang_74 : decode cX2_hang 74 = .ok (.invokevirtual 199, 3) := by decide +kernel
theorem dX2_hang_77 : decode cX2_hang 77 = .ok (.istore 7, 2) := by decide +kernel
theorem dX2_hang_79 : decode cX2_hang 79 = .ok (.iload 7, 2) := by decide +kernel
theorem dX2_hang_81 : decode cX2_hang 81 = .ok (.iload_n 3, 1) := by decide +kernel
theorem dX2_hang_82 : decode cX2_hang 82 = .ok (.if_icmp .ge 16, 3) := by decide +kernel
theorem dX2_hang_85 : decode cX2_hang 85 = .ok (.iload 7, 2) := by decide +kernel
theorem dX2_hang_87 : decode cX2_hang 87 = .ok (.istore_n 3, 1) := by decide +kernel
theorem dX2_hang_88 : decode cX2_hang 88 = .ok (.bipush 10, 2) := by decide +kernel
theorem dX2_hang_90 : decode cX2_hang 90 = .ok (.iload 5, 2) := by decide +kernel
theorem dX2_hang_92 : decode cX2_hang 92 = .ok (.imul, 1) := by decide +kernel
theorem dX2_hang_93 : decode cX2_hang 93 = .ok (.iload 6, 2) := by decide +kernel
theorem dX2_hang_95 : decode cX2_hang 95 = .ok (.iadd, 1) := by decide +kernel
theorem dX2_hang_96 : decode cX2_hang 96 = .ok (.istore 4, 2) := by decide +kernel
theorem dX2_hang_98 : decode cX2_hang 98 = .ok (.iinc 6 1, 3) := by decide +kernel
theorem dX2_hang_101 : decode cX2_hang 101 = .ok (.goto (-39), 3) := by decide +kernel
theorem dX2_hang_104 : decode cX2_hang 104 = .ok (.iinc 5 1, 3) := by decide +kernel
theorem dX2_hang_107 : decode cX2_hang 107 = .ok (.goto (-73), 3) := by decide +kernel
theorem dX2_hang_110 : decode cX2_hang 110 = .ok (.iload 4, 2) := by decide +kernel
theorem dX2_hang_112 : decode cX2_hang 112 = .ok (.ireturn, 1) := by decide +kernel
set_option maxRecDepth 20000 in
theorem ggX2_change_X2_reckonShifts : GoodIn wsX2_change wsX2_reckonShifts := goodIn_r _ [7, 8, 1, 2, 9, 10, 11, 12, 13, 14, 15, 16, 17, 18, 19, 20, 21, 22, 23, 24, 25, 26, 27, 28, 29, 30, 31, 32, 33, 34, 35, 36, 37, 38, 39, 40, 41, 42, 43, 44, 45, 46, 47, 48, 49, 77, 78, 79, 80, 81, 82, 83, 84, 85, 86, 87, 88, 89, 90, 91, 92, 93, 94, 95, 96, 97, 98, 99] (by decide +kernel) (by decide +kernel)
set_option maxRecDepth 20000 in
theorem gX2_change_X2_reckonShifts : GoodIn wsX2_change (wsV RX2 202 RX2 yX2_reckonShifts wsX2_reckonShifts) := goodIn_app (goodIn_of _ (by decide +kernel)) ggX2_change_X2_reckonShifts
set_option maxRecDepth 20000 in
theorem ggX2_change_X0_pullAfter : GoodIn wsX2_change wsX0_pullAfter := goodIn_r _ [53, 19, 18, 22, 54, 40, 41, 13, 42, 17, 21, 23, 43, 44, 45, 46, 20, 47, 48, 49, 28, 29, 30, 31, 91, 92, 93, 94, 95, 96, 97, 98, 99] (by decide +kernel) (by decide +kernel)
set_option maxRecDepth 20000 in
theorem gX2_change_X0_pullAfter : GoodIn wsX2_change (wsV RX2 176 RX0 yX0_pullAfter wsX0_pullAfter) := goodIn_app (goodIn_of _ (by decide +kernel)) ggX2_change_X0_pullAfter
set_option maxRecDepth 20000 in
theorem ggX2_change_X0_bitsAt : GoodIn wsX2_change wsX0_bitsAt := goodIn_r _ [58, 18, 59, 25, 26, 13, 27, 22, 28, 29, 30, 31, 91, 92, 93, 94, 95, 96, 97, 98, 99] (by decide +kernel) (by decide +kernel)
set_option maxRecDepth 20000 in
theorem gX2_change_X0_bitsAt : GoodIn wsX2_change (wsV RX2 124 RX0 yX0_bitsAt wsX0_bitsAt) := goodIn_app (goodIn_of _ (by decide +kernel)) ggX2_change_X0_bitsAt
set_option maxRecDepth 20000 in
theorem ggX2_change_J6_bitCount_0f7a4 : GoodIn wsX2_change wsJ6_bitCount_0f7a4 := goodIn_r _ [63, 64, 65, 66] (by decide +kernel) (by decide +kernel)
set_option maxRecDepth 20000 in
theorem gX2_change_J6_bitCount_0f7a4 : GoodIn wsX2_change (va_wsS RX2 205 yJ6_bitCount_0f7a4 wsJ6_bitCount_0f7a4) := goodIn_app (goodIn_of _ (by decide +kernel)) ggX2_change_J6_bitCount_0f7a4
set_option maxRecDepth 20000 in
theorem ggX2_change_X2_shiftOf : GoodIn wsX2_change wsX2_shiftOf := goodIn_r _ [70, 1, 2, 9, 77, 78, 79, 80, 81, 82, 83, 84, 85, 86, 87, 88, 89, 90, 91, 92, 93, 94, 95, 96, 97, 98, 99] (by decide +kernel) (by decide +kernel)
set_option maxRecDepth 20000 in
theorem gX2_change_X2_shiftOf : GoodIn wsX2_change (wsV RX2 210 RX2 yX2_shiftOf wsX2_shiftOf) := goodIn_app (goodIn_of _ (by decide +kernel)) ggX2_change_X2_shiftOf
set_option maxRecDepth 20000 in
theorem ggX2_change_X0_speedBy : GoodIn wsX2_change wsX0_speedBy := goodIn_r _ [73, 74, 75, 45, 76, 43, 44, 46] (by decide +kernel) (by decide +kernel)
set_option maxRecDepth 20000 in
theorem gX2_change_X0_speedBy : GoodIn wsX2_change (va_wsS RX2 213 yX0_speedBy wsX0_speedBy) := goodIn_app (goodIn_of _ (by decide +kernel)) ggX2_change_X0_speedBy
theorem dX2_change_0 : decode cX2_change 0 = .ok (.aload_n 0, 1) := by decide +kernel
theorem dX2_change_1 : decode cX2_change 1 = .ok (.invokevirtual 202, 3) := by decide +kernel
theorem dX2_change_4 : decode cX2_change 4 = .ok (.aload_n 0, 1) := by decide +kernel
theorem dX2_change_5 : decode cX2_change 5 = .ok (.getfield 10, 3) := by decide +kernel
theorem dX2_change_8 : decode cX2_change 8 = .ok (.iconst 0, 1) := by decide +kernel
theorem dX2_change_9 : decode cX2_change 9 = .ok (.invokevirtual 176, 3) := by decide +kernel
theorem dX2_change_12 : decode cX2_change 12 = .ok (.istore_n 1, 1) := by decide +kernel
theorem dX2_change_13 : decode cX2_change 13 = .ok (.aload_n 0, 1) := by decide +kernel
theorem dX2_change_14 : decode cX2_change 14 = .ok (.getfield 10, 3) := by decide +kernel
theorem dX2_change_17 : decode cX2_change 17 = .ok (.iconst 2, 1) := by decide +kernel
theorem dX2_change_18 : decode cX2_change 18 = .ok (.invokevirtual 124, 3) := by decide +kernel
theorem dX2_change_21 : decode cX2_change 21 = .ok (.istore_n 2, 1) := by decide +kernel
theorem dX2_change_22 : decode cX2_change 22 = .ok (.bipush (-9), 2) := by decide +kernel
theorem dX2_change_24 : decode cX2_change 24 = .ok (.istore_n 3, 1) := by decide +kernel
theorem dX2_change_25 : decode cX2_change 25 = .ok (.bipush 9, 2) := by decide +kernel
theorem dX2_change_27 : decode cX2_change 27 = .ok (.istore 4, 2) := by decide +kernel
theorem dX2_change_29 : decode cX2_change 29 = .ok (.iconst 0, 1) := by decide +kernel
theorem dX2_change_30 : decode cX2_change 30 = .ok (.istore 5, 2) := by decide +kernel
theorem dX2_change_32 : decode cX2_change 32 = .ok (.iload 5, 2) := by decide +kernel
theorem dX2_change_34 : decode cX2_change 34 = .ok (.iconst 1, 1) := by decide +kernel
theorem dX2_change_35 : decode cX2_change 35 = .ok (.aload_n 0, 1) := by decide +kernel
theorem dX2_change_36 : decode cX2_change 36 = .ok (.getfield 10, 3) := by decide +kernel
theorem dX2_change_39 : decode cX2_change 39 = .ok (.getfield 196, 3) := by decide +kernel
theorem dX2_change_42 : decode cX2_change 42 = .ok (.ishl, 1) := by decide +kernel
theorem dX2_change_43 : decode cX2_change 43 = .ok (.if_icmp .ge 50, 3) := by decide +kernel
theorem dX2_change_46 : decode cX2_change 46 = .ok (.iload 5, 2) := by decide +kernel
theorem dX2_change_48 : decode cX2_change 48 = .ok (.iload_n 2, 1) := by decide +kernel
theorem dX2_change_49 : decode cX2_change 49 = .ok (.iand, 1) := by decide +kernel
theorem dX2_change_50 : decode cX2_change 50 = .ok (.ifCond .ne 37, 3) := by decide +kernel
theorem dX2_change_53 : decode cX2_change 53 = .ok (.iload 5, 2) := by decide +kernel
theorem dX2_change_55 : decode cX2_change 55 = .ok (.invokestatic 205, 3) := by decide +kernel
theorem dX2_change_58 : decode cX2_change 58 = .ok (.iload 4, 2) := by decide +kernel
theorem dX2_change_60 : decode cX2_change 60 = .ok (.if_icmp .ge 27, 3) := by decide +kernel
theorem dX2_change_63 : decode cX2_change 63 = .ok (.iload_n 1, 1) := by decide +kernel
theorem dX2_change_64 : decode cX2_change 64 = .ok (.aload_n 0, 1) := by decide +kernel
theorem dX2_change_65 : decode cX2_change 65 = .ok (.iload 5, 2) := by decide +kernel
theorem dX2_change_67 : decode cX2_change 67 = .ok (.invokevirtual 210, 3) := by decide +kernel
theorem dX2_change_70 : decode cX2_change 70 = .ok (.iadd, 1) := by decide +kernel
theorem dX2_change_71 : decode cX2_change 71 = .ok (.invokestatic 213, 3) := by decide +kernel
theorem dX2_change_74 : decode cX2_change 74 = .ok (.ifCond .ne 13, 3) := by decide +kernel
theorem dX2_change_77 : decode cX2_change 77 = .ok (.iload 5, 2) := by decide +kernel
theorem dX2_change_79 : decode cX2_change 79 = .ok (.invokestatic 205, 3) := by decide +kernel
theorem dX2_change_82 : decode cX2_change 82 = .ok (.istore 4, 2) := by decide +kernel
theorem dX2_change_84 : decode cX2_change 84 = .ok (.iload 5, 2) := by decide +kernel
theorem dX2_change_86 : decode cX2_change 86 = .ok (.istore_n 3, 1) := by decide +kernel
theorem dX2_change_87 : decode cX2_change 87 = .ok (.iinc 5 1, 3) := by decide +kernel
theorem dX2_change_90 : decode cX2_change 90 = .ok (.goto (-58), 3) := by decide +kernel
theorem dX2_change_93 : decode cX2_change 93 = .ok (.iload_n 3, 1) := by decide +kernel
theorem dX2_change_94 : decode cX2_change 94 = .ok (.ireturn, 1) := by decide +kernel
set_option maxRecDepth 20000 in
theorem ggX2_ballast_X0_isSide : GoodIn wsX2_ballast wsX0_isSide := goodIn_r _ [5] (by decide +kernel) (by decide +kernel)
set_option maxRecDepth 20000 in
theorem gX2_ballast_X0_isSide : GoodIn wsX2_ballast (va_wsS RX2 109 yX0_isSide wsX0_isSide) := goodIn_app (goodIn_of _ (by decide +kernel)) ggX2_ballast_X0_isSide
set_option maxRecDepth 20000 in
theorem ggX2_ballast_X2_refuse : GoodIn wsX2_ballast wsX2_refuse := goodIn_r _ [10, 11, 68, 69, 70, 71, 72, 73, 74, 75, 76, 77, 78, 79, 80, 81] (by decide +kernel) (by decide +kernel)
set_option maxRecDepth 20000 in
theorem gX2_ballast_X2_refuse : GoodIn wsX2_ballast (wsV RX2 63 RX2 yX2_refuse wsX2_refuse) := goodIn_app (goodIn_of _ (by decide +kernel)) ggX2_ballast_X2_refuse
set_option maxRecDepth 20000 in
theorem ggX2_ballast_X2_faultOf : GoodIn wsX2_ballast wsX2_faultOf := goodIn_r _ [14] (by decide +kernel) (by decide +kernel)
set_option maxRecDepth 20000 in
theorem gX2_ballast_X2_faultOf : GoodIn wsX2_ballast (va_wsS RX2 140 yX2_faultOf wsX2_faultOf) := goodIn_app (goodIn_of _ (by decide +kernel)) ggX2_ballast_X2_faultOf
set_option maxRecDepth 20000 in
theorem ggX2_ballast_X2_reckonPulls : GoodIn wsX2_ballast wsX2_reckonPulls := goodIn_r _ [18, 19, 1, 20, 21, 22, 4, 23, 24, 25, 26, 27, 28, 29, 30, 31, 32, 33, 34, 35, 36, 37, 38, 39, 40, 41, 42, 43, 44, 45, 68, 69, 70, 71, 72, 73, 74, 75, 76, 77, 78, 79, 80, 81, 82, 83, 84, 85, 86, 87, 88, 89, 90] (by decide +kernel) (by decide +kernel)
set_option maxRecDepth 20000 in
theorem gX2_ballast_X2_reckonPulls : GoodIn wsX2_ballast (wsV RX2 216 RX2 yX2_reckonPulls wsX2_reckonPulls) := goodIn_app (goodIn_of _ (by decide +kernel)) ggX2_ballast_X2_reckonPulls
set_option maxRecDepth 20000 in
theorem ggX2_ballast_X0_ballastOf : GoodIn wsX2_ballast wsX0_ballastOf := goodIn_r _ [49, 24, 50, 3, 4, 5, 82, 83, 84, 85, 86, 87, 88, 89, 90] (by decide +kernel) (by decide +kernel)
set_option maxRecDepth 20000 in
theorem gX2_ballast_X0_ballastOf : GoodIn wsX2_ballast (wsV RX2 118 RX0 yX0_ballastOf wsX0_ballastOf) := goodIn_app (goodIn_of _ (by decide +kernel)) ggX2_ballast_X0_ballastOf
set_option maxRecDepth 20000 in
theorem ggX2_ballast_X2_apartIfPulled : GoodIn wsX2_ballast wsX2_apartIfPulled := goodIn_r _ [54, 1, 55, 19, 56, 57, 4, 58, 34, 35, 36, 37, 39, 40, 41, 59, 60, 61, 62, 63, 64, 65, 66, 67, 68, 69, 70, 71, 72, 73, 74, 75, 76, 77, 78, 79, 80, 81, 82, 83, 84, 85, 86, 87, 88, 89, 90] (by decide +kernel) (by decide +kernel)
set_option maxRecDepth 20000 in
theorem gX2_ballast_X2_apartIfPulled : GoodIn wsX2_ballast (wsV RX2 219 RX2 yX2_apartIfPulled wsX2_apartIfPulled) := goodIn_app (goodIn_of _ (by decide +kernel)) ggX2_ballast_X2_apartIfPulled
theorem dX2_ballast_0 : decode cX2_ballast 0 = .ok (.iload_n 1, 1) := by decide +kernel
theorem dX2_ballast_1 : decode cX2_ballast 1 = .ok (.invokestatic 109, 3) := by decide +kernel
theorem dX2_ballast_4 : decode cX2_ballast 4 = .ok (.ifCond .ne 9, 3) := by decide +kernel
theorem dX2_ballast_7 : decode cX2_ballast 7 = .ok (.aload_n 0, 1) := by decide +kernel
theorem dX2_ballast_8 : decode cX2_ballast 8 = .ok (.iconst (-1), 1) := by decide +kernel
theorem dX2_ballast_9 : decode cX2_ballast 9 = .ok (.invokevirtual 63, 3) := by decide +kernel
theorem dX2_ballast_12 : decode cX2_ballast 12 = .ok (.ireturn, 1) := by decide +kernel
theorem dX2_ballast_13 : decode cX2_ballast 13 = .ok (.iload_n 2, 1) := by decide +kernel
theorem dX2_ballast_14 : decode cX2_ballast 14 = .ok (.iconst 0, 1) := by decide +kernel
theorem dX2_ballast_15 : decode cX2_ballast 15 = .ok (.bipush 30, 2) := by decide +kernel
theorem dX2_ballast_17 : decode cX2_ballast 17 = .ok (.invokestatic 140, 3) := by decide +kernel
theorem dX2_ballast_20 : decode cX2_ballast 20 = .ok (.istore 4, 2) := by decide +kernel
theorem dX2_ballast_22 : decode cX2_ballast 22 = .ok (.iload 4, 2) := by decide +kernel
theorem dX2_ballast_24 : decode cX2_ballast 24 = .ok (.ifCond .eq 10, 3) := by decide +kernel
theorem dX2_ballast_27 : decode cX2_ballast 27 = .ok (.aload_n 0, 1) := by decide +kernel
theorem dX2_ballast_28 : decode cX2_ballast 28 = .ok (.iload 4, 2) := by decide +kernel
theorem dX2_ballast_30 : decode cX2_ballast 30 = .ok (.invokevirtual 63, 3) := by decide +kernel
theorem dX2_ballast_33 : decode cX2_ballast 33 = .ok (.ireturn, 1) := by decide +kernel
theorem dX2_ballast_34 : decode cX2_ballast 34 = .ok (.iload_n 3, 1) := by decide +kernel
theorem dX2_ballast_35 : decode cX2_ballast 35 = .ok (.ifCond .eq 15, 3) := by decide +kernel
theorem dX2_ballast_38 : decode cX2_ballast 38 = .ok (.iload_n 3, 1) := by decide +kernel
theorem dX2_ballast_39 : decode cX2_ballast 39 = .ok (.iconst 1, 1) := by decide +kernel
theorem dX2_ballast_40 : decode cX2_ballast 40 = .ok (.if_icmp .eq 10, 3) := by decide +kernel
theorem dX2_ballast_43 : decode cX2_ballast 43 = .ok (.aload_n 0, 1) := by decide +kernel
theorem dX2_ballast_44 : decode cX2_ballast 44 = .ok (.bipush (-2), 2) := by decide +kernel
theorem dX2_ballast_46 : decode cX2_ballast 46 = .ok (.invokevirtual 63, 3) := by decide +kernel
theorem dX2_ballast_49 : decode cX2_ballast 49 = .ok (.ireturn, 1) := by decide +kernel
theorem dX2_ballast_50 : decode cX2_ballast 50 = .ok (.aload_n 0, 1) := by decide +kernel
theorem dX2_ballast_51 : decode cX2_ballast 51 = .ok (.iload_n 2, 1) := by decide +kernel
theorem dX2_ballast_52 : decode cX2_ballast 52 = .ok (.invokevirtual 216, 3) := by decide +kernel
theorem dX2_ballast_55 : decode cX2_ballast 55 = .ok (.bipush 21, 2) := by decide +kernel
theorem dX2_ballast_57 : decode cX2_ballast 57 = .ok (.istore 5, 2) := by decide +kernel
theorem dX2_ballast_59 : decode cX2_ballast 59 = .ok (.bipush (-9), 2) := by decide +kernel
theorem dX2_ballast_61 : decode cX2_ballast 61 = .ok (.istore 6, 2) := by decide +kernel
theorem dX2_ballast_63 : decode cX2_ballast 63 = .ok (.iconst 0, 1) := by decide +kernel
theorem dX2_ballast_64 : decode cX2_ballast 64 = .ok (.istore 7, 2) := by decide +kernel
theorem dX2_ballast_66 : decode cX2_ballast 66 = .ok (.iload 7, 2) := by decide +kernel
theorem dX2_ballast_68 : decode cX2_ballast 68 = .ok (.bipush 50, 2) := by decide +kernel
theorem dX2_ballast_70 : decode cX2_ballast 70 = .ok (.if_icmp .gt 56, 3) := by decide +kernel
theorem dX2_ballast_73 : decode cX2_ballast 73 = .ok (.iload 7, 2) := by decide +kernel
theorem dX2_ballast_75 : decode cX2_ballast 75 = .ok (.aload_n 0, 1) := by decide +kernel
theorem dX2_ballast_76 : decode cX2_ballast 76 = .ok (.getfield 10, 3) := by decide +kernel
theorem dX2_ballast_79 : decode cX2_ballast 79 = .ok (.iload_n 1, 1) := by decide +kernel
theorem dX2_ballast_80 : decode cX2_ballast 80 = .ok (.invokevirtual 118, 3) := by decide +kernel
theorem dX2_ballast_83 : decode cX2_ballast 83 = .ok (.isub, 1) := by decide +kernel
theorem dX2_ballast_84 : decode cX2_ballast 84 = .ok (.istore 8, 2) := by decide +kernel
theorem dX2_ballast_86 : decode cX2_ballast 86 = .ok (.aload_n 0, 1) := by decide +kernel
theorem dX2_ballast_87 : decode cX2_ballast 87 = .ok (.iload_n 1, 1) := by decide +kernel
theorem dX2_ballast_88 : decode cX2_ballast 88 = .ok (.ifCond .ne 8, 3) := by decide +kernel
theorem dX2_ballast_91 : decode cX2_ballast 91 = .ok (.iload 8, 2) := by decide +kernel
theorem dX2_ballast_93 : decode cX2_ballast 93 = .ok (.goto 6, 3) := by decide +kernel
theorem dX2_ballast_96 : decode cX2_ballast 96 = .ok (.iload 8, 2) := by decide +kernel
theorem dX2_ballast_98 : decode cX2_ballast 98 = .ok (.ineg, 1) := by decide +kernel
theorem dX2_ballast_99 : decode cX2_ballast 99 = .ok (.iload_n 2, 1) := by decide +kernel
theorem dX2_ballast_100 : decode cX2_ballast 100 = .ok (.invokevirtual 219, 3) := by decide +kernel
theorem dX2_ballast_103 : decode cX2_ballast 103 = .ok (.istore 9, 2) := by decide +kernel
theorem dX2_ballast_105 : decode cX2_ballast 105 = .ok (.iload 9, 2) := by decide +kernel
theorem dX2_ballast_107 : decode cX2_ballast 107 = .ok (.iload 5, 2) := by decide +kernel
theorem dX2_ballast_109 : decode cX2_ballast 109 = .ok (.if_icmp .ge 11, 3) := by decide +kernel
theorem dX2_ballast_112 : decode cX2_ballast 112 = .ok (.iload 9, 2) := by decide +kernel
theorem dX2_ballast_114 : decode cX2_ballast 114 = .ok (.istore 5, 2) := by decide +kernel
theorem dX2_ballast_116 : decode cX2_ballast 116 = .ok (.iload 7, 2) := by decide +kernel
theorem dX2_ballast_118 : decode cX2_ballast 118 = .ok (.istore 6, 2) := by decide +kernel
theorem dX2_ballast_120 : decode cX2_ballast 120 = .ok (.iinc 7 1, 3) := by decide +kernel
theorem dX2_ballast_123 : decode cX2_ballast 123 = .ok (.goto (-57), 3) := by decide +kernel
theorem dX2_ballast_126 : decode cX2_ballast 126 = .ok (.iload_n 3, 1) := by decide +kernel
theorem dX2_ballast_127 : decode cX2_ballast 127 = .ok (.ifCond .ne 8, 3) := by decide +kernel
theorem dX2_ballast_130 : decode cX2_ballast 130 = .ok (.iload 6, 2) := by decide +kernel
theorem dX2_ballast_132 : decode cX2_ballast 132 = .ok (.goto 5, 3) := by decide +kernel
theorem dX2_ballast_135 : decode cX2_ballast 135 = .ok (.iload 5, 2) := by decide +kernel
theorem dX2_ballast_137 : decode cX2_ballast 137 = .ok (.ireturn, 1) := by decide +kernel
set_option maxRecDepth 20000 in
theorem ggX2_mustWeigh_X0_has : GoodIn wsX2_mustWeigh wsX0_has := goodIn_r _ [7, 8, 94, 95, 96, 97, 98, 99, 100, 101, 102] (by decide +kernel) (by decide +kernel)
set_option maxRecDepth 20000 in
theorem gX2_mustWeigh_X0_has : GoodIn wsX2_mustWeigh (wsV RX2 89 RX0 yX0_has wsX0_has) := goodIn_app (goodIn_of _ (by decide +kernel)) ggX2_mustWeigh_X0_has
set_option maxRecDepth 20000 in
theorem ggX2_mustWeigh_X0_isSide : GoodIn wsX2_mustWeigh wsX0_isSide := goodIn_r _ [11] (by decide +kernel) (by decide +kernel)
set_option maxRecDepth 20000 in
theorem gX2_mustWeigh_X0_isSide : GoodIn wsX2_mustWeigh (va_wsS RX2 109 yX0_isSide wsX0_isSide) := goodIn_app (goodIn_of _ (by decide +kernel)) ggX2_mustWeigh_X0_isSide
set_option maxRecDepth 20000 in
theorem ggX2_mustWeigh_X2_refuse : GoodIn wsX2_mustWeigh wsX2_refuse := goodIn_r _ [16, 17, 80, 81, 82, 83, 84, 85, 86, 87, 88, 89, 90, 91, 92, 93] (by decide +kernel) (by decide +kernel)
set_option maxRecDepth 20000 in
theorem gX2_mustWeigh_X2_refuse : GoodIn wsX2_mustWeigh (wsV RX2 63 RX2 yX2_refuse wsX2_refuse) := goodIn_app (goodIn_of _ (by decide +kernel)) ggX2_mustWeigh_X2_refuse
set_option maxRecDepth 20000 in
theorem ggX2_mustWeigh_X2_faultOf : GoodIn wsX2_mustWeigh wsX2_faultOf := goodIn_r _ [20] (by decide +kernel) (by decide +kernel)
set_option maxRecDepth 20000 in
theorem gX2_mustWeigh_X2_faultOf : GoodIn wsX2_mustWeigh (va_wsS RX2 140 yX2_faultOf wsX2_faultOf) := goodIn_app (goodIn_of _ (by decide +kernel)) ggX2_mustWeigh_X2_faultOf
set_option maxRecDepth 20000 in
theorem ggX2_mustWeigh_X0_copy : GoodIn wsX2_mustWeigh wsX0_copy := goodIn_r _ [24, 25, 26, 27, 8, 28, 29, 30, 31, 32, 94, 95, 96, 97, 98, 99, 100, 101, 102] (by decide +kernel) (by decide +kernel)
set_option maxRecDepth 20000 in
theorem gX2_mustWeigh_X0_copy : GoodIn wsX2_mustWeigh (wsV RX2 78 RX0 yX0_copy wsX0_copy) := goodIn_app (goodIn_of _ (by decide +kernel)) ggX2_mustWeigh_X0_copy
set_option maxRecDepth 20000 in
theorem ggX2_mustWeigh_X0_kindOf : GoodIn wsX2_mustWeigh wsX0_kindOf := goodIn_r _ [36, 29, 37, 4, 5, 6, 7, 8, 94, 95, 96, 97, 98, 99, 100, 101, 102] (by decide +kernel) (by decide +kernel)
set_option maxRecDepth 20000 in
theorem gX2_mustWeigh_X0_kindOf : GoodIn wsX2_mustWeigh (wsV RX2 93 RX0 yX0_kindOf wsX0_kindOf) := goodIn_app (goodIn_of _ (by decide +kernel)) ggX2_mustWeigh_X0_kindOf
set_option maxRecDepth 20000 in
theorem ggX2_mustWeigh_X0_become : GoodIn wsX2_mustWeigh wsX0_become := goodIn_r _ [41, 29, 30, 37, 4, 5, 6, 7, 8, 94, 95, 96, 97, 98, 99, 100, 101, 102] (by decide +kernel) (by decide +kernel)
set_option maxRecDepth 20000 in
theorem gX2_mustWeigh_X0_become : GoodIn wsX2_mustWeigh (wsV RX2 162 RX0 yX0_become wsX0_become) := goodIn_app (goodIn_of _ (by decide +kernel)) ggX2_mustWeigh_X0_become
set_option maxRecDepth 20000 in
theorem ggX2_mustWeigh_X0_floorAfter : GoodIn wsX2_mustWeigh wsX0_floorAfter := goodIn_r _ [45, 25, 46, 47, 48, 6, 49, 28, 8, 31, 50, 51, 52, 53, 27, 30, 32, 54, 55, 56, 57, 29, 58, 59, 60, 37, 4, 5, 7, 61, 62, 63, 64, 65, 66, 67, 68, 69, 94, 95, 96, 97, 98, 99, 100, 101, 102] (by decide +kernel) (by decide +kernel)
set_option maxRecDepth 20000 in
theorem gX2_mustWeigh_X0_floorAfter : GoodIn wsX2_mustWeigh (wsV RX2 172 RX0 yX0_floorAfter wsX0_floorAfter) := goodIn_app (goodIn_of _ (by decide +kernel)) ggX2_mustWeigh_X0_floorAfter
set_option maxRecDepth 20000 in
theorem ggX2_mustWeigh_X0_heightOf : GoodIn wsX2_mustWeigh wsX0_heightOf := goodIn_r _ [72] (by decide +kernel) (by decide +kernel)
set_option maxRecDepth 20000 in
theorem gX2_mustWeigh_X0_heightOf : GoodIn wsX2_mustWeigh (va_wsS RX2 115 yX0_heightOf wsX0_heightOf) := goodIn_app (goodIn_of _ (by decide +kernel)) ggX2_mustWeigh_X0_heightOf
set_option maxRecDepth 20000 in
theorem ggX2_mustWeigh_X0_isDoor : GoodIn wsX2_mustWeigh wsX0_isDoor := goodIn_r _ [76, 26, 77, 78, 6, 79, 94, 95, 96, 97, 98, 99, 100, 101, 102] (by decide +kernel) (by decide +kernel)
set_option maxRecDepth 20000 in
theorem gX2_mustWeigh_X0_isDoor : GoodIn wsX2_mustWeigh (wsV RX2 156 RX0 yX0_isDoor wsX0_isDoor) := goodIn_app (goodIn_of _ (by decide +kernel)) ggX2_mustWeigh_X0_isDoor
theorem dX2_mustWeigh_0 : decode cX2_mustWeigh 0 = .ok (.aload_n 0, 1) := by decide +kernel
theorem dX2_mustWeigh_1 : decode cX2_mustWeigh 1 = .ok (.getfield 10, 3) := by decide +kernel
theorem dX2_mustWeigh_4 : decode cX2_mustWeigh 4 = .ok (.iload_n 1, 1) := by decide +kernel
theorem dX2_mustWeigh_5 : decode cX2_mustWeigh 5 = .ok (.invokevirtual 89, 3) := by decide +kernel
theorem dX2_mustWeigh_8 : decode cX2_mustWeigh 8 = .ok (.ifCond .eq 10, 3) := by decide +kernel
theorem dX2_mustWeigh_11 : decode cX2_mustWeigh 11 = .ok (.iload_n 2, 1) := by decide +kernel
theorem dX2_mustWeigh_12 : decode cX2_mustWeigh 12 = .ok (.invokestatic 109, 3) := by decide +kernel
theorem dX2_mustWeigh_15 : decode cX2_mustWeigh 15 = .ok (.ifCond .ne 9, 3) := by decide +kernel
theorem dX2_mustWeigh_18 : decode cX2_mustWeigh 18 = .ok (.aload_n 0, 1) := by decide +kernel
theorem dX2_mustWeigh_19 : decode cX2_mustWeigh 19 = .ok (.iconst (-1), 1) := by decide +kernel
theorem dX2_mustWeigh_20 : decode cX2_mustWeigh 20 = .ok (.invokevirtual 63, 3) := by decide +kernel
theorem dX2_mustWeigh_23 : decode cX2_mustWeigh 23 = .ok (.ireturn, 1) := by decide +kernel
theorem dX2_mustWeigh_24 : decode cX2_mustWeigh 24 = .ok (.iload_n 3, 1) := by decide +kernel
theorem dX2_mustWeigh_25 : decode cX2_mustWeigh 25 = .ok (.iconst 0, 1) := by decide +kernel
theorem dX2_mustWeigh_26 : decode cX2_mustWeigh 26 = .ok (.bipush 30, 2) := by decide +kernel
theorem dX2_mustWeigh_28 : decode cX2_mustWeigh 28 = .ok (.invokestatic 140, 3) := by decide +kernel
theorem dX2_mustWeigh_31 : decode cX2_mustWeigh 31 = .ok (.istore 4, 2) := by decide +kernel
theorem dX2_mustWeigh_33 : decode cX2_mustWeigh 33 = .ok (.iload 4, 2) := by decide +kernel
theorem dX2_mustWeigh_35 : decode cX2_mustWeigh 35 = .ok (.ifCond .eq 10, 3) := by decide +kernel
theorem dX2_mustWeigh_38 : decode cX2_mustWeigh 38 = .ok (.aload_n 0, 1) := by decide +kernel
theorem dX2_mustWeigh_39 : decode cX2_mustWeigh 39 = .ok (.iload 4, 2) := by decide +kernel
theorem dX2_mustWeigh_41 : decode cX2_mustWeigh 41 = .ok (.invokevirtual 63, 3) := by decide +kernel
theorem dX2_mustWeigh_44 : decode cX2_mustWeigh 44 = .ok (.ireturn, 1) := by decide +kernel
theorem dX2_mustWeigh_45 : decode cX2_mustWeigh 45 = .ok (.aload_n 0, 1) := by decide +kernel
theorem dX2_mustWeigh_46 : decode cX2_mustWeigh 46 = .ok (.getfield 16, 3) := by decide +kernel
theorem dX2_mustWeigh_49 : decode cX2_mustWeigh 49 = .ok (.aload_n 0, 1) := by decide +kernel
theorem dX2_mustWeigh_50 : decode cX2_mustWeigh 50 = .ok (.getfield 10, 3) := by decide +kernel
theorem dX2_mustWeigh_53 : decode cX2_mustWeigh 53 = .ok (.invokevirtual 78, 3) := by decide +kernel
theorem dX2_mustWeigh_56 : decode cX2_mustWeigh 56 = .ok (.iconst 0, 1) := by decide +kernel
theorem dX2_mustWeigh_57 : decode cX2_mustWeigh 57 = .ok (.istore 5, 2) := by decide +kernel
theorem dX2_mustWeigh_59 : decode cX2_mustWeigh 59 = .ok (.iload 5, 2) := by decide +kernel
theorem dX2_mustWeigh_61 : decode cX2_mustWeigh 61 = .ok (.bipush 9, 2) := by decide +kernel
theorem dX2_mustWeigh_63 : decode cX2_mustWeigh 63 = .ok (.if_icmp .gt 52, 3) := by decide +kernel
theorem dX2_mustWeigh_66 : decode cX2_mustWeigh 66 = .ok (.aload_n 0, 1) := by decide +kernel
theorem dX2_mustWeigh_67 : decode cX2_mustWeigh 67 = .ok (.getfield 16, 3) := by decide +kernel
theorem dX2_mustWeigh_70 : decode cX2_mustWeigh 70 = .ok (.iload_n 1, 1) := by decide +kernel
theorem dX2_mustWeigh_71 : decode cX2_mustWeigh 71 = .ok (.aload_n 0, 1) := by decide +kernel
theorem dX2_mustWeigh_72 : decode cX2_mustWeigh 72 = .ok (.getfield 10, 3) := by decide +kernel
theorem dX2_mustWeigh_75 : decode cX2_mustWeigh 75 = .ok (.iload_n 1, 1) := by decide +kernel
theorem dX2_mustWeigh_76 : decode cX2_mustWeigh 76 = .ok (.invokevirtual 93, 3) := by decide +kernel
theorem dX2_mustWeigh_79 : decode cX2_mustWeigh 79 = .ok (.iload 5, 2) := by decide +kernel
theorem dX2_mustWeigh_81 : decode cX2_mustWeigh 81 = .ok (.invokevirtual 162, 3) := by decide +kernel
theorem dX2_mustWeigh_84 : decode cX2_mustWeigh 84 = .ok (.aload_n 0, 1) := by decide +kernel
theorem dX2_mustWeigh_85 : decode cX2_mustWeigh 85 = .ok (.getfield 16, 3) := by decide +kernel
theorem dX2_mustWeigh_88 : decode cX2_mustWeigh 88 = .ok (.iload_n 2, 1) := by decide +kernel
theorem dX2_mustWeigh_89 : decode cX2_mustWeigh 89 = .ok (.aload_n 0, 1) := by decide +kernel
theorem dX2_mustWeigh_90 : decode cX2_mustWeigh 90 = .ok (.getfield 16, 3) := by decide +kernel
theorem dX2_mustWeigh_93 : decode cX2_mustWeigh 93 = .ok (.iload_n 3, 1) := by decide +kernel
theorem dX2_mustWeigh_94 : decode cX2_mustWeigh 94 = .ok (.invokevirtual 172, 3) := by decide +kernel
theorem dX2_mustWeigh_97 : decode cX2_mustWeigh 97 = .ok (.invokestatic 115, 3) := by decide +kernel
theorem dX2_mustWeigh_100 : decode cX2_mustWeigh 100 = .ok (.invokevirtual 156, 3) := by decide +kernel
theorem dX2_mustWeigh_103 : decode cX2_mustWeigh 103 = .ok (.ifCond .eq 6, 3) := by decide +kernel
theorem dX2_mustWeigh_106 : decode cX2_mustWeigh 106 = .ok (.iload 5, 2) := by decide +kernel
theorem dX2_mustWeigh_108 : decode cX2_mustWeigh 108 = .ok (.ireturn, 1) := by decide +kernel
theorem dX2_mustWeigh_109 : decode cX2_mustWeigh 109 = .ok (.iinc 5 1, 3) := by decide +kernel
theorem dX2_mustWeigh_112 : decode cX2_mustWeigh 112 = .ok (.goto (-53), 3) := by decide +kernel
theorem dX2_mustWeigh_115 : decode cX2_mustWeigh 115 = .ok (.bipush (-9), 2) := by decide +kernel
theorem dX2_mustWeigh_117 : decode cX2_mustWeigh 117 = .ok (.ireturn, 1) := by decide +kernel
set_option maxRecDepth 20000 in
theorem ggX2_bestKind_X0_has : GoodIn wsX2_bestKind wsX0_has := goodIn_r _ [7, 8, 88, 89, 90, 91, 92, 93, 94, 95, 96] (by decide +kernel) (by decide +kernel)
set_option maxRecDepth 20000 in
theorem gX2_bestKind_X0_has : GoodIn wsX2_bestKind (wsV RX2 89 RX0 yX0_has wsX0_has) := goodIn_app (goodIn_of _ (by decide +kernel)) ggX2_bestKind_X0_has
set_option maxRecDepth 20000 in
theorem ggX2_bestKind_X2_refuse : GoodIn wsX2_bestKind wsX2_refuse := goodIn_r _ [13, 14, 74, 75, 76, 77, 78, 79, 80, 81, 82, 83, 84, 85, 86, 87] (by decide +kernel) (by decide +kernel)
set_option maxRecDepth 20000 in
theorem gX2_bestKind_X2_refuse : GoodIn wsX2_bestKind (wsV RX2 63 RX2 yX2_refuse wsX2_refuse) := goodIn_app (goodIn_of _ (by decide +kernel)) ggX2_bestKind_X2_refuse
set_option maxRecDepth 20000 in
theorem ggX2_bestKind_X2_faultOf : GoodIn wsX2_bestKind wsX2_faultOf := goodIn_r _ [17] (by decide +kernel) (by decide +kernel)
set_option maxRecDepth 20000 in
theorem gX2_bestKind_X2_faultOf : GoodIn wsX2_bestKind (va_wsS RX2 140 yX2_faultOf wsX2_faultOf) := goodIn_app (goodIn_of _ (by decide +kernel)) ggX2_bestKind_X2_faultOf
set_option maxRecDepth 20000 in
theorem ggX2_bestKind_X0_copy : GoodIn wsX2_bestKind wsX0_copy := goodIn_r _ [21, 22, 23, 24, 8, 25, 26, 27, 28, 29, 88, 89, 90, 91, 92, 93, 94, 95, 96] (by decide +kernel) (by decide +kernel)
set_option maxRecDepth 20000 in
theorem gX2_bestKind_X0_copy : GoodIn wsX2_bestKind (wsV RX2 78 RX0 yX0_copy wsX0_copy) := goodIn_app (goodIn_of _ (by decide +kernel)) ggX2_bestKind_X0_copy
set_option maxRecDepth 20000 in
theorem ggX2_bestKind_X0_figureOf : GoodIn wsX2_bestKind wsX0_figureOf := goodIn_r _ [33, 27, 34, 4, 5, 6, 7, 8, 88, 89, 90, 91, 92, 93, 94, 95, 96] (by decide +kernel) (by decide +kernel)
set_option maxRecDepth 20000 in
theorem gX2_bestKind_X0_figureOf : GoodIn wsX2_bestKind (wsV RX2 96 RX0 yX0_figureOf wsX0_figureOf) := goodIn_app (goodIn_of _ (by decide +kernel)) ggX2_bestKind_X0_figureOf
set_option maxRecDepth 20000 in
theorem ggX2_bestKind_X0_become : GoodIn wsX2_bestKind wsX0_become := goodIn_r _ [38, 26, 27, 34, 4, 5, 6, 7, 8, 88, 89, 90, 91, 92, 93, 94, 95, 96] (by decide +kernel) (by decide +kernel)
set_option maxRecDepth 20000 in
theorem gX2_bestKind_X0_become : GoodIn wsX2_bestKind (wsV RX2 162 RX0 yX0_become wsX0_become) := goodIn_app (goodIn_of _ (by decide +kernel)) ggX2_bestKind_X0_become
set_option maxRecDepth 20000 in
theorem ggX2_bestKind_X0_apartAfter : GoodIn wsX2_bestKind wsX0_apartAfter := goodIn_r _ [42, 43, 44, 45, 6, 46, 22, 47, 48, 49, 50, 25, 8, 28, 51, 52, 53, 54, 24, 27, 29, 55, 56, 57, 58, 26, 59, 60, 61, 34, 4, 5, 7, 62, 63, 64, 65, 66, 67, 68, 69, 70, 71, 72, 73, 88, 89, 90, 91, 92, 93, 94, 95, 96] (by decide +kernel) (by decide +kernel)
set_option maxRecDepth 20000 in
theorem gX2_bestKind_X0_apartAfter : GoodIn wsX2_bestKind (wsV RX2 193 RX0 yX0_apartAfter wsX0_apartAfter) := goodIn_app (goodIn_of _ (by decide +kernel)) ggX2_bestKind_X0_apartAfter
theorem dX2_bestKind_0 : decode cX2_bestKind 0 = .ok (.aload_n 0, 1) := by decide +kernel
theorem dX2_bestKind_1 : decode cX2_bestKind 1 = .ok (.getfield 10, 3) := by decide +kernel
theorem dX2_bestKind_4 : decode cX2_bestKind 4 = .ok (.iload_n 1, 1) := by decide +kernel
theorem dX2_bestKind_5 : decode cX2_bestKind 5 = .ok (.invokevirtual 89, 3) := by decide +kernel
theorem dX2_bestKind_8 : decode cX2_bestKind 8 = .ok (.ifCond .ne 9, 3) := by decide +kernel
theorem dX2_bestKind_11 : decode cX2_bestKind 11 = .ok (.aload_n 0, 1) := by decide +kernel
theorem dX2_bestKind_12 : decode cX2_bestKind 12 = .ok (.iconst (-1), 1) := by decide +kernel
theorem dX2_bestKind_13 : decode cX2_bestKind 13 = .ok (.invokevirtual 63, 3) := by decide +kernel
theorem dX2_bestKind_16 : decode cX2_bestKind 16 = .ok (.ireturn, 1) := by decide +kernel
theorem dX2_bestKind_17 : decode cX2_bestKind 17 = .ok (.iload_n 2, 1) := by decide +kernel
theorem dX2_bestKind_18 : decode cX2_bestKind 18 = .ok (.iconst 0, 1) := by decide +kernel
theorem dX2_bestKind_19 : decode cX2_bestKind 19 = .ok (.bipush 30, 2) := by decide +kernel
theorem dX2_bestKind_21 : decode cX2_bestKind 21 = .ok (.invokestatic 140, 3) := by decide +kernel
theorem dX2_bestKind_24 : decode cX2_bestKind 24 = .ok (.istore 4, 2) := by decide +kernel
theorem dX2_bestKind_26 : decode cX2_bestKind 26 = .ok (.iload 4, 2) := by decide +kernel
theorem dX2_bestKind_28 : decode cX2_bestKind 28 = .ok (.ifCond .eq 10, 3) := by decide +kernel
theorem dX2_bestKind_31 : decode cX2_bestKind 31 = .ok (.aload_n 0, 1) := by decide +kernel
theorem dX2_bestKind_32 : decode cX2_bestKind 32 = .ok (.iload 4, 2) := by decide +kernel
theorem dX2_bestKind_34 : decode cX2_bestKind 34 = .ok (.invokevirtual 63, 3) := by decide +kernel
theorem dX2_bestKind_37 : decode cX2_bestKind 37 = .ok (.ireturn, 1) := by decide +kernel
theorem dX2_bestKind_38 : decode cX2_bestKind 38 = .ok (.iload_n 3, 1) := by decide +kernel
theorem dX2_bestKind_39 : decode cX2_bestKind 39 = .ok (.ifCond .eq 15, 3) := by decide +kernel
theorem dX2_bestKind_42 : decode cX2_bestKind 42 = .ok (.iload_n 3, 1) := by decide +kernel
theorem dX2_bestKind_43 : decode cX2_bestKind 43 = .ok (.iconst 1, 1) := by decide +kernel
theorem dX2_bestKind_44 : decode cX2_bestKind 44 = .ok (.if_icmp .eq 10, 3) := by decide +kernel
theorem dX2_bestKind_47 : decode cX2_bestKind 47 = .ok (.aload_n 0, 1) := by decide +kernel
theorem dX2_bestKind_48 : decode cX2_bestKind 48 = .ok (.bipush (-2), 2) := by decide +kernel
theorem dX2_bestKind_50 : decode cX2_bestKind 50 = .ok (.invokevirtual 63, 3) := by decide +kernel
theorem dX2_bestKind_53 : decode cX2_bestKind 53 = .ok (.ireturn, 1) := by decide +kernel
theorem dX2_bestKind_54 : decode cX2_bestKind 54 = .ok (.bipush 21, 2) := by decide +kernel
theorem dX2_bestKind_56 : decode cX2_bestKind 56 = .ok (.istore 5, 2) := by decide +kernel
theorem dX2_bestKind_58 : decode cX2_bestKind 58 = .ok (.bipush (-9), 2) := by decide +kernel
theorem dX2_bestKind_60 : decode cX2_bestKind 60 = .ok (.istore 6, 2) := by decide +kernel
theorem dX2_bestKind_62 : decode cX2_bestKind 62 = .ok (.aload_n 0, 1) := by decide +kernel
theorem dX2_bestKind_63 : decode cX2_bestKind 63 = .ok (.getfield 16, 3) := by decide +kernel
theorem dX2_bestKind_66 : decode cX2_bestKind 66 = .ok (.aload_n 0, 1) := by decide +kernel
theorem dX2_bestKind_67 : decode cX2_bestKind 67 = .ok (.getfield 10, 3) := by decide +kernel
theorem dX2_bestKind_70 : decode cX2_bestKind 70 = .ok (.invokevirtual 78, 3) := by decide +kernel
theorem dX2_bestKind_73 : decode cX2_bestKind 73 = .ok (.iconst 0, 1) := by decide +kernel
theorem dX2_bestKind_74 : decode cX2_bestKind 74 = .ok (.istore 7, 2) := by decide +kernel
theorem dX2_bestKind_76 : decode cX2_bestKind 76 = .ok (.iload 7, 2) := by decide +kernel
theorem dX2_bestKind_78 : decode cX2_bestKind 78 = .ok (.bipush 6, 2) := by decide +kernel
theorem dX2_bestKind_80 : decode cX2_bestKind 80 = .ok (.if_icmp .ge 52, 3) := by decide +kernel
theorem dX2_bestKind_83 : decode cX2_bestKind 83 = .ok (.aload_n 0, 1) := by decide +kernel
theorem dX2_bestKind_84 : decode cX2_bestKind 84 = .ok (.getfield 16, 3) := by decide +kernel
theorem dX2_bestKind_87 : decode cX2_bestKind 87 = .ok (.iload_n 1, 1) := by decide +kernel
theorem dX2_bestKind_88 : decode cX2_bestKind 88 = .ok (.iload 7, 2) := by decide +kernel
theorem dX2_bestKind_90 : decode cX2_bestKind 90 = .ok (.aload_n 0, 1) := by decide +kernel
theorem dX2_bestKind_91 : decode cX2_bestKind 91 = .ok (.getfield 10, 3) := by decide +kernel
theorem dX2_bestKind_94 : decode cX2_bestKind 94 = .ok (.iload_n 1, 1) := by decide +kernel
theorem dX2_bestKind_95 : decode cX2_bestKind 95 = .ok (.invokevirtual 96, 3) := by decide +kernel
theorem dX2_bestKind_98 : decode cX2_bestKind 98 = .ok (.invokevirtual 162, 3) := by decide +kernel
theorem dX2_bestKind_101 : decode cX2_bestKind 101 = .ok (.aload_n 0, 1) := by decide +kernel
theorem dX2_bestKind_102 : decode cX2_bestKind 102 = .ok (.getfield 16, 3) := by decide +kernel
theorem dX2_bestKind_105 : decode cX2_bestKind 105 = .ok (.iload_n 2, 1) := by decide +kernel
theorem dX2_bestKind_106 : decode cX2_bestKind 106 = .ok (.invokevirtual 193, 3) := by decide +kernel
theorem dX2_bestKind_109 : decode cX2_bestKind 109 = .ok (.istore 8, 2) := by decide +kernel
theorem dX2_bestKind_111 : decode cX2_bestKind 111 = .ok (.iload 8, 2) := by decide +kernel
theorem dX2_bestKind_113 : decode cX2_bestKind 113 = .ok (.iload 5, 2) := by decide +kernel
theorem dX2_bestKind_115 : decode cX2_bestKind 115 = .ok (.if_icmp .ge 11, 3) := by decide +kernel
theorem dX2_bestKind_118 : decode cX2_bestKind 118 = .ok (.iload 8, 2) := by decide +kernel
theorem dX2_bestKind_120 : decode cX2_bestKind 120 = .ok (.istore 5, 2) := by decide +kernel
theorem dX2_bestKind_122 : decode cX2_bestKind 122 = .ok (.iload 7, 2) := by decide +kernel
theorem dX2_bestKind_124 : decode cX2_bestKind 124 = .ok (.istore 6, 2) := by decide +kernel
theorem dX2_bestKind_126 : decode cX2_bestKind 126 = .ok (.iinc 7 1, 3) := by decide +kernel
theorem dX2_bestKind_129 : decode cX2_bestKind 129 = .ok (.goto (-53), 3) := by decide +kernel
theorem dX2_bestKind_132 : decode cX2_bestKind 132 = .ok (.iload_n 3, 1) := by decide +kernel
theorem dX2_bestKind_133 : decode cX2_bestKind 133 = .ok (.ifCond .ne 8, 3) := by decide +kernel
theorem dX2_bestKind_136 : decode cX2_bestKind 136 = .ok (.iload 6, 2) := by decide +kernel
theorem dX2_bestKind_138 : decode cX2_bestKind 138 = .ok (.goto 5, 3) := by decide +kernel
theorem dX2_bestKind_141 : decode cX2_bestKind 141 = .ok (.iload 5, 2) := by decide +kernel
theorem dX2_bestKind_143 : decode cX2_bestKind 143 = .ok (.ireturn, 1) := by decide +kernel
set_option maxRecDepth 20000 in
theorem ggX2_heaviest_X2_outweighing : GoodIn wsX2_heaviest wsX2_outweighing := goodIn_r _ [7, 1, 8, 9, 10, 11, 12, 13, 14, 15, 16, 17, 18, 19, 20, 21, 22, 23, 24, 25, 26, 27, 28, 29, 54, 55, 56, 57, 58, 59, 60, 61, 62, 63, 64, 65, 66, 67, 68, 69, 70, 71, 72, 73, 74, 75, 76] (by decide +kernel) (by decide +kernel)
set_option maxRecDepth 20000 in
theorem gX2_heaviest_X2_outweighing : GoodIn wsX2_heaviest (wsV RX2 222 RX2 yX2_outweighing wsX2_outweighing) := goodIn_app (goodIn_of _ (by decide +kernel)) ggX2_heaviest_X2_outweighing
set_option maxRecDepth 20000 in
theorem ggX2_heaviest_X0_openAt : GoodIn wsX2_heaviest wsX0_openAt := goodIn_r _ [33, 34, 35, 12, 36, 37, 38, 39, 40, 41, 42, 43, 44, 68, 69, 70, 71, 72, 73, 74, 75, 76] (by decide +kernel) (by decide +kernel)
set_option maxRecDepth 20000 in
theorem gX2_heaviest_X0_openAt : GoodIn wsX2_heaviest (wsV RX2 225 RX0 yX0_openAt wsX0_openAt) := goodIn_app (goodIn_of _ (by decide +kernel)) ggX2_heaviest_X0_openAt
set_option maxRecDepth 20000 in
theorem ggX2_heaviest_X2_gaining : GoodIn wsX2_heaviest wsX2_gaining := goodIn_r _ [48, 1, 8, 9, 10, 11, 12, 13, 14, 15, 16, 17, 18, 19, 20, 21, 22, 23, 24, 25, 26, 27, 28, 29, 54, 55, 56, 57, 58, 59, 60, 61, 62, 63, 64, 65, 66, 67, 68, 69, 70, 71, 72, 73, 74, 75, 76] (by decide +kernel) (by decide +kernel)
set_option maxRecDepth 20000 in
theorem gX2_heaviest_X2_gaining : GoodIn wsX2_heaviest (wsV RX2 228 RX2 yX2_gaining wsX2_gaining) := goodIn_app (goodIn_of _ (by decide +kernel)) ggX2_heaviest_X2_gaining
set_option maxRecDepth 20000 in
theorem ggX2_heaviest_X2_refuse : GoodIn wsX2_heaviest wsX2_refuse := goodIn_r _ [52, 53, 54, 55, 56, 57, 58, 59, 60, 61, 62, 63, 64, 65, 66, 67] (by decide +kernel) (by decide +kernel)
set_option maxRecDepth 20000 in
theorem gX2_heaviest_X2_refuse : GoodIn wsX2_heaviest (wsV RX2 63 RX2 yX2_refuse wsX2_refuse) := goodIn_app (goodIn_of _ (by decide +kernel)) ggX2_heaviest_X2_refuse
theorem dX2_heaviest_0 : decode cX2_heaviest 0 = .ok (.iload_n 1, 1) := by decide +kernel
theorem dX2_heaviest_1 : decode cX2_heaviest 1 = .ok (.tableswitch 74 0 4 #[35, 41, 47, 62, 68], 35) := by decide +kernel
theorem dX2_heaviest_36 : decode cX2_heaviest 36 = .ok (.aload_n 0, 1) := by decide +kernel
theorem dX2_heaviest_37 : decode cX2_heaviest 37 = .ok (.iconst 1, 1) := by decide +kernel
theorem dX2_heaviest_38 : decode cX2_heaviest 38 = .ok (.invokevirtual 222, 3) := by decide +kernel
theorem dX2_heaviest_41 : decode cX2_heaviest 41 = .ok (.ireturn, 1) := by decide +kernel
theorem dX2_heaviest_42 : decode cX2_heaviest 42 = .ok (.aload_n 0, 1) := by decide +kernel
theorem dX2_heaviest_43 : decode cX2_heaviest 43 = .ok (.iconst (-1), 1) := by decide +kernel
theorem dX2_heaviest_44 : decode cX2_heaviest 44 = .ok (.invokevirtual 222, 3) := by decide +kernel
theorem dX2_heaviest_47 : decode cX2_heaviest 47 = .ok (.ireturn, 1) := by decide +kernel
theorem dX2_heaviest_48 : decode cX2_heaviest 48 = .ok (.aload_n 0, 1) := by decide +kernel
theorem dX2_heaviest_49 : decode cX2_heaviest 49 = .ok (.getfield 10, 3) := by decide +kernel
theorem dX2_heaviest_52 : decode cX2_heaviest 52 = .ok (.aload_n 0, 1) := by decide +kernel
theorem dX2_heaviest_53 : decode cX2_heaviest 53 = .ok (.getfield 10, 3) := by decide +kernel
theorem dX2_heaviest_56 : decode cX2_heaviest 56 = .ok (.getfield 112, 3) := by decide +kernel
theorem dX2_heaviest_59 : decode cX2_heaviest 59 = .ok (.invokevirtual 225, 3) := by decide +kernel
theorem dX2_heaviest_62 : decode cX2_heaviest 62 = .ok (.ireturn, 1) := by decide +kernel
theorem dX2_heaviest_63 : decode cX2_heaviest 63 = .ok (.aload_n 0, 1) := by decide +kernel
theorem dX2_heaviest_64 : decode cX2_heaviest 64 = .ok (.iconst 1, 1) := by decide +kernel
theorem dX2_heaviest_65 : decode cX2_heaviest 65 = .ok (.invokevirtual 228, 3) := by decide +kernel
theorem dX2_heaviest_68 : decode cX2_heaviest 68 = .ok (.ireturn, 1) := by decide +kernel
theorem dX2_heaviest_69 : decode cX2_heaviest 69 = .ok (.aload_n 0, 1) := by decide +kernel
theorem dX2_heaviest_70 : decode cX2_heaviest 70 = .ok (.iconst (-1), 1) := by decide +kernel
theorem dX2_heaviest_71 : decode cX2_heaviest 71 = .ok (.invokevirtual 228, 3) := by decide +kernel
theorem dX2_heaviest_74 : decode cX2_heaviest 74 = .ok (.ireturn, 1) := by decide +kernel
theorem dX2_heaviest_75 : decode cX2_heaviest 75 = .ok (.aload_n 0, 1) := by decide +kernel
theorem dX2_heaviest_76 : decode cX2_heaviest 76 = .ok (.bipush (-2), 2) := by decide +kernel
theorem dX2_heaviest_78 : decode cX2_heaviest 78 = .ok (.invokevirtual 63, 3) := by decide +kernel
theorem dX2_heaviest_81 : decode cX2_heaviest 81 = .ok (.ireturn, 1) := by decide +kernel
set_option maxRecDepth 20000 in
theorem ggX2_two_X0_has : GoodIn wsX2_two wsX0_has := goodIn_r _ [7, 8, 100, 101, 102, 103, 104, 105, 106, 107, 108] (by decide +kernel) (by decide +kernel)
set_option maxRecDepth 20000 in
theorem gX2_two_X0_has : GoodIn wsX2_two (wsV RX2 89 RX0 yX0_has wsX0_has) := goodIn_app (goodIn_of _ (by decide +kernel)) ggX2_two_X0_has
set_option maxRecDepth 20000 in
theorem ggX2_two_X2_refuse : GoodIn wsX2_two wsX2_refuse := goodIn_r _ [13, 14, 86, 87, 88, 89, 90, 91, 92, 93, 94, 95, 96, 97, 98, 99] (by decide +kernel) (by decide +kernel)
set_option maxRecDepth 20000 in
theorem gX2_two_X2_refuse : GoodIn wsX2_two (wsV RX2 63 RX2 yX2_refuse wsX2_refuse) := goodIn_app (goodIn_of _ (by decide +kernel)) ggX2_two_X2_refuse
set_option maxRecDepth 20000 in
theorem ggX2_two_X2_faultOf : GoodIn wsX2_two wsX2_faultOf := goodIn_r _ [17] (by decide +kernel) (by decide +kernel)
set_option maxRecDepth 20000 in
theorem gX2_two_X2_faultOf : GoodIn wsX2_two (va_wsS RX2 140 yX2_faultOf wsX2_faultOf) := goodIn_app (goodIn_of _ (by decide +kernel)) ggX2_two_X2_faultOf
set_option maxRecDepth 20000 in
theorem ggX2_two_X0_placeOf : GoodIn wsX2_two wsX0_placeOf := goodIn_r _ [21, 22, 23, 4, 5, 6, 7, 8, 100, 101, 102, 103, 104, 105, 106, 107, 108] (by decide +kernel) (by decide +kernel)
set_option maxRecDepth 20000 in
theorem gX2_two_X0_placeOf : GoodIn wsX2_two (wsV RX2 99 RX0 yX0_placeOf wsX0_placeOf) := goodIn_app (goodIn_of _ (by decide +kernel)) ggX2_two_X0_placeOf
set_option maxRecDepth 20000 in
theorem ggX2_two_X2_reckonOutcomes : GoodIn wsX2_two wsX2_reckonOutcomes := goodIn_r _ [27, 2, 28, 1, 29, 30, 31, 6, 32, 33, 34, 35, 8, 36, 37, 38, 22, 39, 40, 41, 42, 43, 23, 4, 5, 7, 44, 45, 46, 47, 48, 49, 50, 51, 52, 53, 54, 55, 56, 57, 58, 59, 60, 61, 62, 63, 64, 65, 66, 67, 68, 69, 70, 71, 72, 73, 74, 86, 87, 88, 89, 90, 91, 92, 93, 94, 95, 96, 97, 98, 99, 100, 101, 102, 103, 104, 105, 106, 107, 108] (by decide +kernel) (by decide +kernel)
set_option maxRecDepth 20000 in
theorem gX2_two_X2_reckonOutcomes : GoodIn wsX2_two (wsV RX2 231 RX2 yX2_reckonOutcomes wsX2_reckonOutcomes) := goodIn_app (goodIn_of _ (by decide +kernel)) ggX2_two_X2_reckonOutcomes
set_option maxRecDepth 20000 in
theorem ggX2_two_X2_isSettled : GoodIn wsX2_two wsX2_isSettled := goodIn_r _ [78, 79, 80, 81, 12, 82, 2, 83, 84, 6, 85, 86, 87, 88, 89, 90, 91, 92, 93, 94, 95, 96, 97, 98, 99] (by decide +kernel) (by decide +kernel)
set_option maxRecDepth 20000 in
theorem gX2_two_X2_isSettled : GoodIn wsX2_two (wsV RX2 234 RX2 yX2_isSettled wsX2_isSettled) := goodIn_app (goodIn_of _ (by decide +kernel)) ggX2_two_X2_isSettled
theorem dX2_two_0 : decode cX2_two 0 = .ok (.aload_n 0, 1) := by decide +kernel
theorem dX2_two_1 : decode cX2_two 1 = .ok (.getfield 10, 3) := by decide +kernel
theorem dX2_two_4 : decode cX2_two 4 = .ok (.iload_n 1, 1) := by decide +kernel
theorem dX2_two_5 : decode cX2_two 5 = .ok (.invokevirtual 89, 3) := by decide +kernel
theorem dX2_two_8 : decode cX2_two 8 = .ok (.ifCond .eq 19, 3) := by decide +kernel
theorem dX2_two_11 : decode cX2_two 11 = .ok (.aload_n 0, 1) := by decide +kernel
theorem dX2_two_12 : decode cX2_two 12 = .ok (.getfield 10, 3) := by decide +kernel
theorem dX2_two_15 : decode cX2_two 15 = .ok (.iload_n 2, 1) := by decide +kernel
theorem dX2_two_16 : decode cX2_two 16 = .ok (.invokevirtual 89, 3) := by decide +kernel
theorem dX2_two_19 : decode cX2_two 19 = .ok (.ifCond .eq 8, 3) := by decide +kernel
theorem dX2_two_22 : decode cX2_two 22 = .ok (.iload_n 1, 1) := by decide +kernel
theorem dX2_two_23 : decode cX2_two 23 = .ok (.iload_n 2, 1) := by decide +kernel
theorem dX2_two_24 : decode cX2_two 24 = .ok (.if_icmp .ne 9, 3) := by decide +kernel
theorem dX2_two_27 : decode cX2_two 27 = .ok (.aload_n 0, 1) := by decide +kernel
theorem dX2_two_28 : decode cX2_two 28 = .ok (.iconst (-1), 1) := by decide +kernel
theorem dX2_two_29 : decode cX2_two 29 = .ok (.invokevirtual 63, 3) := by decide +kernel
theorem dX2_two_32 : decode cX2_two 32 = .ok (.ireturn, 1) := by decide +kernel
theorem dX2_two_33 : decode cX2_two 33 = .ok (.iload_n 3, 1) := by decide +kernel
theorem dX2_two_34 : decode cX2_two 34 = .ok (.iconst 0, 1) := by decide +kernel
theorem dX2_two_35 : decode cX2_two 35 = .ok (.bipush 30, 2) := by decide +kernel
theorem dX2_two_37 : decode cX2_two 37 = .ok (.invokestatic 140, 3) := by decide +kernel
theorem dX2_two_40 : decode cX2_two 40 = .ok (.istore 4, 2) := by decide +kernel
theorem dX2_two_42 : decode cX2_two 42 = .ok (.iload 4, 2) := by decide +kernel
theorem dX2_two_44 : decode cX2_two 44 = .ok (.ifCond .eq 10, 3) := by decide +kernel
theorem dX2_two_47 : decode cX2_two 47 = .ok (.aload_n 0, 1) := by decide +kernel
theorem dX2_two_48 : decode cX2_two 48 = .ok (.iload 4, 2) := by decide +kernel
theorem dX2_two_50 : decode cX2_two 50 = .ok (.invokevirtual 63, 3) := by decide +kernel
theorem dX2_two_53 : decode cX2_two 53 = .ok (.ireturn, 1) := by decide +kernel
theorem dX2_two_54 : decode cX2_two 54 = .ok (.aload_n 0, 1) := by decide +kernel
theorem dX2_two_55 : decode cX2_two 55 = .ok (.getfield 10, 3) := by decide +kernel
theorem dX2_two_58 : decode cX2_two 58 = .ok (.iload_n 1, 1) := by decide +kernel
theorem dX2_two_59 : decode cX2_two 59 = .ok (.invokevirtual 99, 3) := by decide +kernel
theorem dX2_two_62 : decode cX2_two 62 = .ok (.iconst 2, 1) := by decide +kernel
theorem dX2_two_63 : decode cX2_two 63 = .ok (.if_icmp .eq 15, 3) := by decide +kernel
theorem dX2_two_66 : decode cX2_two 66 = .ok (.aload_n 0, 1) := by decide +kernel
theorem dX2_two_67 : decode cX2_two 67 = .ok (.getfield 10, 3) := by decide +kernel
theorem dX2_two_70 : decode cX2_two 70 = .ok (.iload_n 2, 1) := by decide +kernel
theorem dX2_two_71 : decode cX2_two 71 = .ok (.invokevirtual 99, 3) := by decide +kernel
theorem dX2_two_74 : decode cX2_two 74 = .ok (.iconst 2, 1) := by decide +kernel
theorem dX2_two_75 : decode cX2_two 75 = .ok (.if_icmp .ne 10, 3) := by decide +kernel
theorem dX2_two_78 : decode cX2_two 78 = .ok (.aload_n 0, 1) := by decide +kernel
theorem dX2_two_79 : decode cX2_two 79 = .ok (.bipush (-3), 2) := by decide +kernel
theorem dX2_two_81 : decode cX2_two 81 = .ok (.invokevirtual 63, 3) := by decide +kernel
theorem dX2_two_84 : decode cX2_two 84 = .ok (.ireturn, 1) := by decide +kernel
theorem dX2_two_85 : decode cX2_two 85 = .ok (.aload_n 0, 1) := by decide +kernel
theorem dX2_two_86 : decode cX2_two 86 = .ok (.iload_n 1, 1) := by decide +kernel
theorem dX2_two_87 : decode cX2_two 87 = .ok (.iload_n 2, 1) := by decide +kernel
theorem dX2_two_88 : decode cX2_two 88 = .ok (.iload_n 3, 1) := by decide +kernel
theorem dX2_two_89 : decode cX2_two 89 = .ok (.invokevirtual 231, 3) := by decide +kernel
theorem dX2_two_92 : decode cX2_two 92 = .ok (.iconst 0, 1) := by decide +kernel
theorem dX2_two_93 : decode cX2_two 93 = .ok (.istore 5, 2) := by decide +kernel
theorem dX2_two_95 : decode cX2_two 95 = .ok (.iload 5, 2) := by decide +kernel
theorem dX2_two_97 : decode cX2_two 97 = .ok (.aload_n 0, 1) := by decide +kernel
theorem dX2_two_98 : decode cX2_two 98 = .ok (.getfield 39, 3) := by decide +kernel
theorem dX2_two_101 : decode cX2_two 101 = .ok (.arraylength, 1) := by decide +kernel
theorem dX2_two_102 : decode cX2_two 102 = .ok (.if_icmp .ge 58, 3) := by decide +kernel
theorem dX2_two_105 : decode cX2_two 105 = .ok (.aload_n 0, 1) := by decide +kernel
theorem dX2_two_106 : decode cX2_two 106 = .ok (.iload 5, 2) := by decide +kernel
theorem dX2_two_108 : decode cX2_two 108 = .ok (.iconst 2, 1) := by decide +kernel
theorem dX2_two_109 : decode cX2_two 109 = .ok (.aload_n 0, 1) := by decide +kernel
theorem dX2_two_110 : decode cX2_two 110 = .ok (.getfield 10, 3) := by decide +kernel
theorem dX2_two_113 : decode cX2_two 113 = .ok (.iload_n 1, 1) := by decide +kernel
theorem dX2_two_114 : decode cX2_two 114 = .ok (.invokevirtual 99, 3) := by decide +kernel
theorem dX2_two_117 : decode cX2_two 117 = .ok (.invokevirtual 234, 3) := by decide +kernel
theorem dX2_two_120 : decode cX2_two 120 = .ok (.ifCond .eq 34, 3) := by decide +kernel
theorem dX2_two_123 : decode cX2_two 123 = .ok (.aload_n 0, 1) := by decide +kernel
theorem dX2_two_124 : decode cX2_two 124 = .ok (.iload 5, 2) := by decide +kernel
theorem dX2_two_126 : decode cX2_two 126 = .ok (.iconst 1, 1) := by decide +kernel
theorem dX2_two_127 : decode cX2_two 127 = .ok (.aload_n 0, 1) := by decide +kernel
theorem dX2_two_128 : decode cX2_two 128 = .ok (.getfield 10, 3) := by decide +kernel
theorem dX2_two_131 : decode cX2_two 131 = .ok (.iload_n 2, 1) := by decide +kernel
theorem dX2_two_132 : decode cX2_two 132 = .ok (.invokevirtual 99, 3) := by decide +kernel
theorem dX2_two_135 : decode cX2_two 135 = .ok (.invokevirtual 234, 3) := by decide +kernel
theorem dX2_two_138 : decode cX2_two 138 = .ok (.ifCond .eq 16, 3) := by decide +kernel
theorem dX2_two_141 : decode cX2_two 141 = .ok (.bipush 10, 2) := by decide +kernel
theorem dX2_two_143 : decode cX2_two 143 = .ok (.iload 5, 2) := by decide +kernel
theorem dX2_two_145 : decode cX2_two 145 = .ok (.iconst 1, 1) := by decide +kernel
theorem dX2_two_146 : decode cX2_two 146 = .ok (.ishr, 1) := by decide +kernel
theorem dX2_two_147 : decode cX2_two 147 = .ok (.imul, 1) := by decide +kernel
theorem dX2_two_148 : decode cX2_two 148 = .ok (.iload 5, 2) := by decide +kernel
theorem dX2_two_150 : decode cX2_two 150 = .ok (.iconst 1, 1) := by decide +kernel
theorem dX2_two_151 : decode cX2_two 151 = .ok (.iand, 1) := by decide +kernel
theorem dX2_two_152 : decode cX2_two 152 = .ok (.iadd, 1) := by decide +kernel
theorem dX2_two_153 : decode cX2_two 153 = .ok (.ireturn, 1) := by decide +kernel
theorem dX2_two_154 : decode cX2_two 154 = .ok (.iinc 5 1, 3) := by decide +kernel
theorem dX2_two_157 : decode cX2_two 157 = .ok (.goto (-62), 3) := by decide +kernel
theorem dX2_two_160 : decode cX2_two 160 = .ok (.bipush (-9), 2) := by decide +kernel
theorem dX2_two_162 : decode cX2_two 162 = .ok (.ireturn, 1) := by decide +kernel
set_option maxRecDepth 20000 in
theorem ggX2_draught_X2_refuse : GoodIn wsX2_draught wsX2_refuse := goodIn_r _ [7, 8, 66, 67, 68, 69, 70, 71, 72, 73, 74, 75, 76, 77, 78, 79] (by decide +kernel) (by decide +kernel)
set_option maxRecDepth 20000 in
theorem gX2_draught_X2_refuse : GoodIn wsX2_draught (wsV RX2 63 RX2 yX2_refuse wsX2_refuse) := goodIn_app (goodIn_of _ (by decide +kernel)) ggX2_draught_X2_refuse
set_option maxRecDepth 20000 in
theorem ggX2_draught_X2_reckonOdds : GoodIn wsX2_draught wsX2_reckonOdds := goodIn_r _ [12, 2, 13, 14, 15, 16, 17, 18, 19, 20, 21, 22, 23, 24, 25, 26, 27, 28, 29, 30, 31, 32, 33, 34, 35, 36, 37, 38, 39, 40, 41, 42, 43, 44, 6, 45, 46, 47, 48, 49, 50, 51, 52, 53, 54, 55, 56, 57, 58, 59, 66, 67, 68, 69, 70, 71, 72, 73, 74, 75, 76, 77, 78, 79, 80, 81, 82, 83, 84, 85, 86, 87, 88] (by decide +kernel) (by decide +kernel)
set_option maxRecDepth 20000 in
theorem gX2_draught_X2_reckonOdds : GoodIn wsX2_draught (wsV RX2 240 RX2 yX2_reckonOdds wsX2_reckonOdds) := goodIn_app (goodIn_of _ (by decide +kernel)) ggX2_draught_X2_reckonOdds
set_option maxRecDepth 20000 in
theorem ggX2_draught_X2_partOf : GoodIn wsX2_draught wsX2_partOf := goodIn_r _ [62, 63, 64, 6, 65] (by decide +kernel) (by decide +kernel)
set_option maxRecDepth 20000 in
theorem gX2_draught_X2_partOf : GoodIn wsX2_draught (va_wsS RX2 244 yX2_partOf wsX2_partOf) := goodIn_app (goodIn_of _ (by decide +kernel)) ggX2_draught_X2_partOf
theorem dX2_draught_0 : decode cX2_draught 0 = .ok (.iload_n 1, 1) := by decide +kernel
theorem dX2_draught_1 : decode cX2_draught 1 = .ok (.ifCond .lt 12, 3) := by decide +kernel
theorem dX2_draught_4 : decode cX2_draught 4 = .ok (.iload_n 3, 1) := by decide +kernel
theorem dX2_draught_5 : decode cX2_draught 5 = .ok (.ifCond .lt 8, 3) := by decide +kernel
theorem dX2_draught_8 : decode cX2_draught 8 = .ok (.iload_n 2, 1) := by decide +kernel
theorem dX2_draught_9 : decode cX2_draught 9 = .ok (.iconst 2, 1) := by decide +kernel
theorem dX2_draught_10 : decode cX2_draught 10 = .ok (.if_icmp .ge 15, 3) := by decide +kernel
theorem dX2_draught_13 : decode cX2_draught 13 = .ok (.ldc2_w 238, 3) := by decide +kernel
theorem dX2_draught_16 : decode cX2_draught 16 = .ok (.aload_n 0, 1) := by decide +kernel
theorem dX2_draught_17 : decode cX2_draught 17 = .ok (.bipush (-4), 2) := by decide +kernel
theorem dX2_draught_19 : decode cX2_draught 19 = .ok (.invokevirtual 63, 3) := by decide +kernel
theorem dX2_draught_22 : decode cX2_draught 22 = .ok (.i2l, 1) := by decide +kernel
theorem dX2_draught_23 : decode cX2_draught 23 = .ok (.lsub, 1) := by decide +kernel
theorem dX2_draught_24 : decode cX2_draught 24 = .ok (.lreturn, 1) := by decide +kernel
theorem dX2_draught_25 : decode cX2_draught 25 = .ok (.iload_n 1, 1) := by decide +kernel
theorem dX2_draught_26 : decode cX2_draught 26 = .ok (.bipush 7, 2) := by decide +kernel
theorem dX2_draught_28 : decode cX2_draught 28 = .ok (.if_icmp .gt 15, 3) := by decide +kernel
theorem dX2_draught_31 : decode cX2_draught 31 = .ok (.iload_n 2, 1) := by decide +kernel
theorem dX2_draught_32 : decode cX2_draught 32 = .ok (.bipush 20, 2) := by decide +kernel
theorem dX2_draught_34 : decode cX2_draught 34 = .ok (.if_icmp .gt 9, 3) := by decide +kernel
theorem dX2_draught_37 : decode cX2_draught 37 = .ok (.iload_n 3, 1) := by decide +kernel
theorem dX2_draught_38 : decode cX2_draught 38 = .ok (.bipush 20, 2) := by decide +kernel
theorem dX2_draught_40 : decode cX2_draught 40 = .ok (.if_icmp .le 15, 3) := by decide +kernel
theorem dX2_draught_43 : decode cX2_draught 43 = .ok (.ldc2_w 238, 3) := by decide +kernel
theorem dX2_draught_46 : decode cX2_draught 46 = .ok (.aload_n 0, 1) := by decide +kernel
theorem dX2_draught_47 : decode cX2_draught 47 = .ok (.bipush (-6), 2) := by decide +kernel
theorem dX2_draught_49 : decode cX2_draught 49 = .ok (.invokevirtual 63, 3) := by decide +kernel
theorem dX2_draught_52 : decode cX2_draught 52 = .ok (.i2l, 1) := by decide +kernel
theorem dX2_draught_53 : decode cX2_draught 53 = .ok (.lsub, 1) := by decide +kernel
theorem dX2_draught_54 : decode cX2_draught 54 = .ok (.lreturn, 1) := by decide +kernel
theorem dX2_draught_55 : decode cX2_draught 55 = .ok (.iload 4, 2) := by decide +kernel
theorem dX2_draught_57 : decode cX2_draught 57 = .ok (.ifCond .eq 21, 3) := by decide +kernel
theorem dX2_draught_60 : decode cX2_draught 60 = .ok (.iload 4, 2) := by decide +kernel
theorem dX2_draught_62 : decode cX2_draught 62 = .ok (.iconst 1, 1) := by decide +kernel
theorem dX2_draught_63 : decode cX2_draught 63 = .ok (.if_icmp .eq 15, 3) := by decide +kernel
theorem dX2_draught_66 : decode cX2_draught 66 = .ok (.ldc2_w 238, 3) := by decide +kernel
theorem dX2_draught_69 : decode cX2_draught 69 = .ok (.aload_n 0, 1) := by decide +kernel
theorem dX2_draught_70 : decode cX2_draught 70 = .ok (.bipush (-2), 2) := by decide +kernel
theorem dX2_draught_72 : decode cX2_draught 72 = .ok (.invokevirtual 63, 3) := by decide +kernel
theorem dX2_draught_75 : decode cX2_draught 75 = .ok (.i2l, 1) := by decide +kernel
theorem dX2_draught_76 : decode cX2_draught 76 = .ok (.lsub, 1) := by decide +kernel
theorem dX2_draught_77 : decode cX2_draught 77 = .ok (.lreturn, 1) := by decide +kernel
theorem dX2_draught_78 : decode cX2_draught 78 = .ok (.aload_n 0, 1) := by decide +kernel
theorem dX2_draught_79 : decode cX2_draught 79 = .ok (.iload_n 1, 1) := by decide +kernel
theorem dX2_draught_80 : decode cX2_draught 80 = .ok (.iload_n 2, 1) := by decide +kernel
theorem dX2_draught_81 : decode cX2_draught 81 = .ok (.invokevirtual 240, 3) := by decide +kernel
theorem dX2_draught_84 : decode cX2_draught 84 = .ok (.lstore 5, 2) := by decide +kernel
theorem dX2_draught_86 : decode cX2_draught 86 = .ok (.lconst 0, 1) := by decide +kernel
theorem dX2_draught_87 : decode cX2_draught 87 = .ok (.lstore 7, 2) := by decide +kernel
theorem dX2_draught_89 : decode cX2_draught 89 = .ok (.iload_n 3, 1) := by decide +kernel
theorem dX2_draught_90 : decode cX2_draught 90 = .ok (.istore 9, 2) := by decide +kernel
theorem dX2_draught_92 : decode cX2_draught 92 = .ok (.iload 9, 2) := by decide +kernel
theorem dX2_draught_94 : decode cX2_draught 94 = .ok (.aload_n 0, 1) := by decide +kernel
theorem dX2_draught_95 : decode cX2_draught 95 = .ok (.getfield 42, 3) := by decide +kernel
theorem dX2_draught_98 : decode cX2_draught 98 = .ok (.arraylength, 1) := by decide +kernel
theorem dX2_draught_99 : decode cX2_draught 99 = .ok (.if_icmp .ge 21, 3) := by decide +kernel
theorem dX2_draught_102 : decode cX2_draught 102 = .ok (.lload 7, 2) := by decide +kernel
theorem dX2_draught_104 : decode cX2_draught 104 = .ok (.aload_n 0, 1) := by decide +kernel
theorem dX2_draught_105 : decode cX2_draught 105 = .ok (.getfield 42, 3) := by decide +kernel
theorem dX2_draught_108 : decode cX2_draught 108 = .ok (.iload 9, 2) := by decide +kernel
theorem dX2_draught_110 : decode cX2_draught 110 = .ok (.laload, 1) := by decide +kernel
theorem dX2_draught_111 : decode cX2_draught 111 = .ok (.ladd, 1) := by decide +kernel
theorem dX2_draught_112 : decode cX2_draught 112 = .ok (.lstore 7, 2) := by decide +kernel
theorem dX2_draught_114 : decode cX2_draught 114 = .ok (.iinc 9 1, 3) := by decide +kernel
theorem dX2_draught_117 : decode cX2_draught 117 = .ok (.goto (-25), 3) := by decide +kernel
theorem dX2_draught_120 : decode cX2_draught 120 = .ok (.lload 7, 2) := by decide +kernel
theorem dX2_draught_122 : decode cX2_draught 122 = .ok (.lload 5, 2) := by decide +kernel
theorem dX2_draught_124 : decode cX2_draught 124 = .ok (.iload 4, 2) := by decide +kernel
theorem dX2_draught_126 : decode cX2_draught 126 = .ok (.invokestatic 244, 3) := by decide +kernel
theorem dX2_draught_129 : decode cX2_draught 129 = .ok (.lreturn, 1) := by decide +kernel
set_option maxRecDepth 20000 in
theorem ggX2_mean_X2_refuse : GoodIn wsX2_mean wsX2_refuse := goodIn_r _ [8, 9, 41, 42, 43, 44, 45, 46, 47, 48, 49, 50, 51, 52, 53, 54] (by decide +kernel) (by decide +kernel)
set_option maxRecDepth 20000 in
theorem gX2_mean_X2_refuse : GoodIn wsX2_mean (wsV RX2 63 RX2 yX2_refuse wsX2_refuse) := goodIn_app (goodIn_of _ (by decide +kernel)) ggX2_mean_X2_refuse
set_option maxRecDepth 20000 in
theorem ggX2_mean_X0_weighsAll : GoodIn wsX2_mean wsX0_weighsAll := goodIn_r _ [14, 15, 16, 17, 18, 13, 19, 20, 21, 22, 23, 24, 25, 26, 27, 28, 29, 30, 31, 32, 33, 34, 55, 56, 57, 58, 59, 60, 61, 62, 63] (by decide +kernel) (by decide +kernel)
set_option maxRecDepth 20000 in
theorem gX2_mean_X0_weighsAll : GoodIn wsX2_mean (wsV RX2 248 RX0 yX0_weighsAll wsX0_weighsAll) := goodIn_app (goodIn_of _ (by decide +kernel)) ggX2_mean_X0_weighsAll
set_option maxRecDepth 20000 in
theorem ggX2_mean_X2_partOf : GoodIn wsX2_mean wsX2_partOf := goodIn_r _ [37, 38, 39, 7, 40] (by decide +kernel) (by decide +kernel)
set_option maxRecDepth 20000 in
theorem gX2_mean_X2_partOf : GoodIn wsX2_mean (va_wsS RX2 244 yX2_partOf wsX2_partOf) := goodIn_app (goodIn_of _ (by decide +kernel)) ggX2_mean_X2_partOf
theorem dX2_mean_0 : decode cX2_mean 0 = .ok (.iload_n 1, 1) := by decide +kernel
theorem dX2_mean_1 : decode cX2_mean 1 = .ok (.ifCond .eq 20, 3) := by decide +kernel
theorem dX2_mean_4 : decode cX2_mean 4 = .ok (.iload_n 1, 1) := by decide +kernel
theorem dX2_mean_5 : decode cX2_mean 5 = .ok (.iconst 1, 1) := by decide +kernel
theorem dX2_mean_6 : decode cX2_mean 6 = .ok (.if_icmp .eq 15, 3) := by decide +kernel
theorem dX2_mean_9 : decode cX2_mean 9 = .ok (.ldc2_w 238, 3) := by decide +kernel
theorem dX2_mean_12 : decode cX2_mean 12 = .ok (.aload_n 0, 1) := by decide +kernel
theorem dX2_mean_13 : decode cX2_mean 13 = .ok (.bipush (-2), 2) := by decide +kernel
theorem dX2_mean_15 : decode cX2_mean 15 = .ok (.invokevirtual 63, 3) := by decide +kernel
theorem dX2_mean_18 : decode cX2_mean 18 = .ok (.i2l, 1) := by decide +kernel
theorem dX2_mean_19 : decode cX2_mean 19 = .ok (.lsub, 1) := by decide +kernel
theorem dX2_mean_20 : decode cX2_mean 20 = .ok (.lreturn, 1) := by decide +kernel
theorem dX2_mean_21 : decode cX2_mean 21 = .ok (.aload_n 0, 1) := by decide +kernel
theorem dX2_mean_22 : decode cX2_mean 22 = .ok (.getfield 10, 3) := by decide +kernel
theorem dX2_mean_25 : decode cX2_mean 25 = .ok (.invokevirtual 248, 3) := by decide +kernel
theorem dX2_mean_28 : decode cX2_mean 28 = .ok (.i2l, 1) := by decide +kernel
theorem dX2_mean_29 : decode cX2_mean 29 = .ok (.aload_n 0, 1) := by decide +kernel
theorem dX2_mean_30 : decode cX2_mean 30 = .ok (.getfield 10, 3) := by decide +kernel
theorem dX2_mean_33 : decode cX2_mean 33 = .ok (.getfield 196, 3) := by decide +kernel
theorem dX2_mean_36 : decode cX2_mean 36 = .ok (.i2l, 1) := by decide +kernel
theorem dX2_mean_37 : decode cX2_mean 37 = .ok (.iload_n 1, 1) := by decide +kernel
theorem dX2_mean_38 : decode cX2_mean 38 = .ok (.invokestatic 244, 3) := by decide +kernel
theorem dX2_mean_41 : decode cX2_mean 41 = .ok (.lreturn, 1) := by decide +kernel
set_option maxRecDepth 20000 in
theorem ggX2_whatIs_X0_has : GoodIn wsX2_whatIs wsX0_has := goodIn_r _ [6, 7, 97, 98, 99, 100, 101, 102, 103, 104, 105] (by decide +kernel) (by decide +kernel)
set_option maxRecDepth 20000 in
theorem gX2_whatIs_X0_has : GoodIn wsX2_whatIs (wsV RX2 89 RX0 yX0_has wsX0_has) := goodIn_app (goodIn_of _ (by decide +kernel)) ggX2_whatIs_X0_has
set_option maxRecDepth 20000 in
theorem ggX2_whatIs_X2_refuse : GoodIn wsX2_whatIs wsX2_refuse := goodIn_r _ [12, 13, 83, 84, 85, 86, 87, 88, 89, 90, 91, 92, 93, 94, 95, 96] (by decide +kernel) (by decide +kernel)
set_option maxRecDepth 20000 in
theorem gX2_whatIs_X2_refuse : GoodIn wsX2_whatIs (wsV RX2 63 RX2 yX2_refuse wsX2_refuse) := goodIn_app (goodIn_of _ (by decide +kernel)) ggX2_whatIs_X2_refuse
set_option maxRecDepth 20000 in
theorem ggX2_whatIs_X2_kindsByRow : GoodIn wsX2_whatIs wsX2_kindsByRow := goodIn_r _ [17, 18, 1, 19, 20, 21, 5, 22, 23, 24, 25, 7, 26, 27, 28, 29, 30, 31, 32, 33, 34, 35, 3, 4, 6, 36, 37, 38, 39, 40, 41, 42, 11, 43, 44, 45, 46, 47, 48, 49, 50, 51, 52, 53, 54, 55, 56, 57, 58, 59, 60, 61, 62, 63, 64, 65, 66, 67, 68, 69, 70, 71, 72, 73, 74, 83, 84, 85, 86, 87, 88, 89, 90, 91, 92, 93, 94, 95, 96, 97, 98, 99, 100, 101, 102, 103, 104, 105] (by decide +kernel) (by decide +kernel)
set_option maxRecDepth 20000 in
theorem gX2_whatIs_X2_kindsByRow : GoodIn wsX2_whatIs (wsV RX2 251 RX2 yX2_kindsByRow wsX2_kindsByRow) := goodIn_app (goodIn_of _ (by decide +kernel)) ggX2_whatIs_X2_kindsByRow
set_option maxRecDepth 20000 in
theorem ggX2_whatIs_X2_figuresByRow : GoodIn wsX2_whatIs wsX2_figuresByRow := goodIn_r _ [78, 18, 1, 19, 20, 21, 5, 22, 23, 24, 25, 7, 26, 27, 28, 29, 30, 79, 80, 81, 82, 35, 3, 4, 6, 36, 37, 38, 39, 40, 41, 42, 11, 43, 44, 45, 46, 47, 48, 49, 50, 51, 52, 53, 54, 55, 56, 57, 58, 59, 60, 61, 62, 63, 64, 65, 66, 67, 68, 69, 70, 71, 72, 73, 74, 83, 84, 85, 86, 87, 88, 89, 90, 91, 92, 93, 94, 95, 96, 97, 98, 99, 100, 101, 102, 103, 104, 105] (by decide +kernel) (by decide +kernel)
set_option maxRecDepth 20000 in
theorem gX2_whatIs_X2_figuresByRow : GoodIn wsX2_whatIs (wsV RX2 254 RX2 yX2_figuresByRow wsX2_figuresByRow) := goodIn_app (goodIn_of _ (by decide +kernel)) ggX2_whatIs_X2_figuresByRow
theorem dX2_whatIs_0 : decode cX2_whatIs 0 = .ok (.aload_n 0, 1) := by decide +kernel
theorem dX2_whatIs_1 : decode cX2_whatIs 1 = .ok (.getfield 10, 3) := by decide +kernel
theorem dX2_whatIs_4 : decode cX2_whatIs 4 = .ok (.iload_n 1, 1) := by decide +kernel
theorem dX2_whatIs_5 : decode cX2_whatIs 5 = .ok (.invokevirtual 89, 3) := by decide +kernel
theorem dX2_whatIs_8 : decode cX2_whatIs 8 = .ok (.ifCond .ne 9, 3) := by decide +kernel
theorem dX2_whatIs_11 : decode cX2_whatIs 11 = .ok (.aload_n 0, 1) := by decide +kernel
theorem dX2_whatIs_12 : decode cX2_whatIs 12 = .ok (.iconst (-1), 1) := by decide +kernel
theorem dX2_whatIs_13 : decode cX2_whatIs 13 = .ok (.invokevirtual 63, 3) := by decide +kernel
theorem dX2_whatIs_16 : decode cX2_whatIs 16 = .ok (.ireturn, 1) := by decide +kernel
theorem dX2_whatIs_17 : decode cX2_whatIs 17 = .ok (.iload_n 2, 1) := by decide +kernel
theorem dX2_whatIs_18 : decode cX2_whatIs 18 = .ok (.lookupswitch 38 #[(0, 26), (1, 32)], 26) := by decide +kernel
theorem dX2_whatIs_44 : decode cX2_whatIs 44 = .ok (.aload_n 0, 1) := by decide +kernel
theorem dX2_whatIs_45 : decode cX2_whatIs 45 = .ok (.iload_n 1, 1) := by decide +kernel
theorem dX2_whatIs_46 : decode cX2_whatIs 46 = .ok (.invokevirtual 251, 3) := by decide +kernel
theorem dX2_whatIs_49 : decode cX2_whatIs 49 = .ok (.ireturn, 1) := by decide +kernel
theorem dX2_whatIs_50 : decode cX2_whatIs 50 = .ok (.aload_n 0, 1) := by decide +kernel
theorem dX2_whatIs_51 : decode cX2_whatIs 51 = .ok (.iload_n 1, 1) := by decide +kernel
theorem dX2_whatIs_52 : decode cX2_whatIs 52 = .ok (.invokevirtual 254, 3) := by decide +kernel
theorem dX2_whatIs_55 : decode cX2_whatIs 55 = .ok (.ireturn, 1) := by decide +kernel
theorem dX2_whatIs_56 : decode cX2_whatIs 56 = .ok (.aload_n 0, 1) := by decide +kernel
theorem dX2_whatIs_57 : decode cX2_whatIs 57 = .ok (.bipush (-2), 2) := by decide +kernel
theorem dX2_whatIs_59 : decode cX2_whatIs 59 = .ok (.invokevirtual 63, 3) := by decide +kernel
theorem dX2_whatIs_62 : decode cX2_whatIs 62 = .ok (.ireturn, 1) := by decide +kernel
set_option maxRecDepth 20000 in
theorem ggX2_row_X2_faultOf : GoodIn wsX2_row wsX2_faultOf := goodIn_r _ [6] (by decide +kernel) (by decide +kernel)
set_option maxRecDepth 20000 in
theorem gX2_row_X2_faultOf : GoodIn wsX2_row (va_wsS RX2 140 yX2_faultOf wsX2_faultOf) := goodIn_app (goodIn_of _ (by decide +kernel)) ggX2_row_X2_faultOf
set_option maxRecDepth 20000 in
theorem ggX2_row_X2_refuse : GoodIn wsX2_row wsX2_refuse := goodIn_r _ [10, 11, 12, 13, 14, 15, 16, 17, 18, 19, 20, 21, 22, 23, 24, 25] (by decide +kernel) (by decide +kernel)
set_option maxRecDepth 20000 in
theorem gX2_row_X2_refuse : GoodIn wsX2_row (wsV RX2 63 RX2 yX2_refuse wsX2_refuse) := goodIn_app (goodIn_of _ (by decide +kernel)) ggX2_row_X2_refuse
theorem dX2_row_0 : decode cX2_row 0 = .ok (.iload_n 1, 1) := by decide +kernel
theorem dX2_row_1 : decode cX2_row 1 = .ok (.iconst 0, 1) := by decide +kernel
theorem dX2_row_2 : decode cX2_row 2 = .ok (.bipush 99, 2) := by decide +kernel
theorem dX2_row_4 : decode cX2_row 4 = .ok (.invokestatic 140, 3) := by decide +kernel
theorem dX2_row_7 : decode cX2_row 7 = .ok (.istore_n 2, 1) := by decide +kernel
theorem dX2_row_8 : decode cX2_row 8 = .ok (.iload_n 2, 1) := by decide +kernel
theorem dX2_row_9 : decode cX2_row 9 = .ok (.ifCond .eq 9, 3) := by decide +kernel
theorem dX2_row_12 : decode cX2_row 12 = .ok (.aload_n 0, 1) := by decide +kernel
theorem dX2_row_13 : decode cX2_row 13 = .ok (.iload_n 2, 1) := by decide +kernel
theorem dX2_row_14 : decode cX2_row 14 = .ok (.invokevirtual 63, 3) := by decide +kernel
theorem dX2_row_17 : decode cX2_row 17 = .ok (.ireturn, 1) := by decide +kernel
theorem dX2_row_18 : decode cX2_row 18 = .ok (.aload_n 0, 1) := by decide +kernel
theorem dX2_row_19 : decode cX2_row 19 = .ok (.getfield 55, 3) := by decide +kernel
theorem dX2_row_22 : decode cX2_row 22 = .ok (.aload_n 0, 1) := by decide +kernel
theorem dX2_row_23 : decode cX2_row 23 = .ok (.getfield 49, 3) := by decide +kernel
theorem dX2_row_26 : decode cX2_row 26 = .ok (.arraylength, 1) := by decide +kernel
theorem dX2_row_27 : decode cX2_row 27 = .ok (.if_icmp .lt 10, 3) := by decide +kernel
theorem dX2_row_30 : decode cX2_row 30 = .ok (.aload_n 0, 1) := by decide +kernel
theorem dX2_row_31 : decode cX2_row 31 = .ok (.bipush (-6), 2) := by decide +kernel
theorem dX2_row_33 : decode cX2_row 33 = .ok (.invokevirtual 63, 3) := by decide +kernel
theorem dX2_row_36 : decode cX2_row 36 = .ok (.ireturn, 1) := by decide +kernel
theorem dX2_row_37 : decode cX2_row 37 = .ok (.aload_n 0, 1) := by decide +kernel
theorem dX2_row_38 : decode cX2_row 38 = .ok (.getfield 49, 3) := by decide +kernel
theorem dX2_row_41 : decode cX2_row 41 = .ok (.aload_n 0, 1) := by decide +kernel
theorem dX2_row_42 : decode cX2_row 42 = .ok (.getfield 55, 3) := by decide +kernel
theorem dX2_row_45 : decode cX2_row 45 = .ok (.iload_n 1, 1) := by decide +kernel
theorem dX2_row_46 : decode cX2_row 46 = .ok (.iastore, 1) := by decide +kernel
theorem dX2_row_47 : decode cX2_row 47 = .ok (.aload_n 0, 1) := by decide +kernel
theorem dX2_row_48 : decode cX2_row 48 = .ok (.dup, 1) := by decide +kernel
theorem dX2_row_49 : decode cX2_row 49 = .ok (.getfield 55, 3) := by decide +kernel
theorem dX2_row_52 : decode cX2_row 52 = .ok (.iconst 1, 1) := by decide +kernel
theorem dX2_row_53 : decode cX2_row 53 = .ok (.iadd, 1) := by decide +kernel
theorem dX2_row_54 : decode cX2_row 54 = .ok (.putfield 55, 3) := by decide +kernel
theorem dX2_row_57 : decode cX2_row 57 = .ok (.aload_n 0, 1) := by decide +kernel
theorem dX2_row_58 : decode cX2_row 58 = .ok (.getfield 55, 3) := by decide +kernel
theorem dX2_row_61 : decode cX2_row 61 = .ok (.ireturn, 1) := by decide +kernel
set_option maxRecDepth 20000 in
theorem ggX2_judge_X0_has : GoodIn wsX2_judge wsX0_has := goodIn_r _ [8, 9, 40, 41, 42, 43, 44, 45, 46, 47, 48] (by decide +kernel) (by decide +kernel)
set_option maxRecDepth 20000 in
theorem gX2_judge_X0_has : GoodIn wsX2_judge (wsV RX2 89 RX0 yX0_has wsX0_has) := goodIn_app (goodIn_of _ (by decide +kernel)) ggX2_judge_X0_has
set_option maxRecDepth 20000 in
theorem ggX2_judge_X0_weighs : GoodIn wsX2_judge wsX0_weighs := goodIn_r _ [13, 14, 15, 16, 17, 18, 19, 20, 21, 22, 23, 24, 25, 5, 6, 7, 8, 9, 40, 41, 42, 43, 44, 45, 46, 47, 48] (by decide +kernel) (by decide +kernel)
set_option maxRecDepth 20000 in
theorem gX2_judge_X0_weighs : GoodIn wsX2_judge (wsV RX2 105 RX0 yX0_weighs wsX0_weighs) := goodIn_app (goodIn_of _ (by decide +kernel)) ggX2_judge_X0_weighs
theorem dX2_judge_0 : decode cX2_judge 0 = .ok (.bipush (-9), 2) := by decide +kernel
theorem dX2_judge_2 : decode cX2_judge 2 = .ok (.istore_n 1, 1) := by decide +kernel
theorem dX2_judge_3 : decode cX2_judge 3 = .ok (.iconst 0, 1) := by decide +kernel
theorem dX2_judge_4 : decode cX2_judge 4 = .ok (.istore_n 2, 1) := by decide +kernel
theorem dX2_judge_5 : decode cX2_judge 5 = .ok (.iload_n 2, 1) := by decide +kernel
theorem dX2_judge_6 : decode cX2_judge 6 = .ok (.aload_n 0, 1) := by decide +kernel
theorem dX2_judge_7 : decode cX2_judge 7 = .ok (.getfield 55, 3) := by decide +kernel
theorem dX2_judge_10 : decode cX2_judge 10 = .ok (.if_icmp .ge 55, 3) := by decide +kernel
theorem dX2_judge_13 : decode cX2_judge 13 = .ok (.iload_n 2, 1) := by decide +kernel
theorem dX2_judge_14 : decode cX2_judge 14 = .ok (.aload_n 0, 1) := by decide +kernel
theorem dX2_judge_15 : decode cX2_judge 15 = .ok (.getfield 49, 3) := by decide +kernel
theorem dX2_judge_18 : decode cX2_judge 18 = .ok (.arraylength, 1) := by decide +kernel
theorem dX2_judge_19 : decode cX2_judge 19 = .ok (.if_icmp .ge 46, 3) := by decide +kernel
theorem dX2_judge_22 : decode cX2_judge 22 = .ok (.iload_n 1, 1) := by decide +kernel
theorem dX2_judge_23 : decode cX2_judge 23 = .ok (.bipush (-9), 2) := by decide +kernel
theorem dX2_judge_25 : decode cX2_judge 25 = .ok (.if_icmp .ne 40, 3) := by decide +kernel
theorem dX2_judge_28 : decode cX2_judge 28 = .ok (.aload_n 0, 1) := by decide +kernel
theorem dX2_judge_29 : decode cX2_judge 29 = .ok (.getfield 10, 3) := by decide +kernel
theorem dX2_judge_32 : decode cX2_judge 32 = .ok (.iload_n 2, 1) := by decide +kernel
theorem dX2_judge_33 : decode cX2_judge 33 = .ok (.invokevirtual 89, 3) := by decide +kernel
theorem dX2_judge_36 : decode cX2_judge 36 = .ok (.ifCond .eq 21, 3) := by decide +kernel
theorem dX2_judge_39 : decode cX2_judge 39 = .ok (.aload_n 0, 1) := by decide +kernel
theorem dX2_judge_40 : decode cX2_judge 40 = .ok (.getfield 10, 3) := by decide +kernel
theorem dX2_judge_43 : decode cX2_judge 43 = .ok (.iload_n 2, 1) := by decide +kernel
theorem dX2_judge_44 : decode cX2_judge 44 = .ok (.iconst 0, 1) := by decide +kernel
theorem dX2_judge_45 : decode cX2_judge 45 = .ok (.invokevirtual 105, 3) := by decide +kernel
theorem dX2_judge_48 : decode cX2_judge 48 = .ok (.aload_n 0, 1) := by decide +kernel
theorem dX2_judge_49 : decode cX2_judge 49 = .ok (.getfield 49, 3) := by decide +kernel
theorem dX2_judge_52 : decode cX2_judge 52 = .ok (.iload_n 2, 1) := by decide +kernel
theorem dX2_judge_53 : decode cX2_judge 53 = .ok (.iaload, 1) := by decide +kernel
theorem dX2_judge_54 : decode cX2_judge 54 = .ok (.if_icmp .eq 5, 3) := by decide +kernel
theorem dX2_judge_57 : decode cX2_judge 57 = .ok (.iload_n 2, 1) := by decide +kernel
theorem dX2_judge_58 : decode cX2_judge 58 = .ok (.istore_n 1, 1) := by decide +kernel
theorem dX2_judge_59 : decode cX2_judge 59 = .ok (.iinc 2 1, 3) := by decide +kernel
theorem dX2_judge_62 : decode cX2_judge 62 = .ok (.goto (-57), 3) := by decide +kernel
theorem dX2_judge_65 : decode cX2_judge 65 = .ok (.aload_n 0, 1) := by decide +kernel
theorem dX2_judge_66 : decode cX2_judge 66 = .ok (.iconst 0, 1) := by decide +kernel
theorem dX2_judge_67 : decode cX2_judge 67 = .ok (.putfield 55, 3) := by decide +kernel
theorem dX2_judge_70 : decode cX2_judge 70 = .ok (.iload_n 1, 1) := by decide +kernel
theorem dX2_judge_71 : decode cX2_judge 71 = .ok (.ireturn, 1) := by decide +kernel
theorem dX2_clear_0 : decode cX2_clear 0 = .ok (.aload_n 0, 1) := by decide +kernel
theorem dX2_clear_1 : decode cX2_clear 1 = .ok (.getfield 55, 3) := by decide +kernel
theorem dX2_clear_4 : decode cX2_clear 4 = .ok (.istore_n 1, 1) := by decide +kernel
theorem dX2_clear_5 : decode cX2_clear 5 = .ok (.aload_n 0, 1) := by decide +kernel
theorem dX2_clear_6 : decode cX2_clear 6 = .ok (.iconst 0, 1) := by decide +kernel
theorem dX2_clear_7 : decode cX2_clear 7 = .ok (.putfield 55, 3) := by decide +kernel
theorem dX2_clear_10 : decode cX2_clear 10 = .ok (.iload_n 1, 1) := by decide +kernel
theorem dX2_clear_11 : decode cX2_clear 11 = .ok (.ireturn, 1) := by decide +kernel
set_option maxRecDepth 20000 in
theorem ggX2_lots_X2_faultOf : GoodIn wsX2_lots wsX2_faultOf := goodIn_r _ [7] (by decide +kernel) (by decide +kernel)
set_option maxRecDepth 20000 in
theorem gX2_lots_X2_faultOf : GoodIn wsX2_lots (va_wsS RX2 140 yX2_faultOf wsX2_faultOf) := goodIn_app (goodIn_of _ (by decide +kernel)) ggX2_lots_X2_faultOf
set_option maxRecDepth 20000 in
theorem ggX2_lots_X2_refuse : GoodIn wsX2_lots wsX2_refuse := goodIn_r _ [11, 12, 96, 97, 98, 99, 100, 101, 102, 103, 104, 105, 106, 107, 108, 109] (by decide +kernel) (by decide +kernel)
set_option maxRecDepth 20000 in
theorem gX2_lots_X2_refuse : GoodIn wsX2_lots (wsV RX2 63 RX2 yX2_refuse wsX2_refuse) := goodIn_app (goodIn_of _ (by decide +kernel)) ggX2_lots_X2_refuse
set_option maxRecDepth 20000 in
theorem ggX2_lots_X0_copy : GoodIn wsX2_lots wsX0_copy := goodIn_r _ [17, 18, 19, 20, 21, 22, 23, 24, 25, 26, 110, 111, 112, 113, 114, 115, 116, 117, 118] (by decide +kernel) (by decide +kernel)
set_option maxRecDepth 20000 in
theorem gX2_lots_X0_copy : GoodIn wsX2_lots (wsV RX2 78 RX0 yX0_copy wsX0_copy) := goodIn_app (goodIn_of _ (by decide +kernel)) ggX2_lots_X0_copy
set_option maxRecDepth 20000 in
theorem ggX2_lots_X2_nextSeed : GoodIn wsX2_lots wsX2_nextSeed := goodIn_r _ [29, 30, 31] (by decide +kernel) (by decide +kernel)
set_option maxRecDepth 20000 in
theorem gX2_lots_X2_nextSeed : GoodIn wsX2_lots (va_wsS RX2 257 yX2_nextSeed wsX2_nextSeed) := goodIn_app (goodIn_of _ (by decide +kernel)) ggX2_lots_X2_nextSeed
set_option maxRecDepth 20000 in
theorem ggX2_lots_X2_drawPlace : GoodIn wsX2_lots wsX2_drawPlace := goodIn_r _ [34, 35] (by decide +kernel) (by decide +kernel)
set_option maxRecDepth 20000 in
theorem gX2_lots_X2_drawPlace : GoodIn wsX2_lots (va_wsS RX2 260 yX2_drawPlace wsX2_drawPlace) := goodIn_app (goodIn_of _ (by decide +kernel)) ggX2_lots_X2_drawPlace
set_option maxRecDepth 20000 in
theorem ggX2_lots_X0_put : GoodIn wsX2_lots wsX0_put := goodIn_r _ [39, 25, 26, 20, 40, 41, 42, 16, 43, 21, 44, 45, 46, 110, 111, 112, 113, 114, 115, 116, 117, 118] (by decide +kernel) (by decide +kernel)
set_option maxRecDepth 20000 in
theorem gX2_lots_X0_put : GoodIn wsX2_lots (wsV RX2 136 RX0 yX0_put wsX0_put) := goodIn_app (goodIn_of _ (by decide +kernel)) ggX2_lots_X0_put
set_option maxRecDepth 20000 in
theorem ggX2_lots_X0_floorAfter : GoodIn wsX2_lots wsX0_floorAfter := goodIn_r _ [50, 18, 51, 52, 53, 16, 54, 22, 21, 25, 55, 56, 57, 58, 20, 24, 26, 59, 60, 61, 62, 23, 63, 64, 65, 40, 41, 42, 43, 66, 67, 68, 69, 70, 71, 72, 73, 74, 110, 111, 112, 113, 114, 115, 116, 117, 118] (by decide +kernel) (by decide +kernel)
set_option maxRecDepth 20000 in
theorem gX2_lots_X0_floorAfter : GoodIn wsX2_lots (wsV RX2 172 RX0 yX0_floorAfter wsX0_floorAfter) := goodIn_app (goodIn_of _ (by decide +kernel)) ggX2_lots_X0_floorAfter
set_option maxRecDepth 20000 in
theorem ggX2_lots_X0_openAt : GoodIn wsX2_lots wsX0_openAt := goodIn_r _ [78, 79, 80, 16, 81, 82, 83, 84, 85, 19, 86, 87, 88, 110, 111, 112, 113, 114, 115, 116, 117, 118] (by decide +kernel) (by decide +kernel)
set_option maxRecDepth 20000 in
theorem gX2_lots_X0_openAt : GoodIn wsX2_lots (wsV RX2 225 RX0 yX0_openAt wsX0_openAt) := goodIn_app (goodIn_of _ (by decide +kernel)) ggX2_lots_X0_openAt
set_option maxRecDepth 20000 in
theorem ggX2_lots_J6_bitCount_0f7a4 : GoodIn wsX2_lots wsJ6_bitCount_0f7a4 := goodIn_r _ [92, 93, 94, 95] (by decide +kernel) (by decide +kernel)
set_option maxRecDepth 20000 in
theorem gX2_lots_J6_bitCount_0f7a4 : GoodIn wsX2_lots (va_wsS RX2 205 yJ6_bitCount_0f7a4 wsJ6_bitCount_0f7a4) := goodIn_app (goodIn_of _ (by decide +kernel)) ggX2_lots_J6_bitCount_0f7a4
theorem dX2_lots_0 : decode cX2_lots 0 = .ok (.iload_n 1, 1) := by decide +kernel
theorem dX2_lots_1 : decode cX2_lots 1 = .ok (.iconst 1, 1) := by decide +kernel
theorem dX2_lots_2 : decode cX2_lots 2 = .ok (.bipush 20, 2) := by decide +kernel
theorem dX2_lots_4 : decode cX2_lots 4 = .ok (.invokestatic 140, 3) := by decide +kernel
theorem dX2_lots_7 : decode cX2_lots 7 = .ok (.istore 4, 2) := by decide +kernel
theorem dX2_lots_9 : decode cX2_lots 9 = .ok (.iload 4, 2) := by decide +kernel
theorem dX2_lots_11 : decode cX2_lots 11 = .ok (.ifCond .eq 10, 3) := by decide +kernel
theorem dX2_lots_14 : decode cX2_lots 14 = .ok (.aload_n 0, 1) := by decide +kernel
theorem dX2_lots_15 : decode cX2_lots 15 = .ok (.iload 4, 2) := by decide +kernel
theorem dX2_lots_17 : decode cX2_lots 17 = .ok (.invokevirtual 63, 3) := by decide +kernel
theorem dX2_lots_20 : decode cX2_lots 20 = .ok (.ireturn, 1) := by decide +kernel
theorem dX2_lots_21 : decode cX2_lots 21 = .ok (.iload_n 3, 1) := by decide +kernel
theorem dX2_lots_22 : decode cX2_lots 22 = .ok (.ifCond .eq 15, 3) := by decide +kernel
theorem dX2_lots_25 : decode cX2_lots 25 = .ok (.iload_n 3, 1) := by decide +kernel
theorem dX2_lots_26 : decode cX2_lots 26 = .ok (.iconst 1, 1) := by decide +kernel
theorem dX2_lots_27 : decode cX2_lots 27 = .ok (.if_icmp .eq 10, 3) := by decide +kernel
theorem dX2_lots_30 : decode cX2_lots 30 = .ok (.aload_n 0, 1) := by decide +kernel
theorem dX2_lots_31 : decode cX2_lots 31 = .ok (.bipush (-2), 2) := by decide +kernel
theorem dX2_lots_33 : decode cX2_lots 33 = .ok (.invokevirtual 63, 3) := by decide +kernel
theorem dX2_lots_36 : decode cX2_lots 36 = .ok (.ireturn, 1) := by decide +kernel
theorem dX2_lots_37 : decode cX2_lots 37 = .ok (.iconst 0, 1) := by decide +kernel
theorem dX2_lots_38 : decode cX2_lots 38 = .ok (.istore 5, 2) := by decide +kernel
theorem dX2_lots_40 : decode cX2_lots 40 = .ok (.iconst 0, 1) := by decide +kernel
theorem dX2_lots_41 : decode cX2_lots 41 = .ok (.istore 6, 2) := by decide +kernel
theorem dX2_lots_43 : decode cX2_lots 43 = .ok (.iload_n 2, 1) := by decide +kernel
theorem dX2_lots_44 : decode cX2_lots 44 = .ok (.istore 7, 2) := by decide +kernel
theorem dX2_lots_46 : decode cX2_lots 46 = .ok (.iconst 0, 1) := by decide +kernel
theorem dX2_lots_47 : decode cX2_lots 47 = .ok (.istore 8, 2) := by decide +kernel
theorem dX2_lots_49 : decode cX2_lots 49 = .ok (.iload 8, 2) := by decide +kernel
theorem dX2_lots_51 : decode cX2_lots 51 = .ok (.iload_n 1, 1) := by decide +kernel
theorem dX2_lots_52 : decode cX2_lots 52 = .ok (.if_icmp .ge 108, 3) := by decide +kernel
theorem dX2_lots_55 : decode cX2_lots 55 = .ok (.aload_n 0, 1) := by decide +kernel
theorem dX2_lots_56 : decode cX2_lots 56 = .ok (.getfield 16, 3) := by decide +kernel
theorem dX2_lots_59 : decode cX2_lots 59 = .ok (.aload_n 0, 1) := by decide +kernel
theorem dX2_lots_60 : decode cX2_lots 60 = .ok (.getfield 10, 3) := by decide +kernel
theorem dX2_lots_63 : decode cX2_lots 63 = .ok (.invokevirtual 78, 3) := by decide +kernel
theorem dX2_lots_66 : decode cX2_lots 66 = .ok (.iconst 0, 1) := by decide +kernel
theorem dX2_lots_67 : decode cX2_lots 67 = .ok (.istore 9, 2) := by decide +kernel
theorem dX2_lots_69 : decode cX2_lots 69 = .ok (.iload 9, 2) := by decide +kernel
theorem dX2_lots_71 : decode cX2_lots 71 = .ok (.aload_n 0, 1) := by decide +kernel
theorem dX2_lots_72 : decode cX2_lots 72 = .ok (.getfield 16, 3) := by decide +kernel
theorem dX2_lots_75 : decode cX2_lots 75 = .ok (.getfield 196, 3) := by decide +kernel
theorem dX2_lots_78 : decode cX2_lots 78 = .ok (.if_icmp .ge 31, 3) := by decide +kernel
theorem dX2_lots_81 : decode cX2_lots 81 = .ok (.iload 7, 2) := by decide +kernel
theorem dX2_lots_83 : decode cX2_lots 83 = .ok (.invokestatic 257, 3) := by decide +kernel
theorem dX2_lots_86 : decode cX2_lots 86 = .ok (.istore 7, 2) := by decide +kernel
theorem dX2_lots_88 : decode cX2_lots 88 = .ok (.aload_n 0, 1) := by decide +kernel
theorem dX2_lots_89 : decode cX2_lots 89 = .ok (.getfield 16, 3) := by decide +kernel
theorem dX2_lots_92 : decode cX2_lots 92 = .ok (.iload 9, 2) := by decide +kernel
theorem dX2_lots_94 : decode cX2_lots 94 = .ok (.iload 7, 2) := by decide +kernel
theorem dX2_lots_96 : decode cX2_lots 96 = .ok (.invokestatic 260, 3) := by decide +kernel
theorem dX2_lots_99 : decode cX2_lots 99 = .ok (.invokevirtual 136, 3) := by decide +kernel
theorem dX2_lots_102 : decode cX2_lots 102 = .ok (.pop, 1) := by decide +kernel
theorem dX2_lots_103 : decode cX2_lots 103 = .ok (.iinc 9 1, 3) := by decide +kernel
theorem dX2_lots_106 : decode cX2_lots 106 = .ok (.goto (-37), 3) := by decide +kernel
theorem dX2_lots_109 : decode cX2_lots 109 = .ok (.aload_n 0, 1) := by decide +kernel
theorem dX2_lots_110 : decode cX2_lots 110 = .ok (.getfield 16, 3) := by decide +kernel
theorem dX2_lots_113 : decode cX2_lots 113 = .ok (.bipush 12, 2) := by decide +kernel
theorem dX2_lots_115 : decode cX2_lots 115 = .ok (.invokevirtual 172, 3) := by decide +kernel
theorem dX2_lots_118 : decode cX2_lots 118 = .ok (.istore 9, 2) := by decide +kernel
theorem dX2_lots_120 : decode cX2_lots 120 = .ok (.iload 5, 2) := by decide +kernel
theorem dX2_lots_122 : decode cX2_lots 122 = .ok (.iload 9, 2) := by decide +kernel
theorem dX2_lots_124 : decode cX2_lots 124 = .ok (.bipush 10, 2) := by decide +kernel
theorem dX2_lots_126 : decode cX2_lots 126 = .ok (.if_icmp .ne 7, 3) := by decide +kernel
theorem dX2_lots_129 : decode cX2_lots 129 = .ok (.iconst 1, 1) := by decide +kernel
theorem dX2_lots_130 : decode cX2_lots 130 = .ok (.goto 4, 3) := by decide +kernel
theorem dX2_lots_133 : decode cX2_lots 133 = .ok (.iconst 0, 1) := by decide +kernel
theorem dX2_lots_134 : decode cX2_lots 134 = .ok (.iadd, 1) := by decide +kernel
theorem dX2_lots_135 : decode cX2_lots 135 = .ok (.istore 5, 2) := by decide +kernel
theorem dX2_lots_137 : decode cX2_lots 137 = .ok (.iload 6, 2) := by decide +kernel
theorem dX2_lots_139 : decode cX2_lots 139 = .ok (.aload_n 0, 1) := by decide +kernel
theorem dX2_lots_140 : decode cX2_lots 140 = .ok (.getfield 16, 3) := by decide +kernel
theorem dX2_lots_143 : decode cX2_lots 143 = .ok (.iload 9, 2) := by decide +kernel
theorem dX2_lots_145 : decode cX2_lots 145 = .ok (.invokevirtual 225, 3) := by decide +kernel
theorem dX2_lots_148 : decode cX2_lots 148 = .ok (.invokestatic 205, 3) := by decide +kernel
theorem dX2_lots_151 : decode cX2_lots 151 = .ok (.iadd, 1) := by decide +kernel
theorem dX2_lots_152 : decode cX2_lots 152 = .ok (.istore 6, 2) := by decide +kernel
theorem dX2_lots_154 : decode cX2_lots 154 = .ok (.iinc 8 1, 3) := by decide +kernel
theorem dX2_lots_157 : decode cX2_lots 157 = .ok (.goto (-108), 3) := by decide +kernel
theorem dX2_lots_160 : decode cX2_lots 160 = .ok (.iload_n 3, 1) := by decide +kernel
theorem dX2_lots_161 : decode cX2_lots 161 = .ok (.ifCond .ne 8, 3) := by decide +kernel
theorem dX2_lots_164 : decode cX2_lots 164 = .ok (.iload 5, 2) := by decide +kernel
theorem dX2_lots_166 : decode cX2_lots 166 = .ok (.goto 5, 3) := by decide +kernel
theorem dX2_lots_169 : decode cX2_lots 169 = .ok (.iload 6, 2) := by decide +kernel
theorem dX2_lots_171 : decode cX2_lots 171 = .ok (.ireturn, 1) := by decide +kernel
set_option maxRecDepth 20000 in
theorem ggX2_image_X0_copy : GoodIn wsX2_image wsX0_copy := goodIn_r _ [9, 10, 11, 12, 13, 14, 15, 16, 17, 18, 33, 34, 35, 36, 37, 38, 39, 40, 41] (by decide +kernel) (by decide +kernel)
set_option maxRecDepth 20000 in
theorem gX2_image_X0_copy : GoodIn wsX2_image (wsV RX2 78 RX0 yX0_copy wsX0_copy) := goodIn_app (goodIn_of _ (by decide +kernel)) ggX2_image_X0_copy
theorem dX2_image_0 : decode cX2_image 0 = .ok (.aload_n 0, 1) := by decide +kernel
theorem dX2_image_1 : decode cX2_image 1 = .ok (.getfield 19, 3) := by decide +kernel
theorem dX2_image_4 : decode cX2_image 4 = .ok (.aload_n 0, 1) := by decide +kernel
theorem dX2_image_5 : decode cX2_image 5 = .ok (.getfield 10, 3) := by decide +kernel
theorem dX2_image_8 : decode cX2_image 8 = .ok (.invokevirtual 78, 3) := by decide +kernel
theorem dX2_image_11 : decode cX2_image 11 = .ok (.aload_n 0, 1) := by decide +kernel
theorem dX2_image_12 : decode cX2_image 12 = .ok (.iconst 1, 1) := by decide +kernel
theorem dX2_image_13 : decode cX2_image 13 = .ok (.putfield 59, 3) := by decide +kernel
theorem dX2_image_16 : decode cX2_image 16 = .ok (.aload_n 0, 1) := by decide +kernel
theorem dX2_image_17 : decode cX2_image 17 = .ok (.getfield 10, 3) := by decide +kernel
theorem dX2_image_20 : decode cX2_image 20 = .ok (.getfield 263, 3) := by decide +kernel
theorem dX2_image_23 : decode cX2_image 23 = .ok (.ireturn, 1) := by decide +kernel
set_option maxRecDepth 20000 in
theorem ggX2_on_X2_refuse : GoodIn wsX2_on wsX2_refuse := goodIn_r _ [9, 10, 25, 26, 27, 28, 29, 30, 31, 32, 33, 34, 35, 36, 37, 38] (by decide +kernel) (by decide +kernel)
set_option maxRecDepth 20000 in
theorem gX2_on_X2_refuse : GoodIn wsX2_on (wsV RX2 63 RX2 yX2_refuse wsX2_refuse) := goodIn_app (goodIn_of _ (by decide +kernel)) ggX2_on_X2_refuse
set_option maxRecDepth 20000 in
theorem ggX2_on_X0_copy : GoodIn wsX2_on wsX0_copy := goodIn_r _ [15, 16, 17, 18, 19, 20, 21, 22, 23, 24, 39, 40, 41, 42, 43, 44, 45, 46, 47] (by decide +kernel) (by decide +kernel)
set_option maxRecDepth 20000 in
theorem gX2_on_X0_copy : GoodIn wsX2_on (wsV RX2 78 RX0 yX0_copy wsX0_copy) := goodIn_app (goodIn_of _ (by decide +kernel)) ggX2_on_X0_copy
theorem dX2_on_0 : decode cX2_on 0 = .ok (.aload_n 0, 1) := by decide +kernel
theorem dX2_on_1 : decode cX2_on 1 = .ok (.getfield 59, 3) := by decide +kernel
theorem dX2_on_4 : decode cX2_on 4 = .ok (.ifCond .ne 10, 3) := by decide +kernel
theorem dX2_on_7 : decode cX2_on 7 = .ok (.aload_n 0, 1) := by decide +kernel
theorem dX2_on_8 : decode cX2_on 8 = .ok (.bipush (-3), 2) := by decide +kernel
theorem dX2_on_10 : decode cX2_on 10 = .ok (.invokevirtual 63, 3) := by decide +kernel
theorem dX2_on_13 : decode cX2_on 13 = .ok (.ireturn, 1) := by decide +kernel
theorem dX2_on_14 : decode cX2_on 14 = .ok (.aload_n 0, 1) := by decide +kernel
theorem dX2_on_15 : decode cX2_on 15 = .ok (.getfield 10, 3) := by decide +kernel
theorem dX2_on_18 : decode cX2_on 18 = .ok (.aload_n 0, 1) := by decide +kernel
theorem dX2_on_19 : decode cX2_on 19 = .ok (.getfield 19, 3) := by decide +kernel
theorem dX2_on_22 : decode cX2_on 22 = .ok (.invokevirtual 78, 3) := by decide +kernel
theorem dX2_on_25 : decode cX2_on 25 = .ok (.aload_n 0, 1) := by decide +kernel
theorem dX2_on_26 : decode cX2_on 26 = .ok (.getfield 10, 3) := by decide +kernel
theorem dX2_on_29 : decode cX2_on 29 = .ok (.getfield 263, 3) := by decide +kernel
theorem dX2_on_32 : decode cX2_on 32 = .ok (.ireturn, 1) := by decide +kernel
set_option maxRecDepth 20000 in
theorem ggX2_count_X0_bitsAt : GoodIn wsX2_count wsX0_bitsAt := goodIn_r _ [13, 14, 15, 16, 17, 12, 18, 19, 20, 21, 22, 23, 63, 64, 65, 66, 67, 68, 69, 70, 71] (by decide +kernel) (by decide +kernel)
set_option maxRecDepth 20000 in
theorem gX2_count_X0_bitsAt : GoodIn wsX2_count (wsV RX2 124 RX0 yX0_bitsAt wsX0_bitsAt) := goodIn_app (goodIn_of _ (by decide +kernel)) ggX2_count_X0_bitsAt
set_option maxRecDepth 20000 in
theorem ggX2_count_X0_weighsAll : GoodIn wsX2_count wsX0_weighsAll := goodIn_r _ [27, 14, 28, 29, 30, 12, 31, 32, 33, 34, 35, 36, 37, 38, 39, 40, 41, 42, 20, 21, 22, 23, 63, 64, 65, 66, 67, 68, 69, 70, 71] (by decide +kernel) (by decide +kernel)
set_option maxRecDepth 20000 in
theorem gX2_count_X0_weighsAll : GoodIn wsX2_count (wsV RX2 248 RX0 yX0_weighsAll wsX0_weighsAll) := goodIn_app (goodIn_of _ (by decide +kernel)) ggX2_count_X0_weighsAll
set_option maxRecDepth 20000 in
theorem ggX2_count_X2_refusalsOf : GoodIn wsX2_count wsX2_refusalsOf := goodIn_r _ [47, 48, 49, 50, 51, 52, 53, 54, 55, 56, 57, 58, 59, 60, 61, 62] (by decide +kernel) (by decide +kernel)
set_option maxRecDepth 20000 in
theorem gX2_count_X2_refusalsOf : GoodIn wsX2_count (wsV RX2 269 RX2 yX2_refusalsOf wsX2_refusalsOf) := goodIn_app (goodIn_of _ (by decide +kernel)) ggX2_count_X2_refusalsOf
theorem dX2_count_0 : decode cX2_count 0 = .ok (.iload_n 1, 1) := by decide +kernel
theorem dX2_count_1 : decode cX2_count 1 = .ok (.tableswitch 109 0 7 #[47, 55, 63, 71, 79, 88, 96, 101], 47) := by decide +kernel
theorem dX2_count_48 : decode cX2_count 48 = .ok (.aload_n 0, 1) := by decide +kernel
theorem dX2_count_49 : decode cX2_count 49 = .ok (.getfield 10, 3) := by decide +kernel
theorem dX2_count_52 : decode cX2_count 52 = .ok (.getfield 196, 3) := by decide +kernel
theorem dX2_count_55 : decode cX2_count 55 = .ok (.ireturn, 1) := by decide +kernel
theorem dX2_count_56 : decode cX2_count 56 = .ok (.aload_n 0, 1) := by decide +kernel
theorem dX2_count_57 : decode cX2_count 57 = .ok (.getfield 10, 3) := by decide +kernel
theorem dX2_count_60 : decode cX2_count 60 = .ok (.getfield 263, 3) := by decide +kernel
theorem dX2_count_63 : decode cX2_count 63 = .ok (.ireturn, 1) := by decide +kernel
theorem dX2_count_64 : decode cX2_count 64 = .ok (.aload_n 0, 1) := by decide +kernel
theorem dX2_count_65 : decode cX2_count 65 = .ok (.getfield 10, 3) := by decide +kernel
theorem dX2_count_68 : decode cX2_count 68 = .ok (.getfield 112, 3) := by decide +kernel
theorem dX2_count_71 : decode cX2_count 71 = .ok (.ireturn, 1) := by decide +kernel
theorem dX2_count_72 : decode cX2_count 72 = .ok (.aload_n 0, 1) := by decide +kernel
theorem dX2_count_73 : decode cX2_count 73 = .ok (.getfield 10, 3) := by decide +kernel
theorem dX2_count_76 : decode cX2_count 76 = .ok (.getfield 266, 3) := by decide +kernel
theorem dX2_count_79 : decode cX2_count 79 = .ok (.ireturn, 1) := by decide +kernel
theorem dX2_count_80 : decode cX2_count 80 = .ok (.aload_n 0, 1) := by decide +kernel
theorem dX2_count_81 : decode cX2_count 81 = .ok (.getfield 10, 3) := by decide +kernel
theorem dX2_count_84 : decode cX2_count 84 = .ok (.iconst 2, 1) := by decide +kernel
theorem dX2_count_85 : decode cX2_count 85 = .ok (.invokevirtual 124, 3) := by decide +kernel
theorem dX2_count_88 : decode cX2_count 88 = .ok (.ireturn, 1) := by decide +kernel
theorem dX2_count_89 : decode cX2_count 89 = .ok (.aload_n 0, 1) := by decide +kernel
theorem dX2_count_90 : decode cX2_count 90 = .ok (.getfield 10, 3) := by decide +kernel
theorem dX2_count_93 : decode cX2_count 93 = .ok (.invokevirtual 248, 3) := by decide +kernel
theorem dX2_count_96 : decode cX2_count 96 = .ok (.ireturn, 1) := by decide +kernel
theorem dX2_count_97 : decode cX2_count 97 = .ok (.aload_n 0, 1) := by decide +kernel
theorem dX2_count_98 : decode cX2_count 98 = .ok (.getfield 55, 3) := by decide +kernel
theorem dX2_count_101 : decode cX2_count 101 = .ok (.ireturn, 1) := by decide +kernel
theorem dX2_count_102 : decode cX2_count 102 = .ok (.aload_n 0, 1) := by decide +kernel
theorem dX2_count_103 : decode cX2_count 103 = .ok (.getfield 25, 3) := by decide +kernel
theorem dX2_count_106 : decode cX2_count 106 = .ok (.getfield 75, 3) := by decide +kernel
theorem dX2_count_109 : decode cX2_count 109 = .ok (.ireturn, 1) := by decide +kernel
theorem dX2_count_110 : decode cX2_count 110 = .ok (.aload_n 0, 1) := by decide +kernel
theorem dX2_count_111 : decode cX2_count 111 = .ok (.iload_n 1, 1) := by decide +kernel
theorem dX2_count_112 : decode cX2_count 112 = .ok (.bipush 10, 2) := by decide +kernel
theorem dX2_count_114 : decode cX2_count 114 = .ok (.isub, 1) := by decide +kernel
theorem dX2_count_115 : decode cX2_count 115 = .ok (.invokevirtual 269, 3) := by decide +kernel
theorem dX2_count_118 : decode cX2_count 118 = .ok (.ireturn, 1) := by decide +kernel
theorem dX2_refuse_0 : decode cX2_refuse 0 = .ok (.iload_n 1, 1) := by decide +kernel
theorem dX2_refuse_1 : decode cX2_refuse 1 = .ok (.ineg, 1) := by decide +kernel
theorem dX2_refuse_2 : decode cX2_refuse 2 = .ok (.istore_n 2, 1) := by decide +kernel
theorem dX2_refuse_3 : decode cX2_refuse 3 = .ok (.iload_n 2, 1) := by decide +kernel
theorem dX2_refuse_4 : decode cX2_refuse 4 = .ok (.iconst 1, 1) := by decide +kernel
theorem dX2_refuse_5 : decode cX2_refuse 5 = .ok (.if_icmp .lt 22, 3) := by decide +kernel
theorem dX2_refuse_8 : decode cX2_refuse 8 = .ok (.iload_n 2, 1) := by decide +kernel
theorem dX2_refuse_9 : decode cX2_refuse 9 = .ok (.aload_n 0, 1) := by decide +kernel
theorem dX2_refuse_10 : decode cX2_refuse 10 = .ok (.getfield 52, 3) := by decide +kernel
theorem dX2_refuse_13 : decode cX2_refuse 13 = .ok (.arraylength, 1) := by decide +kernel
theorem dX2_refuse_14 : decode cX2_refuse 14 = .ok (.if_icmp .ge 13, 3) := by decide +kernel
theorem dX2_refuse_17 : decode cX2_refuse 17 = .ok (.aload_n 0, 1) := by decide +kernel
theorem dX2_refuse_18 : decode cX2_refuse 18 = .ok (.getfield 52, 3) := by decide +kernel
theorem dX2_refuse_21 : decode cX2_refuse 21 = .ok (.iload_n 2, 1) := by decide +kernel
theorem dX2_refuse_22 : decode cX2_refuse 22 = .ok (.dup2, 1) := by decide +kernel
theorem dX2_refuse_23 : decode cX2_refuse 23 = .ok (.iaload, 1) := by decide +kernel
theorem dX2_refuse_24 : decode cX2_refuse 24 = .ok (.iconst 1, 1) := by decide +kernel
theorem dX2_refuse_25 : decode cX2_refuse 25 = .ok (.iadd, 1) := by decide +kernel
theorem dX2_refuse_26 : decode cX2_refuse 26 = .ok (.iastore, 1) := by decide +kernel
theorem dX2_refuse_27 : decode cX2_refuse 27 = .ok (.iload_n 1, 1) := by decide +kernel
theorem dX2_refuse_28 : decode cX2_refuse 28 = .ok (.ireturn, 1) := by decide +kernel
theorem dX2_refusalsOf_0 : decode cX2_refusalsOf 0 = .ok (.iload_n 1, 1) := by decide +kernel
theorem dX2_refusalsOf_1 : decode cX2_refusalsOf 1 = .ok (.iconst 1, 1) := by decide +kernel
theorem dX2_refusalsOf_2 : decode cX2_refusalsOf 2 = .ok (.if_icmp .lt 21, 3) := by decide +kernel
theorem dX2_refusalsOf_5 : decode cX2_refusalsOf 5 = .ok (.iload_n 1, 1) := by decide +kernel
theorem dX2_refusalsOf_6 : decode cX2_refusalsOf 6 = .ok (.aload_n 0, 1) := by decide +kernel
theorem dX2_refusalsOf_7 : decode cX2_refusalsOf 7 = .ok (.getfield 52, 3) := by decide +kernel
theorem dX2_refusalsOf_10 : decode cX2_refusalsOf 10 = .ok (.arraylength, 1) := by decide +kernel
theorem dX2_refusalsOf_11 : decode cX2_refusalsOf 11 = .ok (.if_icmp .ge 12, 3) := by decide +kernel
theorem dX2_refusalsOf_14 : decode cX2_refusalsOf 14 = .ok (.aload_n 0, 1) := by decide +kernel
theorem dX2_refusalsOf_15 : decode cX2_refusalsOf 15 = .ok (.getfield 52, 3) := by decide +kernel
theorem dX2_refusalsOf_18 : decode cX2_refusalsOf 18 = .ok (.iload_n 1, 1) := by decide +kernel
theorem dX2_refusalsOf_19 : decode cX2_refusalsOf 19 = .ok (.iaload, 1) := by decide +kernel
theorem dX2_refusalsOf_20 : decode cX2_refusalsOf 20 = .ok (.goto 5, 3) := by decide +kernel
theorem dX2_refusalsOf_23 : decode cX2_refusalsOf 23 = .ok (.bipush (-9), 2) := by decide +kernel
theorem dX2_refusalsOf_25 : decode cX2_refusalsOf 25 = .ok (.ireturn, 1) := by decide +kernel
theorem dX2_faultOf_0 : decode cX2_faultOf 0 = .ok (.iload_n 0, 1) := by decide +kernel
theorem dX2_faultOf_1 : decode cX2_faultOf 1 = .ok (.iload_n 1, 1) := by decide +kernel
theorem dX2_faultOf_2 : decode cX2_faultOf 2 = .ok (.if_icmp .ge 6, 3) := by decide +kernel
theorem dX2_faultOf_5 : decode cX2_faultOf 5 = .ok (.bipush (-4), 2) := by decide +kernel
theorem dX2_faultOf_7 : decode cX2_faultOf 7 = .ok (.ireturn, 1) := by decide +kernel
theorem dX2_faultOf_8 : decode cX2_faultOf 8 = .ok (.iload_n 0, 1) := by decide +kernel
theorem dX2_faultOf_9 : decode cX2_faultOf 9 = .ok (.iload_n 2, 1) := by decide +kernel
theorem dX2_faultOf_10 : decode cX2_faultOf 10 = .ok (.if_icmp .le 8, 3) := by decide +kernel
theorem dX2_faultOf_13 : decode cX2_faultOf 13 = .ok (.bipush (-6), 2) := by decide +kernel
theorem dX2_faultOf_15 : decode cX2_faultOf 15 = .ok (.goto 4, 3) := by decide +kernel
theorem dX2_faultOf_18 : decode cX2_faultOf 18 = .ok (.iconst 0, 1) := by decide +kernel
theorem dX2_faultOf_19 : decode cX2_faultOf 19 = .ok (.ireturn, 1) := by decide +kernel
set_option maxRecDepth 20000 in
theorem ggX2_howFar_X0_nearestDoor : GoodIn wsX2_howFar wsX0_nearestDoor := goodIn_r _ [11, 12, 13, 4, 5, 6, 14, 15, 10, 16, 17, 18, 19, 20, 21, 22, 23, 24, 40, 41, 42, 43, 44, 45, 46, 47, 48] (by decide +kernel) (by decide +kernel)
set_option maxRecDepth 20000 in
theorem gX2_howFar_X0_nearestDoor : GoodIn wsX2_howFar (wsV RX2 127 RX0 yX0_nearestDoor wsX0_nearestDoor) := goodIn_app (goodIn_of _ (by decide +kernel)) ggX2_howFar_X0_nearestDoor
set_option maxRecDepth 20000 in
theorem ggX2_howFar_X0_heightOf : GoodIn wsX2_howFar wsX0_heightOf := goodIn_r _ [16] (by decide +kernel) (by decide +kernel)
set_option maxRecDepth 20000 in
theorem gX2_howFar_X0_heightOf : GoodIn wsX2_howFar (va_wsS RX2 115 yX0_heightOf wsX0_heightOf) := goodIn_app (goodIn_of _ (by decide +kernel)) ggX2_howFar_X0_heightOf
theorem dX2_howFar_0 : decode cX2_howFar 0 = .ok (.aload_n 0, 1) := by decide +kernel
theorem dX2_howFar_1 : decode cX2_howFar 1 = .ok (.getfield 10, 3) := by decide +kernel
theorem dX2_howFar_4 : decode cX2_howFar 4 = .ok (.iload_n 1, 1) := by decide +kernel
theorem dX2_howFar_5 : decode cX2_howFar 5 = .ok (.invokevirtual 127, 3) := by decide +kernel
theorem dX2_howFar_8 : decode cX2_howFar 8 = .ok (.istore_n 2, 1) := by decide +kernel
theorem dX2_howFar_9 : decode cX2_howFar 9 = .ok (.iload_n 2, 1) := by decide +kernel
theorem dX2_howFar_10 : decode cX2_howFar 10 = .ok (.bipush (-9), 2) := by decide +kernel
theorem dX2_howFar_12 : decode cX2_howFar 12 = .ok (.if_icmp .ne 8, 3) := by decide +kernel
theorem dX2_howFar_15 : decode cX2_howFar 15 = .ok (.bipush (-9), 2) := by decide +kernel
theorem dX2_howFar_17 : decode cX2_howFar 17 = .ok (.goto 19, 3) := by decide +kernel
theorem dX2_howFar_20 : decode cX2_howFar 20 = .ok (.iload_n 2, 1) := by decide +kernel
theorem dX2_howFar_21 : decode cX2_howFar 21 = .ok (.iload_n 1, 1) := by decide +kernel
theorem dX2_howFar_22 : decode cX2_howFar 22 = .ok (.aload_n 0, 1) := by decide +kernel
theorem dX2_howFar_23 : decode cX2_howFar 23 = .ok (.getfield 10, 3) := by decide +kernel
theorem dX2_howFar_26 : decode cX2_howFar 26 = .ok (.getfield 112, 3) := by decide +kernel
theorem dX2_howFar_29 : decode cX2_howFar 29 = .ok (.invokestatic 115, 3) := by decide +kernel
theorem dX2_howFar_32 : decode cX2_howFar 32 = .ok (.isub, 1) := by decide +kernel
theorem dX2_howFar_33 : decode cX2_howFar 33 = .ok (.invokestatic 272, 3) := by decide +kernel
theorem dX2_howFar_36 : decode cX2_howFar 36 = .ok (.ireturn, 1) := by decide +kernel
set_option maxRecDepth 20000 in
theorem ggX2_firstAt_X0_foresee : GoodIn wsX2_firstAt wsX0_foresee := goodIn_r _ [7, 8, 9, 10, 11, 6, 12, 13, 14, 15, 16, 17, 18, 19, 20, 21, 22, 23, 24, 25, 26, 27, 28, 29, 30, 31, 32, 33, 34, 35, 36, 37, 38, 39, 40, 41, 42, 43, 61, 62, 63, 64, 65, 66, 67, 68, 69] (by decide +kernel) (by decide +kernel)
set_option maxRecDepth 20000 in
theorem gX2_firstAt_X0_foresee : GoodIn wsX2_firstAt (wsV RX2 189 RX0 yX0_foresee wsX0_foresee) := goodIn_app (goodIn_of _ (by decide +kernel)) ggX2_firstAt_X0_foresee
set_option maxRecDepth 20000 in
theorem ggX2_firstAt_X0_heightOf : GoodIn wsX2_firstAt wsX0_heightOf := goodIn_r _ [46] (by decide +kernel) (by decide +kernel)
set_option maxRecDepth 20000 in
theorem gX2_firstAt_X0_heightOf : GoodIn wsX2_firstAt (va_wsS RX2 115 yX0_heightOf wsX0_heightOf) := goodIn_app (goodIn_of _ (by decide +kernel)) ggX2_firstAt_X0_heightOf
theorem dX2_firstAt_0 : decode cX2_firstAt 0 = .ok (.aload_n 0, 1) := by decide +kernel
theorem dX2_firstAt_1 : decode cX2_firstAt 1 = .ok (.getfield 10, 3) := by decide +kernel
theorem dX2_firstAt_4 : decode cX2_firstAt 4 = .ok (.aload_n 0, 1) := by decide +kernel
theorem dX2_firstAt_5 : decode cX2_firstAt 5 = .ok (.getfield 29, 3) := by decide +kernel
theorem dX2_firstAt_8 : decode cX2_firstAt 8 = .ok (.bipush 60, 2) := by decide +kernel
theorem dX2_firstAt_10 : decode cX2_firstAt 10 = .ok (.invokevirtual 189, 3) := by decide +kernel
theorem dX2_firstAt_13 : decode cX2_firstAt 13 = .ok (.iconst 0, 1) := by decide +kernel
theorem dX2_firstAt_14 : decode cX2_firstAt 14 = .ok (.istore_n 3, 1) := by decide +kernel
theorem dX2_firstAt_15 : decode cX2_firstAt 15 = .ok (.iload_n 3, 1) := by decide +kernel
theorem dX2_firstAt_16 : decode cX2_firstAt 16 = .ok (.bipush 60, 2) := by decide +kernel
theorem dX2_firstAt_18 : decode cX2_firstAt 18 = .ok (.if_icmp .gt 34, 3) := by decide +kernel
theorem dX2_firstAt_21 : decode cX2_firstAt 21 = .ok (.iload_n 3, 1) := by decide +kernel
theorem dX2_firstAt_22 : decode cX2_firstAt 22 = .ok (.aload_n 0, 1) := by decide +kernel
theorem dX2_firstAt_23 : decode cX2_firstAt 23 = .ok (.getfield 29, 3) := by decide +kernel
theorem dX2_firstAt_26 : decode cX2_firstAt 26 = .ok (.arraylength, 1) := by decide +kernel
theorem dX2_firstAt_27 : decode cX2_firstAt 27 = .ok (.if_icmp .ge 25, 3) := by decide +kernel
theorem dX2_firstAt_30 : decode cX2_firstAt 30 = .ok (.iload_n 1, 1) := by decide +kernel
theorem dX2_firstAt_31 : decode cX2_firstAt 31 = .ok (.aload_n 0, 1) := by decide +kernel
theorem dX2_firstAt_32 : decode cX2_firstAt 32 = .ok (.getfield 29, 3) := by decide +kernel
theorem dX2_firstAt_35 : decode cX2_firstAt 35 = .ok (.iload_n 3, 1) := by decide +kernel
theorem dX2_firstAt_36 : decode cX2_firstAt 36 = .ok (.iaload, 1) := by decide +kernel
theorem dX2_firstAt_37 : decode cX2_firstAt 37 = .ok (.invokestatic 115, 3) := by decide +kernel
theorem dX2_firstAt_40 : decode cX2_firstAt 40 = .ok (.iload_n 2, 1) := by decide +kernel
theorem dX2_firstAt_41 : decode cX2_firstAt 41 = .ok (.if_icmp .ne 5, 3) := by decide +kernel
theorem dX2_firstAt_44 : decode cX2_firstAt 44 = .ok (.iload_n 3, 1) := by decide +kernel
theorem dX2_firstAt_45 : decode cX2_firstAt 45 = .ok (.ireturn, 1) := by decide +kernel
theorem dX2_firstAt_46 : decode cX2_firstAt 46 = .ok (.iinc 3 1, 3) := by decide +kernel
theorem dX2_firstAt_49 : decode cX2_firstAt 49 = .ok (.goto (-34), 3) := by decide +kernel
theorem dX2_firstAt_52 : decode cX2_firstAt 52 = .ok (.bipush (-9), 2) := by decide +kernel
theorem dX2_firstAt_54 : decode cX2_firstAt 54 = .ok (.ireturn, 1) := by decide +kernel
set_option maxRecDepth 20000 in
theorem ggX2_firstStrike_X0_foresee : GoodIn wsX2_firstStrike wsX0_foresee := goodIn_r _ [7, 8, 9, 10, 11, 6, 12, 13, 14, 15, 16, 17, 18, 19, 20, 21, 22, 23, 24, 25, 26, 27, 28, 29, 30, 31, 32, 33, 34, 35, 36, 37, 38, 39, 40, 41, 42, 43, 58, 59, 60, 61, 62, 63, 64, 65, 66] (by decide +kernel) (by decide +kernel)
set_option maxRecDepth 20000 in
theorem gX2_firstStrike_X0_foresee : GoodIn wsX2_firstStrike (wsV RX2 189 RX0 yX0_foresee wsX0_foresee) := goodIn_app (goodIn_of _ (by decide +kernel)) ggX2_firstStrike_X0_foresee
theorem dX2_firstStrike_0 : decode cX2_firstStrike 0 = .ok (.aload_n 0, 1) := by decide +kernel
theorem dX2_firstStrike_1 : decode cX2_firstStrike 1 = .ok (.getfield 10, 3) := by decide +kernel
theorem dX2_firstStrike_4 : decode cX2_firstStrike 4 = .ok (.aload_n 0, 1) := by decide +kernel
theorem dX2_firstStrike_5 : decode cX2_firstStrike 5 = .ok (.getfield 29, 3) := by decide +kernel
theorem dX2_firstStrike_8 : decode cX2_firstStrike 8 = .ok (.bipush 60, 2) := by decide +kernel
theorem dX2_firstStrike_10 : decode cX2_firstStrike 10 = .ok (.invokevirtual 189, 3) := by decide +kernel
theorem dX2_firstStrike_13 : decode cX2_firstStrike 13 = .ok (.iconst 0, 1) := by decide +kernel
theorem dX2_firstStrike_14 : decode cX2_firstStrike 14 = .ok (.istore_n 1, 1) := by decide +kernel
theorem dX2_firstStrike_15 : decode cX2_firstStrike 15 = .ok (.iload_n 1, 1) := by decide +kernel
theorem dX2_firstStrike_16 : decode cX2_firstStrike 16 = .ok (.bipush 60, 2) := by decide +kernel
theorem dX2_firstStrike_18 : decode cX2_firstStrike 18 = .ok (.if_icmp .gt 40, 3) := by decide +kernel
theorem dX2_firstStrike_21 : decode cX2_firstStrike 21 = .ok (.iload_n 1, 1) := by decide +kernel
theorem dX2_firstStrike_22 : decode cX2_firstStrike 22 = .ok (.aload_n 0, 1) := by decide +kernel
theorem dX2_firstStrike_23 : decode cX2_firstStrike 23 = .ok (.getfield 29, 3) := by decide +kernel
theorem dX2_firstStrike_26 : decode cX2_firstStrike 26 = .ok (.arraylength, 1) := by decide +kernel
theorem dX2_firstStrike_27 : decode cX2_firstStrike 27 = .ok (.if_icmp .ge 31, 3) := by decide +kernel
theorem dX2_firstStrike_30 : decode cX2_firstStrike 30 = .ok (.aload_n 0, 1) := by decide +kernel
theorem dX2_firstStrike_31 : decode cX2_firstStrike 31 = .ok (.getfield 29, 3) := by decide +kernel
theorem dX2_firstStrike_34 : decode cX2_firstStrike 34 = .ok (.iload_n 1, 1) := by decide +kernel
theorem dX2_firstStrike_35 : decode cX2_firstStrike 35 = .ok (.iaload, 1) := by decide +kernel
theorem dX2_firstStrike_36 : decode cX2_firstStrike 36 = .ok (.ifCond .eq 14, 3) := by decide +kernel
theorem dX2_firstStrike_39 : decode cX2_firstStrike 39 = .ok (.aload_n 0, 1) := by decide +kernel
theorem dX2_firstStrike_40 : decode cX2_firstStrike 40 = .ok (.getfield 29, 3) := by decide +kernel
theorem dX2_firstStrike_43 : decode cX2_firstStrike 43 = .ok (.iload_n 1, 1) := by decide +kernel
theorem dX2_firstStrike_44 : decode cX2_firstStrike 44 = .ok (.iaload, 1) := by decide +kernel
theorem dX2_firstStrike_45 : decode cX2_firstStrike 45 = .ok (.bipush 20, 2) := by decide +kernel
theorem dX2_firstStrike_47 : decode cX2_firstStrike 47 = .ok (.if_icmp .ne 5, 3) := by decide +kernel
theorem dX2_firstStrike_50 : decode cX2_firstStrike 50 = .ok (.iload_n 1, 1) := by decide +kernel
theorem dX2_firstStrike_51 : decode cX2_firstStrike 51 = .ok (.ireturn, 1) := by decide +kernel
theorem dX2_firstStrike_52 : decode cX2_firstStrike 52 = .ok (.iinc 1 1, 3) := by decide +kernel
theorem dX2_firstStrike_55 : decode cX2_firstStrike 55 = .ok (.goto (-40), 3) := by decide +kernel
theorem dX2_firstStrike_58 : decode cX2_firstStrike 58 = .ok (.bipush (-9), 2) := by decide +kernel
theorem dX2_firstStrike_60 : decode cX2_firstStrike 60 = .ok (.ireturn, 1) := by decide +kernel
set_option maxRecDepth 20000 in
theorem ggX2_firstStill_X0_foresee : GoodIn wsX2_firstStill wsX0_foresee := goodIn_r _ [7, 8, 9, 10, 11, 6, 12, 13, 14, 15, 16, 17, 18, 19, 20, 21, 22, 23, 24, 25, 26, 27, 28, 29, 30, 31, 32, 33, 34, 35, 36, 37, 38, 39, 40, 41, 42, 43, 58, 59, 60, 61, 62, 63, 64, 65, 66] (by decide +kernel) (by decide +kernel)
set_option maxRecDepth 20000 in
theorem gX2_firstStill_X0_foresee : GoodIn wsX2_firstStill (wsV RX2 189 RX0 yX0_foresee wsX0_foresee) := goodIn_app (goodIn_of _ (by decide +kernel)) ggX2_firstStill_X0_foresee
theorem dX2_firstStill_0 : decode cX2_firstStill 0 = .ok (.aload_n 0, 1) := by decide +kernel
theorem dX2_firstStill_1 : decode cX2_firstStill 1 = .ok (.getfield 10, 3) := by decide +kernel
theorem dX2_firstStill_4 : decode cX2_firstStill 4 = .ok (.aload_n 0, 1) := by decide +kernel
theorem dX2_firstStill_5 : decode cX2_firstStill 5 = .ok (.getfield 29, 3) := by decide +kernel
theorem dX2_firstStill_8 : decode cX2_firstStill 8 = .ok (.bipush 70, 2) := by decide +kernel
theorem dX2_firstStill_10 : decode cX2_firstStill 10 = .ok (.invokevirtual 189, 3) := by decide +kernel
theorem dX2_firstStill_13 : decode cX2_firstStill 13 = .ok (.iconst 0, 1) := by decide +kernel
theorem dX2_firstStill_14 : decode cX2_firstStill 14 = .ok (.istore_n 1, 1) := by decide +kernel
theorem dX2_firstStill_15 : decode cX2_firstStill 15 = .ok (.iconst 1, 1) := by decide +kernel
theorem dX2_firstStill_16 : decode cX2_firstStill 16 = .ok (.istore_n 2, 1) := by decide +kernel
theorem dX2_firstStill_17 : decode cX2_firstStill 17 = .ok (.iload_n 2, 1) := by decide +kernel
theorem dX2_firstStill_18 : decode cX2_firstStill 18 = .ok (.bipush 70, 2) := by decide +kernel
theorem dX2_firstStill_20 : decode cX2_firstStill 20 = .ok (.if_icmp .gt 47, 3) := by decide +kernel
theorem dX2_firstStill_23 : decode cX2_firstStill 23 = .ok (.iload_n 2, 1) := by decide +kernel
theorem dX2_firstStill_24 : decode cX2_firstStill 24 = .ok (.aload_n 0, 1) := by decide +kernel
theorem dX2_firstStill_25 : decode cX2_firstStill 25 = .ok (.getfield 29, 3) := by decide +kernel
theorem dX2_firstStill_28 : decode cX2_firstStill 28 = .ok (.arraylength, 1) := by decide +kernel
theorem dX2_firstStill_29 : decode cX2_firstStill 29 = .ok (.if_icmp .ge 38, 3) := by decide +kernel
theorem dX2_firstStill_32 : decode cX2_firstStill 32 = .ok (.aload_n 0, 1) := by decide +kernel
theorem dX2_firstStill_33 : decode cX2_firstStill 33 = .ok (.getfield 29, 3) := by decide +kernel
theorem dX2_firstStill_36 : decode cX2_firstStill 36 = .ok (.iload_n 2, 1) := by decide +kernel
theorem dX2_firstStill_37 : decode cX2_firstStill 37 = .ok (.iaload, 1) := by decide +kernel
theorem dX2_firstStill_38 : decode cX2_firstStill 38 = .ok (.aload_n 0, 1) := by decide +kernel
theorem dX2_firstStill_39 : decode cX2_firstStill 39 = .ok (.getfield 29, 3) := by decide +kernel
theorem dX2_firstStill_42 : decode cX2_firstStill 42 = .ok (.iload_n 2, 1) := by decide +kernel
theorem dX2_firstStill_43 : decode cX2_firstStill 43 = .ok (.iconst 1, 1) := by decide +kernel
theorem dX2_firstStill_44 : decode cX2_firstStill 44 = .ok (.isub, 1) := by decide +kernel
theorem dX2_firstStill_45 : decode cX2_firstStill 45 = .ok (.iaload, 1) := by decide +kernel
theorem dX2_firstStill_46 : decode cX2_firstStill 46 = .ok (.if_icmp .eq 5, 3) := by decide +kernel
theorem dX2_firstStill_49 : decode cX2_firstStill 49 = .ok (.iload_n 2, 1) := by decide +kernel
theorem dX2_firstStill_50 : decode cX2_firstStill 50 = .ok (.istore_n 1, 1) := by decide +kernel
theorem dX2_firstStill_51 : decode cX2_firstStill 51 = .ok (.iload_n 2, 1) := by decide +kernel
theorem dX2_firstStill_52 : decode cX2_firstStill 52 = .ok (.iload_n 1, 1) := by decide +kernel
theorem dX2_firstStill_53 : decode cX2_firstStill 53 = .ok (.isub, 1) := by decide +kernel
theorem dX2_firstStill_54 : decode cX2_firstStill 54 = .ok (.bipush 10, 2) := by decide +kernel
theorem dX2_firstStill_56 : decode cX2_firstStill 56 = .ok (.if_icmp .lt 5, 3) := by decide +kernel
theorem dX2_firstStill_59 : decode cX2_firstStill 59 = .ok (.iload_n 1, 1) := by decide +kernel
theorem dX2_firstStill_60 : decode cX2_firstStill 60 = .ok (.ireturn, 1) := by decide +kernel
theorem dX2_firstStill_61 : decode cX2_firstStill 61 = .ok (.iinc 2 1, 3) := by decide +kernel
theorem dX2_firstStill_64 : decode cX2_firstStill 64 = .ok (.goto (-47), 3) := by decide +kernel
theorem dX2_firstStill_67 : decode cX2_firstStill 67 = .ok (.bipush (-9), 2) := by decide +kernel
theorem dX2_firstStill_69 : decode cX2_firstStill 69 = .ok (.ireturn, 1) := by decide +kernel
set_option maxRecDepth 20000 in
theorem ggX2_apartIfPut_X0_copy : GoodIn wsX2_apartIfPut wsX0_copy := goodIn_r _ [7, 8, 9, 10, 11, 12, 13, 14, 15, 16, 77, 78, 79, 80, 81, 82, 83, 84, 85] (by decide +kernel) (by decide +kernel)
set_option maxRecDepth 20000 in
theorem gX2_apartIfPut_X0_copy : GoodIn wsX2_apartIfPut (wsV RX2 78 RX0 yX0_copy wsX0_copy) := goodIn_app (goodIn_of _ (by decide +kernel)) ggX2_apartIfPut_X0_copy
set_option maxRecDepth 20000 in
theorem ggX2_apartIfPut_X0_put : GoodIn wsX2_apartIfPut wsX0_put := goodIn_r _ [20, 15, 16, 10, 21, 22, 23, 6, 24, 11, 25, 26, 27, 77, 78, 79, 80, 81, 82, 83, 84, 85] (by decide +kernel) (by decide +kernel)
set_option maxRecDepth 20000 in
theorem gX2_apartIfPut_X0_put : GoodIn wsX2_apartIfPut (wsV RX2 136 RX0 yX0_put wsX0_put) := goodIn_app (goodIn_of _ (by decide +kernel)) ggX2_apartIfPut_X0_put
set_option maxRecDepth 20000 in
theorem ggX2_apartIfPut_X0_apartAfter : GoodIn wsX2_apartIfPut wsX0_apartAfter := goodIn_r _ [31, 32, 33, 34, 6, 35, 8, 36, 37, 38, 39, 12, 11, 15, 40, 41, 42, 43, 10, 14, 16, 44, 45, 46, 47, 13, 48, 49, 50, 21, 22, 23, 24, 51, 52, 53, 54, 55, 56, 57, 58, 59, 60, 61, 62, 77, 78, 79, 80, 81, 82, 83, 84, 85] (by decide +kernel) (by decide +kernel)
set_option maxRecDepth 20000 in
theorem gX2_apartIfPut_X0_apartAfter : GoodIn wsX2_apartIfPut (wsV RX2 193 RX0 yX0_apartAfter wsX0_apartAfter) := goodIn_app (goodIn_of _ (by decide +kernel)) ggX2_apartIfPut_X0_apartAfter
theorem dX2_apartIfPut_0 : decode cX2_apartIfPut 0 = .ok (.aload_n 0, 1) := by decide +kernel
theorem dX2_apartIfPut_1 : decode cX2_apartIfPut 1 = .ok (.getfield 16, 3) := by decide +kernel
theorem dX2_apartIfPut_4 : decode cX2_apartIfPut 4 = .ok (.aload_n 0, 1) := by decide +kernel
theorem dX2_apartIfPut_5 : decode cX2_apartIfPut 5 = .ok (.getfield 10, 3) := by decide +kernel
theorem dX2_apartIfPut_8 : decode cX2_apartIfPut 8 = .ok (.invokevirtual 78, 3) := by decide +kernel
theorem dX2_apartIfPut_11 : decode cX2_apartIfPut 11 = .ok (.aload_n 0, 1) := by decide +kernel
theorem dX2_apartIfPut_12 : decode cX2_apartIfPut 12 = .ok (.getfield 16, 3) := by decide +kernel
theorem dX2_apartIfPut_15 : decode cX2_apartIfPut 15 = .ok (.iload_n 1, 1) := by decide +kernel
theorem dX2_apartIfPut_16 : decode cX2_apartIfPut 16 = .ok (.iload_n 2, 1) := by decide +kernel
theorem dX2_apartIfPut_17 : decode cX2_apartIfPut 17 = .ok (.invokevirtual 136, 3) := by decide +kernel
theorem dX2_apartIfPut_20 : decode cX2_apartIfPut 20 = .ok (.pop, 1) := by decide +kernel
theorem dX2_apartIfPut_21 : decode cX2_apartIfPut 21 = .ok (.aload_n 0, 1) := by decide +kernel
theorem dX2_apartIfPut_22 : decode cX2_apartIfPut 22 = .ok (.getfield 16, 3) := by decide +kernel
theorem dX2_apartIfPut_25 : decode cX2_apartIfPut 25 = .ok (.iload_n 3, 1) := by decide +kernel
theorem dX2_apartIfPut_26 : decode cX2_apartIfPut 26 = .ok (.invokevirtual 193, 3) := by decide +kernel
theorem dX2_apartIfPut_29 : decode cX2_apartIfPut 29 = .ok (.ireturn, 1) := by decide +kernel
set_option maxRecDepth 20000 in
theorem ggX2_reckonShifts_X0_copy : GoodIn wsX2_reckonShifts wsX0_copy := goodIn_r _ [9, 10, 11, 12, 13, 14, 15, 16, 17, 18, 59, 60, 61, 62, 63, 64, 65, 66, 67] (by decide +kernel) (by decide +kernel)
set_option maxRecDepth 20000 in
theorem gX2_reckonShifts_X0_copy : GoodIn wsX2_reckonShifts (wsV RX2 78 RX0 yX0_copy wsX0_copy) := goodIn_app (goodIn_of _ (by decide +kernel)) ggX2_reckonShifts_X0_copy
set_option maxRecDepth 20000 in
theorem ggX2_reckonShifts_X0_placeOf : GoodIn wsX2_reckonShifts wsX0_placeOf := goodIn_r _ [22, 17, 23, 24, 25, 8, 26, 13, 59, 60, 61, 62, 63, 64, 65, 66, 67] (by decide +kernel) (by decide +kernel)
set_option maxRecDepth 20000 in
theorem gX2_reckonShifts_X0_placeOf : GoodIn wsX2_reckonShifts (wsV RX2 99 RX0 yX0_placeOf wsX0_placeOf) := goodIn_app (goodIn_of _ (by decide +kernel)) ggX2_reckonShifts_X0_placeOf
set_option maxRecDepth 20000 in
theorem ggX2_reckonShifts_X0_put : GoodIn wsX2_reckonShifts wsX0_put := goodIn_r _ [30, 17, 18, 12, 23, 24, 25, 8, 26, 13, 31, 32, 33, 59, 60, 61, 62, 63, 64, 65, 66, 67] (by decide +kernel) (by decide +kernel)
set_option maxRecDepth 20000 in
theorem gX2_reckonShifts_X0_put : GoodIn wsX2_reckonShifts (wsV RX2 136 RX0 yX0_put wsX0_put) := goodIn_app (goodIn_of _ (by decide +kernel)) ggX2_reckonShifts_X0_put
set_option maxRecDepth 20000 in
theorem ggX2_reckonShifts_X0_weighs : GoodIn wsX2_reckonShifts wsX0_weighs := goodIn_r _ [37, 12, 16, 18, 38, 39, 40, 41, 15, 42, 43, 44, 23, 24, 25, 8, 26, 13, 59, 60, 61, 62, 63, 64, 65, 66, 67] (by decide +kernel) (by decide +kernel)
set_option maxRecDepth 20000 in
theorem gX2_reckonShifts_X0_weighs : GoodIn wsX2_reckonShifts (wsV RX2 105 RX0 yX0_weighs wsX0_weighs) := goodIn_app (goodIn_of _ (by decide +kernel)) ggX2_reckonShifts_X0_weighs
theorem dX2_reckonShifts_0 : decode cX2_reckonShifts 0 = .ok (.aload_n 0, 1) := by decide +kernel
theorem dX2_reckonShifts_1 : decode cX2_reckonShifts 1 = .ok (.getfield 16, 3) := by decide +kernel
theorem dX2_reckonShifts_4 : decode cX2_reckonShifts 4 = .ok (.aload_n 0, 1) := by decide +kernel
theorem dX2_reckonShifts_5 : decode cX2_reckonShifts 5 = .ok (.getfield 10, 3) := by decide +kernel
theorem dX2_reckonShifts_8 : decode cX2_reckonShifts 8 = .ok (.invokevirtual 78, 3) := by decide +kernel
theorem dX2_reckonShifts_11 : decode cX2_reckonShifts 11 = .ok (.iconst 0, 1) := by decide +kernel
theorem dX2_reckonShifts_12 : decode cX2_reckonShifts 12 = .ok (.istore_n 1, 1) := by decide +kernel
theorem dX2_reckonShifts_13 : decode cX2_reckonShifts 13 = .ok (.iload_n 1, 1) := by decide +kernel
theorem dX2_reckonShifts_14 : decode cX2_reckonShifts 14 = .ok (.aload_n 0, 1) := by decide +kernel
theorem dX2_reckonShifts_15 : decode cX2_reckonShifts 15 = .ok (.getfield 10, 3) := by decide +kernel
theorem dX2_reckonShifts_18 : decode cX2_reckonShifts 18 = .ok (.getfield 196, 3) := by decide +kernel
theorem dX2_reckonShifts_21 : decode cX2_reckonShifts 21 = .ok (.if_icmp .ge 73, 3) := by decide +kernel
theorem dX2_reckonShifts_24 : decode cX2_reckonShifts 24 = .ok (.iload_n 1, 1) := by decide +kernel
theorem dX2_reckonShifts_25 : decode cX2_reckonShifts 25 = .ok (.aload_n 0, 1) := by decide +kernel
theorem dX2_reckonShifts_26 : decode cX2_reckonShifts 26 = .ok (.getfield 36, 3) := by decide +kernel
theorem dX2_reckonShifts_29 : decode cX2_reckonShifts 29 = .ok (.arraylength, 1) := by decide +kernel
theorem dX2_reckonShifts_30 : decode cX2_reckonShifts 30 = .ok (.if_icmp .ge 64, 3) := by decide +kernel
theorem dX2_reckonShifts_33 : decode cX2_reckonShifts 33 = .ok (.aload_n 0, 1) := by decide +kernel
theorem dX2_reckonShifts_34 : decode cX2_reckonShifts 34 = .ok (.getfield 10, 3) := by decide +kernel
theorem dX2_reckonShifts_37 : decode cX2_reckonShifts 37 = .ok (.iload_n 1, 1) := by decide +kernel
theorem dX2_reckonShifts_38 : decode cX2_reckonShifts 38 = .ok (.invokevirtual 99, 3) := by decide +kernel
theorem dX2_reckonShifts_41 : decode cX2_reckonShifts 41 = .ok (.istore_n 2, 1) := by decide +kernel
theorem dX2_reckonShifts_42 : decode cX2_reckonShifts 42 = .ok (.aload_n 0, 1) := by decide +kernel
theorem dX2_reckonShifts_43 : decode cX2_reckonShifts 43 = .ok (.getfield 16, 3) := by decide +kernel
theorem dX2_reckonShifts_46 : decode cX2_reckonShifts 46 = .ok (.iload_n 1, 1) := by decide +kernel
theorem dX2_reckonShifts_47 : decode cX2_reckonShifts 47 = .ok (.iload_n 2, 1) := by decide +kernel
theorem dX2_reckonShifts_48 : decode cX2_reckonShifts 48 = .ok (.invokevirtual 136, 3) := by decide +kernel
theorem dX2_reckonShifts_51 : decode cX2_reckonShifts 51 = .ok (.pop, 1) := by decide +kernel
theorem dX2_reckonShifts_52 : decode cX2_reckonShifts 52 = .ok (.aload_n 0, 1) := by decide +kernel
theorem dX2_reckonShifts_53 : decode cX2_reckonShifts 53 = .ok (.getfield 10, 3) := by decide +kernel
theorem dX2_reckonShifts_56 : decode cX2_reckonShifts 56 = .ok (.iload_n 1, 1) := by decide +kernel
theorem dX2_reckonShifts_57 : decode cX2_reckonShifts 57 = .ok (.iconst 0, 1) := by decide +kernel
theorem dX2_reckonShifts_58 : decode cX2_reckonShifts 58 = .ok (.invokevirtual 105, 3) := by decide +kernel
theorem dX2_reckonShifts_61 : decode cX2_reckonShifts 61 = .ok (.aload_n 0, 1) := by decide +kernel
theorem dX2_reckonShifts_62 : decode cX2_reckonShifts 62 = .ok (.getfield 16, 3) := by decide +kernel
theorem dX2_reckonShifts_65 : decode cX2_reckonShifts 65 = .ok (.iload_n 1, 1) := by decide +kernel
theorem dX2_reckonShifts_66 : decode cX2_reckonShifts 66 = .ok (.iconst 0, 1) := by decide +kernel
theorem dX2_reckonShifts_67 : decode cX2_reckonShifts 67 = .ok (.invokevirtual 105, 3) := by decide +kernel
theorem dX2_reckonShifts_70 : decode cX2_reckonShifts 70 = .ok (.iadd, 1) := by decide +kernel
theorem dX2_reckonShifts_71 : decode cX2_reckonShifts 71 = .ok (.istore_n 3, 1) := by decide +kernel
theorem dX2_reckonShifts_72 : decode cX2_reckonShifts 72 = .ok (.aload_n 0, 1) := by decide +kernel
theorem dX2_reckonShifts_73 : decode cX2_reckonShifts 73 = .ok (.getfield 36, 3) := by decide +kernel
theorem dX2_reckonShifts_76 : decode cX2_reckonShifts 76 = .ok (.iload_n 1, 1) := by decide +kernel
theorem dX2_reckonShifts_77 : decode cX2_reckonShifts 77 = .ok (.iload_n 2, 1) := by decide +kernel
theorem dX2_reckonShifts_78 : decode cX2_reckonShifts 78 = .ok (.ifCond .ne 8, 3) := by decide +kernel
theorem dX2_reckonShifts_81 : decode cX2_reckonShifts 81 = .ok (.iload_n 3, 1) := by decide +kernel
theorem dX2_reckonShifts_82 : decode cX2_reckonShifts 82 = .ok (.ineg, 1) := by decide +kernel
theorem dX2_reckonShifts_83 : decode cX2_reckonShifts 83 = .ok (.goto 4, 3) := by decide +kernel
theorem dX2_reckonShifts_86 : decode cX2_reckonShifts 86 = .ok (.iload_n 3, 1) := by decide +kernel
theorem dX2_reckonShifts_87 : decode cX2_reckonShifts 87 = .ok (.iastore, 1) := by decide +kernel
theorem dX2_reckonShifts_88 : decode cX2_reckonShifts 88 = .ok (.iinc 1 1, 3) := by decide +kernel
theorem dX2_reckonShifts_91 : decode cX2_reckonShifts 91 = .ok (.goto (-78), 3) := by decide +kernel
theorem dX2_reckonShifts_94 : decode cX2_reckonShifts 94 = .ok (.return_, 1) := by decide +kernel
theorem dX2_shiftOf_0 : decode cX2_shiftOf 0 = .ok (.iconst 0, 1) := by decide +kernel
theorem dX2_shiftOf_1 : decode cX2_shiftOf 1 = .ok (.istore_n 2, 1) := by decide +kernel
theorem dX2_shiftOf_2 : decode cX2_shiftOf 2 = .ok (.iconst 0, 1) := by decide +kernel
theorem dX2_shiftOf_3 : decode cX2_shiftOf 3 = .ok (.istore_n 3, 1) := by decide +kernel
theorem dX2_shiftOf_4 : decode cX2_shiftOf 4 = .ok (.iload_n 3, 1) := by decide +kernel
theorem dX2_shiftOf_5 : decode cX2_shiftOf 5 = .ok (.aload_n 0, 1) := by decide +kernel
theorem dX2_shiftOf_6 : decode cX2_shiftOf 6 = .ok (.getfield 10, 3) := by decide +kernel
theorem dX2_shiftOf_9 : decode cX2_shiftOf 9 = .ok (.getfield 196, 3) := by decide +kernel
theorem dX2_shiftOf_12 : decode cX2_shiftOf 12 = .ok (.if_icmp .ge 36, 3) := by decide +kernel
theorem dX2_shiftOf_15 : decode cX2_shiftOf 15 = .ok (.iload_n 3, 1) := by decide +kernel
theorem dX2_shiftOf_16 : decode cX2_shiftOf 16 = .ok (.aload_n 0, 1) := by decide +kernel
theorem dX2_shiftOf_17 : decode cX2_shiftOf 17 = .ok (.getfield 36, 3) := by decide +kernel
theorem dX2_shiftOf_20 : decode cX2_shiftOf 20 = .ok (.arraylength, 1) := by decide +kernel
theorem dX2_shiftOf_21 : decode cX2_shiftOf 21 = .ok (.if_icmp .ge 27, 3) := by decide +kernel
theorem dX2_shiftOf_24 : decode cX2_shiftOf 24 = .ok (.iload_n 1, 1) := by decide +kernel
theorem dX2_shiftOf_25 : decode cX2_shiftOf 25 = .ok (.iload_n 3, 1) := by decide +kernel
theorem dX2_shiftOf_26 : decode cX2_shiftOf 26 = .ok (.ishr, 1) := by decide +kernel
theorem dX2_shiftOf_27 : decode cX2_shiftOf 27 = .ok (.iconst 1, 1) := by decide +kernel
theorem dX2_shiftOf_28 : decode cX2_shiftOf 28 = .ok (.iand, 1) := by decide +kernel
theorem dX2_shiftOf_29 : decode cX2_shiftOf 29 = .ok (.iconst 1, 1) := by decide +kernel
theorem dX2_shiftOf_30 : decode cX2_shiftOf 30 = .ok (.if_icmp .ne 12, 3) := by decide +kernel
theorem dX2_shiftOf_33 : decode cX2_shiftOf 33 = .ok (.iload_n 2, 1) := by decide +kernel
theorem dX2_shiftOf_34 : decode cX2_shiftOf 34 = .ok (.aload_n 0, 1) := by decide +kernel
theorem dX2_shiftOf_35 : decode cX2_shiftOf 35 = .ok (.getfield 36, 3) := by decide +kernel
theorem dX2_shiftOf_38 : decode cX2_shiftOf 38 = .ok (.iload_n 3, 1) := by decide +kernel
theorem dX2_shiftOf_39 : decode cX2_shiftOf 39 = .ok (.iaload, 1) := by decide +kernel
theorem dX2_shiftOf_40 : decode cX2_shiftOf 40 = .ok (.iadd, 1) := by decide +kernel
theorem dX2_shiftOf_41 : decode cX2_shiftOf 41 = .ok (.istore_n 2, 1) := by decide +kernel
theorem dX2_shiftOf_42 : decode cX2_shiftOf 42 = .ok (.iinc 3 1, 3) := by decide +kernel
theorem dX2_shiftOf_45 : decode cX2_shiftOf 45 = .ok (.goto (-41), 3) := by decide +kernel
theorem dX2_shiftOf_48 : decode cX2_shiftOf 48 = .ok (.iload_n 2, 1) := by decide +kernel
theorem dX2_shiftOf_49 : decode cX2_shiftOf 49 = .ok (.ireturn, 1) := by decide +kernel
set_option maxRecDepth 20000 in
theorem ggX2_reckonPulls_X0_pullAfter : GoodIn wsX2_reckonPulls wsX0_pullAfter := goodIn_r _ [7, 8, 9, 10, 11, 12, 13, 6, 14, 15, 16, 17, 18, 19, 20, 21, 22, 23, 24, 25, 26, 27, 28, 29, 44, 45, 46, 47, 48, 49, 50, 51, 52] (by decide +kernel) (by decide +kernel)
set_option maxRecDepth 20000 in
theorem gX2_reckonPulls_X0_pullAfter : GoodIn wsX2_reckonPulls (wsV RX2 176 RX0 yX0_pullAfter wsX0_pullAfter) := goodIn_app (goodIn_of _ (by decide +kernel)) ggX2_reckonPulls_X0_pullAfter
theorem dX2_reckonPulls_0 : decode cX2_reckonPulls 0 = .ok (.iconst 0, 1) := by decide +kernel
theorem dX2_reckonPulls_1 : decode cX2_reckonPulls 1 = .ok (.istore_n 2, 1) := by decide +kernel
theorem dX2_reckonPulls_2 : decode cX2_reckonPulls 2 = .ok (.iload_n 2, 1) := by decide +kernel
theorem dX2_reckonPulls_3 : decode cX2_reckonPulls 3 = .ok (.iload_n 1, 1) := by decide +kernel
theorem dX2_reckonPulls_4 : decode cX2_reckonPulls 4 = .ok (.if_icmp .gt 32, 3) := by decide +kernel
theorem dX2_reckonPulls_7 : decode cX2_reckonPulls 7 = .ok (.iload_n 2, 1) := by decide +kernel
theorem dX2_reckonPulls_8 : decode cX2_reckonPulls 8 = .ok (.aload_n 0, 1) := by decide +kernel
theorem dX2_reckonPulls_9 : decode cX2_reckonPulls 9 = .ok (.getfield 33, 3) := by decide +kernel
theorem dX2_reckonPulls_12 : decode cX2_reckonPulls 12 = .ok (.arraylength, 1) := by decide +kernel
theorem dX2_reckonPulls_13 : decode cX2_reckonPulls 13 = .ok (.if_icmp .ge 23, 3) := by decide +kernel
theorem dX2_reckonPulls_16 : decode cX2_reckonPulls 16 = .ok (.aload_n 0, 1) := by decide +kernel
theorem dX2_reckonPulls_17 : decode cX2_reckonPulls 17 = .ok (.getfield 33, 3) := by decide +kernel
theorem dX2_reckonPulls_20 : decode cX2_reckonPulls 20 = .ok (.iload_n 2, 1) := by decide +kernel
theorem dX2_reckonPulls_21 : decode cX2_reckonPulls 21 = .ok (.aload_n 0, 1) := by decide +kernel
theorem dX2_reckonPulls_22 : decode cX2_reckonPulls 22 = .ok (.getfield 10, 3) := by decide +kernel
theorem dX2_reckonPulls_25 : decode cX2_reckonPulls 25 = .ok (.iload_n 2, 1) := by decide +kernel
theorem dX2_reckonPulls_26 : decode cX2_reckonPulls 26 = .ok (.invokevirtual 176, 3) := by decide +kernel
theorem dX2_reckonPulls_29 : decode cX2_reckonPulls 29 = .ok (.iastore, 1) := by decide +kernel
theorem dX2_reckonPulls_30 : decode cX2_reckonPulls 30 = .ok (.iinc 2 1, 3) := by decide +kernel
theorem dX2_reckonPulls_33 : decode cX2_reckonPulls 33 = .ok (.goto (-31), 3) := by decide +kernel
theorem dX2_reckonPulls_36 : decode cX2_reckonPulls 36 = .ok (.return_, 1) := by decide +kernel
set_option maxRecDepth 20000 in
theorem ggX2_apartIfPulled_X0_moved : GoodIn wsX2_apartIfPulled wsX0_moved := goodIn_r _ [7, 8, 9, 10, 11, 12, 13, 14, 15, 16, 6, 17, 18, 19, 20] (by decide +kernel) (by decide +kernel)
set_option maxRecDepth 20000 in
theorem gX2_apartIfPulled_X0_moved : GoodIn wsX2_apartIfPulled (va_wsS RX2 277 yX0_moved wsX0_moved) := goodIn_app (goodIn_of _ (by decide +kernel)) ggX2_apartIfPulled_X0_moved
set_option maxRecDepth 20000 in
theorem ggX2_apartIfPulled_X0_apartAt : GoodIn wsX2_apartIfPulled wsX0_apartAt := goodIn_r _ [23, 18, 19, 10, 20] (by decide +kernel) (by decide +kernel)
set_option maxRecDepth 20000 in
theorem gX2_apartIfPulled_X0_apartAt : GoodIn wsX2_apartIfPulled (va_wsS RX2 280 yX0_apartAt wsX0_apartAt) := goodIn_app (goodIn_of _ (by decide +kernel)) ggX2_apartIfPulled_X0_apartAt
theorem dX2_apartIfPulled_0 : decode cX2_apartIfPulled 0 = .ok (.aload_n 0, 1) := by decide +kernel
theorem dX2_apartIfPulled_1 : decode cX2_apartIfPulled 1 = .ok (.getfield 10, 3) := by decide +kernel
theorem dX2_apartIfPulled_4 : decode cX2_apartIfPulled 4 = .ok (.getfield 112, 3) := by decide +kernel
theorem dX2_apartIfPulled_7 : decode cX2_apartIfPulled 7 = .ok (.istore_n 3, 1) := by decide +kernel
theorem dX2_apartIfPulled_8 : decode cX2_apartIfPulled 8 = .ok (.iconst 1, 1) := by decide +kernel
theorem dX2_apartIfPulled_9 : decode cX2_apartIfPulled 9 = .ok (.istore 4, 2) := by decide +kernel
theorem dX2_apartIfPulled_11 : decode cX2_apartIfPulled 11 = .ok (.iload 4, 2) := by decide +kernel
theorem dX2_apartIfPulled_13 : decode cX2_apartIfPulled 13 = .ok (.iload_n 2, 1) := by decide +kernel
theorem dX2_apartIfPulled_14 : decode cX2_apartIfPulled 14 = .ok (.if_icmp .gt 33, 3) := by decide +kernel
theorem dX2_apartIfPulled_17 : decode cX2_apartIfPulled 17 = .ok (.iload 4, 2) := by decide +kernel
theorem dX2_apartIfPulled_19 : decode cX2_apartIfPulled 19 = .ok (.aload_n 0, 1) := by decide +kernel
theorem dX2_apartIfPulled_20 : decode cX2_apartIfPulled 20 = .ok (.getfield 33, 3) := by decide +kernel
theorem dX2_apartIfPulled_23 : decode cX2_apartIfPulled 23 = .ok (.arraylength, 1) := by decide +kernel
theorem dX2_apartIfPulled_24 : decode cX2_apartIfPulled 24 = .ok (.if_icmp .ge 23, 3) := by decide +kernel
theorem dX2_apartIfPulled_27 : decode cX2_apartIfPulled 27 = .ok (.iload_n 3, 1) := by decide +kernel
theorem dX2_apartIfPulled_28 : decode cX2_apartIfPulled 28 = .ok (.aload_n 0, 1) := by decide +kernel
theorem dX2_apartIfPulled_29 : decode cX2_apartIfPulled 29 = .ok (.getfield 33, 3) := by decide +kernel
theorem dX2_apartIfPulled_32 : decode cX2_apartIfPulled 32 = .ok (.iload 4, 2) := by decide +kernel
theorem dX2_apartIfPulled_34 : decode cX2_apartIfPulled 34 = .ok (.iaload, 1) := by decide +kernel
theorem dX2_apartIfPulled_35 : decode cX2_apartIfPulled 35 = .ok (.iload_n 1, 1) := by decide +kernel
theorem dX2_apartIfPulled_36 : decode cX2_apartIfPulled 36 = .ok (.iadd, 1) := by decide +kernel
theorem dX2_apartIfPulled_37 : decode cX2_apartIfPulled 37 = .ok (.invokestatic 277, 3) := by decide +kernel
theorem dX2_apartIfPulled_40 : decode cX2_apartIfPulled 40 = .ok (.istore_n 3, 1) := by decide +kernel
theorem dX2_apartIfPulled_41 : decode cX2_apartIfPulled 41 = .ok (.iinc 4 1, 3) := by decide +kernel
theorem dX2_apartIfPulled_44 : decode cX2_apartIfPulled 44 = .ok (.goto (-33), 3) := by decide +kernel
theorem dX2_apartIfPulled_47 : decode cX2_apartIfPulled 47 = .ok (.iload_n 3, 1) := by decide +kernel
theorem dX2_apartIfPulled_48 : decode cX2_apartIfPulled 48 = .ok (.invokestatic 280, 3) := by decide +kernel
theorem dX2_apartIfPulled_51 : decode cX2_apartIfPulled 51 = .ok (.ireturn, 1) := by decide +kernel
set_option maxRecDepth 20000 in
theorem ggX2_outweighing_X0_weighs : GoodIn wsX2_outweighing wsX0_weighs := goodIn_r _ [7, 8, 9, 10, 11, 12, 13, 14, 15, 16, 17, 18, 19, 20, 21, 6, 22, 23, 38, 39, 40, 41, 42, 43, 44, 45, 46] (by decide +kernel) (by decide +kernel)
set_option maxRecDepth 20000 in
theorem gX2_outweighing_X0_weighs : GoodIn wsX2_outweighing (wsV RX2 105 RX0 yX0_weighs wsX0_weighs) := goodIn_app (goodIn_of _ (by decide +kernel)) ggX2_outweighing_X0_weighs
theorem dX2_outweighing_0 : decode cX2_outweighing 0 = .ok (.bipush (-9), 2) := by decide +kernel
theorem dX2_outweighing_2 : decode cX2_outweighing 2 = .ok (.istore_n 2, 1) := by decide +kernel
theorem dX2_outweighing_3 : decode cX2_outweighing 3 = .ok (.iconst 0, 1) := by decide +kernel
theorem dX2_outweighing_4 : decode cX2_outweighing 4 = .ok (.istore_n 3, 1) := by decide +kernel
theorem dX2_outweighing_5 : decode cX2_outweighing 5 = .ok (.iconst 0, 1) := by decide +kernel
theorem dX2_outweighing_6 : decode cX2_outweighing 6 = .ok (.istore 4, 2) := by decide +kernel
theorem dX2_outweighing_8 : decode cX2_outweighing 8 = .ok (.iload 4, 2) := by decide +kernel
theorem dX2_outweighing_10 : decode cX2_outweighing 10 = .ok (.aload_n 0, 1) := by decide +kernel
theorem dX2_outweighing_11 : decode cX2_outweighing 11 = .ok (.getfield 10, 3) := by decide +kernel
theorem dX2_outweighing_14 : decode cX2_outweighing 14 = .ok (.getfield 196, 3) := by decide +kernel
theorem dX2_outweighing_17 : decode cX2_outweighing 17 = .ok (.if_icmp .ge 41, 3) := by decide +kernel
theorem dX2_outweighing_20 : decode cX2_outweighing 20 = .ok (.iload_n 1, 1) := by decide +kernel
theorem dX2_outweighing_21 : decode cX2_outweighing 21 = .ok (.aload_n 0, 1) := by decide +kernel
theorem dX2_outweighing_22 : decode cX2_outweighing 22 = .ok (.getfield 10, 3) := by decide +kernel
theorem dX2_outweighing_25 : decode cX2_outweighing 25 = .ok (.iload 4, 2) := by decide +kernel
theorem dX2_outweighing_27 : decode cX2_outweighing 27 = .ok (.iconst 0, 1) := by decide +kernel
theorem dX2_outweighing_28 : decode cX2_outweighing 28 = .ok (.invokevirtual 105, 3) := by decide +kernel
theorem dX2_outweighing_31 : decode cX2_outweighing 31 = .ok (.imul, 1) := by decide +kernel
theorem dX2_outweighing_32 : decode cX2_outweighing 32 = .ok (.istore 5, 2) := by decide +kernel
theorem dX2_outweighing_34 : decode cX2_outweighing 34 = .ok (.iload_n 2, 1) := by decide +kernel
theorem dX2_outweighing_35 : decode cX2_outweighing 35 = .ok (.bipush (-9), 2) := by decide +kernel
theorem dX2_outweighing_37 : decode cX2_outweighing 37 = .ok (.if_icmp .eq 9, 3) := by decide +kernel
theorem dX2_outweighing_40 : decode cX2_outweighing 40 = .ok (.iload 5, 2) := by decide +kernel
theorem dX2_outweighing_42 : decode cX2_outweighing 42 = .ok (.iload_n 3, 1) := by decide +kernel
theorem dX2_outweighing_43 : decode cX2_outweighing 43 = .ok (.if_icmp .le 9, 3) := by decide +kernel
theorem dX2_outweighing_46 : decode cX2_outweighing 46 = .ok (.iload 5, 2) := by decide +kernel
theorem dX2_outweighing_48 : decode cX2_outweighing 48 = .ok (.istore_n 3, 1) := by decide +kernel
theorem dX2_outweighing_49 : decode cX2_outweighing 49 = .ok (.iload 4, 2) := by decide +kernel
theorem dX2_outweighing_51 : decode cX2_outweighing 51 = .ok (.istore_n 2, 1) := by decide +kernel
theorem dX2_outweighing_52 : decode cX2_outweighing 52 = .ok (.iinc 4 1, 3) := by decide +kernel
theorem dX2_outweighing_55 : decode cX2_outweighing 55 = .ok (.goto (-47), 3) := by decide +kernel
theorem dX2_outweighing_58 : decode cX2_outweighing 58 = .ok (.iload_n 2, 1) := by decide +kernel
theorem dX2_outweighing_59 : decode cX2_outweighing 59 = .ok (.ireturn, 1) := by decide +kernel
set_option maxRecDepth 20000 in
theorem ggX2_gaining_X0_weighs : GoodIn wsX2_gaining wsX0_weighs := goodIn_r _ [7, 8, 9, 10, 11, 12, 13, 14, 15, 16, 17, 18, 19, 20, 21, 6, 22, 23, 38, 39, 40, 41, 42, 43, 44, 45, 46] (by decide +kernel) (by decide +kernel)
set_option maxRecDepth 20000 in
theorem gX2_gaining_X0_weighs : GoodIn wsX2_gaining (wsV RX2 105 RX0 yX0_weighs wsX0_weighs) := goodIn_app (goodIn_of _ (by decide +kernel)) ggX2_gaining_X0_weighs
theorem dX2_gaining_0 : decode cX2_gaining 0 = .ok (.iconst 0, 1) := by decide +kernel
theorem dX2_gaining_1 : decode cX2_gaining 1 = .ok (.istore_n 2, 1) := by decide +kernel
theorem dX2_gaining_2 : decode cX2_gaining 2 = .ok (.iconst 0, 1) := by decide +kernel
theorem dX2_gaining_3 : decode cX2_gaining 3 = .ok (.istore_n 3, 1) := by decide +kernel
theorem dX2_gaining_4 : decode cX2_gaining 4 = .ok (.iload_n 3, 1) := by decide +kernel
theorem dX2_gaining_5 : decode cX2_gaining 5 = .ok (.aload_n 0, 1) := by decide +kernel
theorem dX2_gaining_6 : decode cX2_gaining 6 = .ok (.getfield 10, 3) := by decide +kernel
theorem dX2_gaining_9 : decode cX2_gaining 9 = .ok (.getfield 196, 3) := by decide +kernel
theorem dX2_gaining_12 : decode cX2_gaining 12 = .ok (.if_icmp .ge 39, 3) := by decide +kernel
theorem dX2_gaining_15 : decode cX2_gaining 15 = .ok (.iload_n 1, 1) := by decide +kernel
theorem dX2_gaining_16 : decode cX2_gaining 16 = .ok (.aload_n 0, 1) := by decide +kernel
theorem dX2_gaining_17 : decode cX2_gaining 17 = .ok (.getfield 10, 3) := by decide +kernel
theorem dX2_gaining_20 : decode cX2_gaining 20 = .ok (.iload_n 3, 1) := by decide +kernel
theorem dX2_gaining_21 : decode cX2_gaining 21 = .ok (.iconst 1, 1) := by decide +kernel
theorem dX2_gaining_22 : decode cX2_gaining 22 = .ok (.invokevirtual 105, 3) := by decide +kernel
theorem dX2_gaining_25 : decode cX2_gaining 25 = .ok (.aload_n 0, 1) := by decide +kernel
theorem dX2_gaining_26 : decode cX2_gaining 26 = .ok (.getfield 10, 3) := by decide +kernel
theorem dX2_gaining_29 : decode cX2_gaining 29 = .ok (.iload_n 3, 1) := by decide +kernel
theorem dX2_gaining_30 : decode cX2_gaining 30 = .ok (.iconst 0, 1) := by decide +kernel
theorem dX2_gaining_31 : decode cX2_gaining 31 = .ok (.invokevirtual 105, 3) := by decide +kernel
theorem dX2_gaining_34 : decode cX2_gaining 34 = .ok (.isub, 1) := by decide +kernel
theorem dX2_gaining_35 : decode cX2_gaining 35 = .ok (.imul, 1) := by decide +kernel
theorem dX2_gaining_36 : decode cX2_gaining 36 = .ok (.ifCond .le 9, 3) := by decide +kernel
theorem dX2_gaining_39 : decode cX2_gaining 39 = .ok (.iload_n 2, 1) := by decide +kernel
theorem dX2_gaining_40 : decode cX2_gaining 40 = .ok (.iconst 1, 1) := by decide +kernel
theorem dX2_gaining_41 : decode cX2_gaining 41 = .ok (.iload_n 3, 1) := by decide +kernel
theorem dX2_gaining_42 : decode cX2_gaining 42 = .ok (.ishl, 1) := by decide +kernel
theorem dX2_gaining_43 : decode cX2_gaining 43 = .ok (.ior, 1) := by decide +kernel
theorem dX2_gaining_44 : decode cX2_gaining 44 = .ok (.istore_n 2, 1) := by decide +kernel
theorem dX2_gaining_45 : decode cX2_gaining 45 = .ok (.iinc 3 1, 3) := by decide +kernel
theorem dX2_gaining_48 : decode cX2_gaining 48 = .ok (.goto (-44), 3) := by decide +kernel
theorem dX2_gaining_51 : decode cX2_gaining 51 = .ok (.iload_n 2, 1) := by decide +kernel
theorem dX2_gaining_52 : decode cX2_gaining 52 = .ok (.ireturn, 1) := by decide +kernel
set_option maxRecDepth 20000 in
theorem ggX2_reckonOutcomes_X0_copy : GoodIn wsX2_reckonOutcomes wsX0_copy := goodIn_r _ [8, 9, 10, 11, 12, 13, 14, 15, 16, 17, 71, 72, 73, 74, 75, 76, 77, 78, 79] (by decide +kernel) (by decide +kernel)
set_option maxRecDepth 20000 in
theorem gX2_reckonOutcomes_X0_copy : GoodIn wsX2_reckonOutcomes (wsV RX2 78 RX0 yX0_copy wsX0_copy) := goodIn_app (goodIn_of _ (by decide +kernel)) ggX2_reckonOutcomes_X0_copy
set_option maxRecDepth 20000 in
theorem ggX2_reckonOutcomes_X0_put : GoodIn wsX2_reckonOutcomes wsX0_put := goodIn_r _ [21, 16, 17, 11, 22, 23, 24, 7, 25, 12, 26, 27, 28, 71, 72, 73, 74, 75, 76, 77, 78, 79] (by decide +kernel) (by decide +kernel)
set_option maxRecDepth 20000 in
theorem gX2_reckonOutcomes_X0_put : GoodIn wsX2_reckonOutcomes (wsV RX2 136 RX0 yX0_put wsX0_put) := goodIn_app (goodIn_of _ (by decide +kernel)) ggX2_reckonOutcomes_X0_put
set_option maxRecDepth 20000 in
theorem ggX2_reckonOutcomes_X0_floorAfter : GoodIn wsX2_reckonOutcomes wsX0_floorAfter := goodIn_r _ [32, 9, 33, 34, 35, 7, 36, 13, 12, 16, 37, 38, 39, 40, 11, 15, 17, 41, 42, 43, 44, 14, 45, 46, 47, 22, 23, 24, 25, 48, 49, 50, 51, 52, 53, 54, 55, 56, 71, 72, 73, 74, 75, 76, 77, 78, 79] (by decide +kernel) (by decide +kernel)
set_option maxRecDepth 20000 in
theorem gX2_reckonOutcomes_X0_floorAfter : GoodIn wsX2_reckonOutcomes (wsV RX2 172 RX0 yX0_floorAfter wsX0_floorAfter) := goodIn_app (goodIn_of _ (by decide +kernel)) ggX2_reckonOutcomes_X0_floorAfter
theorem dX2_reckonOutcomes_0 : decode cX2_reckonOutcomes 0 = .ok (.iconst 0, 1) := by decide +kernel
theorem dX2_reckonOutcomes_1 : decode cX2_reckonOutcomes 1 = .ok (.istore 4, 2) := by decide +kernel
theorem dX2_reckonOutcomes_3 : decode cX2_reckonOutcomes 3 = .ok (.iload 4, 2) := by decide +kernel
theorem dX2_reckonOutcomes_5 : decode cX2_reckonOutcomes 5 = .ok (.aload_n 0, 1) := by decide +kernel
theorem dX2_reckonOutcomes_6 : decode cX2_reckonOutcomes 6 = .ok (.getfield 39, 3) := by decide +kernel
theorem dX2_reckonOutcomes_9 : decode cX2_reckonOutcomes 9 = .ok (.arraylength, 1) := by decide +kernel
theorem dX2_reckonOutcomes_10 : decode cX2_reckonOutcomes 10 = .ok (.if_icmp .ge 69, 3) := by decide +kernel
theorem dX2_reckonOutcomes_13 : decode cX2_reckonOutcomes 13 = .ok (.aload_n 0, 1) := by decide +kernel
theorem dX2_reckonOutcomes_14 : decode cX2_reckonOutcomes 14 = .ok (.getfield 16, 3) := by decide +kernel
theorem dX2_reckonOutcomes_17 : decode cX2_reckonOutcomes 17 = .ok (.aload_n 0, 1) := by decide +kernel
theorem dX2_reckonOutcomes_18 : decode cX2_reckonOutcomes 18 = .ok (.getfield 10, 3) := by decide +kernel
theorem dX2_reckonOutcomes_21 : decode cX2_reckonOutcomes 21 = .ok (.invokevirtual 78, 3) := by decide +kernel
theorem dX2_reckonOutcomes_24 : decode cX2_reckonOutcomes 24 = .ok (.iload 4, 2) := by decide +kernel
theorem dX2_reckonOutcomes_26 : decode cX2_reckonOutcomes 26 = .ok (.iconst 2, 1) := by decide +kernel
theorem dX2_reckonOutcomes_27 : decode cX2_reckonOutcomes 27 = .ok (.iand, 1) := by decide +kernel
theorem dX2_reckonOutcomes_28 : decode cX2_reckonOutcomes 28 = .ok (.ifCond .ne 13, 3) := by decide +kernel
theorem dX2_reckonOutcomes_31 : decode cX2_reckonOutcomes 31 = .ok (.aload_n 0, 1) := by decide +kernel
theorem dX2_reckonOutcomes_32 : decode cX2_reckonOutcomes 32 = .ok (.getfield 16, 3) := by decide +kernel
theorem dX2_reckonOutcomes_35 : decode cX2_reckonOutcomes 35 = .ok (.iload_n 1, 1) := by decide +kernel
theorem dX2_reckonOutcomes_36 : decode cX2_reckonOutcomes 36 = .ok (.iconst 2, 1) := by decide +kernel
theorem dX2_reckonOutcomes_37 : decode cX2_reckonOutcomes 37 = .ok (.invokevirtual 136, 3) := by decide +kernel
theorem dX2_reckonOutcomes_40 : decode cX2_reckonOutcomes 40 = .ok (.pop, 1) := by decide +kernel
theorem dX2_reckonOutcomes_41 : decode cX2_reckonOutcomes 41 = .ok (.iload 4, 2) := by decide +kernel
theorem dX2_reckonOutcomes_43 : decode cX2_reckonOutcomes 43 = .ok (.iconst 1, 1) := by decide +kernel
theorem dX2_reckonOutcomes_44 : decode cX2_reckonOutcomes 44 = .ok (.iand, 1) := by decide +kernel
theorem dX2_reckonOutcomes_45 : decode cX2_reckonOutcomes 45 = .ok (.ifCond .ne 13, 3) := by decide +kernel
theorem dX2_reckonOutcomes_48 : decode cX2_reckonOutcomes 48 = .ok (.aload_n 0, 1) := by decide +kernel
theorem dX2_reckonOutcomes_49 : decode cX2_reckonOutcomes 49 = .ok (.getfield 16, 3) := by decide +kernel
theorem dX2_reckonOutcomes_52 : decode cX2_reckonOutcomes 52 = .ok (.iload_n 2, 1) := by decide +kernel
theorem dX2_reckonOutcomes_53 : decode cX2_reckonOutcomes 53 = .ok (.iconst 2, 1) := by decide +kernel
theorem dX2_reckonOutcomes_54 : decode cX2_reckonOutcomes 54 = .ok (.invokevirtual 136, 3) := by decide +kernel
theorem dX2_reckonOutcomes_57 : decode cX2_reckonOutcomes 57 = .ok (.pop, 1) := by decide +kernel
theorem dX2_reckonOutcomes_58 : decode cX2_reckonOutcomes 58 = .ok (.aload_n 0, 1) := by decide +kernel
theorem dX2_reckonOutcomes_59 : decode cX2_reckonOutcomes 59 = .ok (.getfield 39, 3) := by decide +kernel
theorem dX2_reckonOutcomes_62 : decode cX2_reckonOutcomes 62 = .ok (.iload 4, 2) := by decide +kernel
theorem dX2_reckonOutcomes_64 : decode cX2_reckonOutcomes 64 = .ok (.aload_n 0, 1) := by decide +kernel
theorem dX2_reckonOutcomes_65 : decode cX2_reckonOutcomes 65 = .ok (.getfield 16, 3) := by decide +kernel
theorem dX2_reckonOutcomes_68 : decode cX2_reckonOutcomes 68 = .ok (.iload_n 3, 1) := by decide +kernel
theorem dX2_reckonOutcomes_69 : decode cX2_reckonOutcomes 69 = .ok (.invokevirtual 172, 3) := by decide +kernel
theorem dX2_reckonOutcomes_72 : decode cX2_reckonOutcomes 72 = .ok (.iastore, 1) := by decide +kernel
theorem dX2_reckonOutcomes_73 : decode cX2_reckonOutcomes 73 = .ok (.iinc 4 1, 3) := by decide +kernel
theorem dX2_reckonOutcomes_76 : decode cX2_reckonOutcomes 76 = .ok (.goto (-73), 3) := by decide +kernel
theorem dX2_reckonOutcomes_79 : decode cX2_reckonOutcomes 79 = .ok (.return_, 1) := by decide +kernel
set_option maxRecDepth 20000 in
theorem ggX2_isSettled_X2_gain : GoodIn wsX2_isSettled wsX2_gain := goodIn_r _ [5, 6, 7, 8, 9, 10, 11, 12, 13, 14, 15, 16, 17, 18, 19, 20, 21, 22, 23, 24] (by decide +kernel) (by decide +kernel)
set_option maxRecDepth 20000 in
theorem gX2_isSettled_X2_gain : GoodIn wsX2_isSettled (wsV RX2 283 RX2 yX2_gain wsX2_gain) := goodIn_app (goodIn_of _ (by decide +kernel)) ggX2_isSettled_X2_gain
theorem dX2_isSettled_0 : decode cX2_isSettled 0 = .ok (.aload_n 0, 1) := by decide +kernel
theorem dX2_isSettled_1 : decode cX2_isSettled 1 = .ok (.iload_n 1, 1) := by decide +kernel
theorem dX2_isSettled_2 : decode cX2_isSettled 2 = .ok (.iload_n 2, 1) := by decide +kernel
theorem dX2_isSettled_3 : decode cX2_isSettled 3 = .ok (.iload_n 3, 1) := by decide +kernel
theorem dX2_isSettled_4 : decode cX2_isSettled 4 = .ok (.invokevirtual 283, 3) := by decide +kernel
theorem dX2_isSettled_7 : decode cX2_isSettled 7 = .ok (.aload_n 0, 1) := by decide +kernel
theorem dX2_isSettled_8 : decode cX2_isSettled 8 = .ok (.iload_n 1, 1) := by decide +kernel
theorem dX2_isSettled_9 : decode cX2_isSettled 9 = .ok (.iload_n 2, 1) := by decide +kernel
theorem dX2_isSettled_10 : decode cX2_isSettled 10 = .ok (.ixor, 1) := by decide +kernel
theorem dX2_isSettled_11 : decode cX2_isSettled 11 = .ok (.iload_n 2, 1) := by decide +kernel
theorem dX2_isSettled_12 : decode cX2_isSettled 12 = .ok (.iload_n 3, 1) := by decide +kernel
theorem dX2_isSettled_13 : decode cX2_isSettled 13 = .ok (.invokevirtual 283, 3) := by decide +kernel
theorem dX2_isSettled_16 : decode cX2_isSettled 16 = .ok (.if_icmp .lt 7, 3) := by decide +kernel
theorem dX2_isSettled_19 : decode cX2_isSettled 19 = .ok (.iconst 1, 1) := by decide +kernel
theorem dX2_isSettled_20 : decode cX2_isSettled 20 = .ok (.goto 4, 3) := by decide +kernel
theorem dX2_isSettled_23 : decode cX2_isSettled 23 = .ok (.iconst 0, 1) := by decide +kernel
theorem dX2_isSettled_24 : decode cX2_isSettled 24 = .ok (.ireturn, 1) := by decide +kernel
set_option maxRecDepth 20000 in
theorem ggX2_gain_X0_heightOf : GoodIn wsX2_gain wsX0_heightOf := goodIn_r _ [5] (by decide +kernel) (by decide +kernel)
set_option maxRecDepth 20000 in
theorem gX2_gain_X0_heightOf : GoodIn wsX2_gain (va_wsS RX2 115 yX0_heightOf wsX0_heightOf) := goodIn_app (goodIn_of _ (by decide +kernel)) ggX2_gain_X0_heightOf
theorem dX2_gain_0 : decode cX2_gain 0 = .ok (.iload_n 1, 1) := by decide +kernel
theorem dX2_gain_1 : decode cX2_gain 1 = .ok (.ifCond .lt 12, 3) := by decide +kernel
theorem dX2_gain_4 : decode cX2_gain 4 = .ok (.iload_n 1, 1) := by decide +kernel
theorem dX2_gain_5 : decode cX2_gain 5 = .ok (.aload_n 0, 1) := by decide +kernel
theorem dX2_gain_6 : decode cX2_gain 6 = .ok (.getfield 39, 3) := by decide +kernel
theorem dX2_gain_9 : decode cX2_gain 9 = .ok (.arraylength, 1) := by decide +kernel
theorem dX2_gain_10 : decode cX2_gain 10 = .ok (.if_icmp .lt 5, 3) := by decide +kernel
theorem dX2_gain_13 : decode cX2_gain 13 = .ok (.iconst 0, 1) := by decide +kernel
theorem dX2_gain_14 : decode cX2_gain 14 = .ok (.ireturn, 1) := by decide +kernel
theorem dX2_gain_15 : decode cX2_gain 15 = .ok (.iload_n 3, 1) := by decide +kernel
theorem dX2_gain_16 : decode cX2_gain 16 = .ok (.aload_n 0, 1) := by decide +kernel
theorem dX2_gain_17 : decode cX2_gain 17 = .ok (.getfield 39, 3) := by decide +kernel
theorem dX2_gain_20 : decode cX2_gain 20 = .ok (.iload_n 1, 1) := by decide +kernel
theorem dX2_gain_21 : decode cX2_gain 21 = .ok (.iaload, 1) := by decide +kernel
theorem dX2_gain_22 : decode cX2_gain 22 = .ok (.invokestatic 115, 3) := by decide +kernel
theorem dX2_gain_25 : decode cX2_gain 25 = .ok (.iload_n 1, 1) := by decide +kernel
theorem dX2_gain_26 : decode cX2_gain 26 = .ok (.iload_n 2, 1) := by decide +kernel
theorem dX2_gain_27 : decode cX2_gain 27 = .ok (.iand, 1) := by decide +kernel
theorem dX2_gain_28 : decode cX2_gain 28 = .ok (.ifCond .eq 7, 3) := by decide +kernel
theorem dX2_gain_31 : decode cX2_gain 31 = .ok (.iconst 1, 1) := by decide +kernel
theorem dX2_gain_32 : decode cX2_gain 32 = .ok (.goto 4, 3) := by decide +kernel
theorem dX2_gain_35 : decode cX2_gain 35 = .ok (.iconst 0, 1) := by decide +kernel
theorem dX2_gain_36 : decode cX2_gain 36 = .ok (.iadd, 1) := by decide +kernel
theorem dX2_gain_37 : decode cX2_gain 37 = .ok (.ireturn, 1) := by decide +kernel
set_option maxRecDepth 20000 in
theorem ggX2_reckonOdds_X0_pullAfter : GoodIn wsX2_reckonOdds wsX0_pullAfter := goodIn_r _ [8, 9, 10, 11, 12, 13, 14, 7, 15, 16, 17, 18, 19, 20, 21, 22, 23, 24, 25, 26, 27, 28, 29, 30, 64, 65, 66, 67, 68, 69, 70, 71, 72] (by decide +kernel) (by decide +kernel)
set_option maxRecDepth 20000 in
theorem gX2_reckonOdds_X0_pullAfter : GoodIn wsX2_reckonOdds (wsV RX2 176 RX0 yX0_pullAfter wsX0_pullAfter) := goodIn_app (goodIn_of _ (by decide +kernel)) ggX2_reckonOdds_X0_pullAfter
set_option maxRecDepth 20000 in
theorem ggX2_reckonOdds_X2_spreadOdds : GoodIn wsX2_reckonOdds wsX2_spreadOdds := goodIn_r _ [35, 36, 1, 37, 38, 7, 39, 19, 20, 21, 22, 24, 25, 26, 40, 41, 42, 43, 44, 45, 46, 47, 48, 34, 49, 50, 51, 52, 53, 54, 55, 56, 57, 58, 59, 60, 61, 62, 63] (by decide +kernel) (by decide +kernel)
set_option maxRecDepth 20000 in
theorem gX2_reckonOdds_X2_spreadOdds : GoodIn wsX2_reckonOdds (wsV RX2 286 RX2 yX2_spreadOdds wsX2_spreadOdds) := goodIn_app (goodIn_of _ (by decide +kernel)) ggX2_reckonOdds_X2_spreadOdds
theorem dX2_reckonOdds_0 : decode cX2_reckonOdds 0 = .ok (.iconst 0, 1) := by decide +kernel
theorem dX2_reckonOdds_1 : decode cX2_reckonOdds 1 = .ok (.istore_n 3, 1) := by decide +kernel
theorem dX2_reckonOdds_2 : decode cX2_reckonOdds 2 = .ok (.iload_n 3, 1) := by decide +kernel
theorem dX2_reckonOdds_3 : decode cX2_reckonOdds 3 = .ok (.aload_n 0, 1) := by decide +kernel
theorem dX2_reckonOdds_4 : decode cX2_reckonOdds 4 = .ok (.getfield 42, 3) := by decide +kernel
theorem dX2_reckonOdds_7 : decode cX2_reckonOdds 7 = .ok (.arraylength, 1) := by decide +kernel
theorem dX2_reckonOdds_8 : decode cX2_reckonOdds 8 = .ok (.if_icmp .ge 31, 3) := by decide +kernel
theorem dX2_reckonOdds_11 : decode cX2_reckonOdds 11 = .ok (.aload_n 0, 1) := by decide +kernel
theorem dX2_reckonOdds_12 : decode cX2_reckonOdds 12 = .ok (.getfield 42, 3) := by decide +kernel
theorem dX2_reckonOdds_15 : decode cX2_reckonOdds 15 = .ok (.iload_n 3, 1) := by decide +kernel
theorem dX2_reckonOdds_16 : decode cX2_reckonOdds 16 = .ok (.iload_n 3, 1) := by decide +kernel
theorem dX2_reckonOdds_17 : decode cX2_reckonOdds 17 = .ok (.aload_n 0, 1) := by decide +kernel
theorem dX2_reckonOdds_18 : decode cX2_reckonOdds 18 = .ok (.getfield 10, 3) := by decide +kernel
theorem dX2_reckonOdds_21 : decode cX2_reckonOdds 21 = .ok (.getfield 112, 3) := by decide +kernel
theorem dX2_reckonOdds_24 : decode cX2_reckonOdds 24 = .ok (.if_icmp .ne 7, 3) := by decide +kernel
theorem dX2_reckonOdds_27 : decode cX2_reckonOdds 27 = .ok (.lconst 1, 1) := by decide +kernel
theorem dX2_reckonOdds_28 : decode cX2_reckonOdds 28 = .ok (.goto 4, 3) := by decide +kernel
theorem dX2_reckonOdds_31 : decode cX2_reckonOdds 31 = .ok (.lconst 0, 1) := by decide +kernel
theorem dX2_reckonOdds_32 : decode cX2_reckonOdds 32 = .ok (.lastore, 1) := by decide +kernel
theorem dX2_reckonOdds_33 : decode cX2_reckonOdds 33 = .ok (.iinc 3 1, 3) := by decide +kernel
theorem dX2_reckonOdds_36 : decode cX2_reckonOdds 36 = .ok (.goto (-34), 3) := by decide +kernel
theorem dX2_reckonOdds_39 : decode cX2_reckonOdds 39 = .ok (.lconst 1, 1) := by decide +kernel
theorem dX2_reckonOdds_40 : decode cX2_reckonOdds 40 = .ok (.lstore_n 3, 1) := by decide +kernel
theorem dX2_reckonOdds_41 : decode cX2_reckonOdds 41 = .ok (.iconst 1, 1) := by decide +kernel
theorem dX2_reckonOdds_42 : decode cX2_reckonOdds 42 = .ok (.istore 5, 2) := by decide +kernel
theorem dX2_reckonOdds_44 : decode cX2_reckonOdds 44 = .ok (.iload 5, 2) := by decide +kernel
theorem dX2_reckonOdds_46 : decode cX2_reckonOdds 46 = .ok (.iload_n 1, 1) := by decide +kernel
theorem dX2_reckonOdds_47 : decode cX2_reckonOdds 47 = .ok (.if_icmp .gt 28, 3) := by decide +kernel
theorem dX2_reckonOdds_50 : decode cX2_reckonOdds 50 = .ok (.aload_n 0, 1) := by decide +kernel
theorem dX2_reckonOdds_51 : decode cX2_reckonOdds 51 = .ok (.aload_n 0, 1) := by decide +kernel
theorem dX2_reckonOdds_52 : decode cX2_reckonOdds 52 = .ok (.getfield 10, 3) := by decide +kernel
theorem dX2_reckonOdds_55 : decode cX2_reckonOdds 55 = .ok (.iload 5, 2) := by decide +kernel
theorem dX2_reckonOdds_57 : decode cX2_reckonOdds 57 = .ok (.invokevirtual 176, 3) := by decide +kernel
theorem dX2_reckonOdds_60 : decode cX2_reckonOdds 60 = .ok (.iload_n 2, 1) := by decide +kernel
theorem dX2_reckonOdds_61 : decode cX2_reckonOdds 61 = .ok (.invokevirtual 286, 3) := by decide +kernel
theorem dX2_reckonOdds_64 : decode cX2_reckonOdds 64 = .ok (.lload_n 3, 1) := by decide +kernel
theorem dX2_reckonOdds_65 : decode cX2_reckonOdds 65 = .ok (.iload_n 2, 1) := by decide +kernel
theorem dX2_reckonOdds_66 : decode cX2_reckonOdds 66 = .ok (.i2l, 1) := by decide +kernel
theorem dX2_reckonOdds_67 : decode cX2_reckonOdds 67 = .ok (.lmul, 1) := by decide +kernel
theorem dX2_reckonOdds_68 : decode cX2_reckonOdds 68 = .ok (.lstore_n 3, 1) := by decide +kernel
theorem dX2_reckonOdds_69 : decode cX2_reckonOdds 69 = .ok (.iinc 5 1, 3) := by decide +kernel
theorem dX2_reckonOdds_72 : decode cX2_reckonOdds 72 = .ok (.goto (-28), 3) := by decide +kernel
theorem dX2_reckonOdds_75 : decode cX2_reckonOdds 75 = .ok (.lload_n 3, 1) := by decide +kernel
theorem dX2_reckonOdds_76 : decode cX2_reckonOdds 76 = .ok (.lreturn, 1) := by decide +kernel
set_option maxRecDepth 20000 in
theorem ggX2_spreadOdds_X0_moved : GoodIn wsX2_spreadOdds wsX0_moved := goodIn_r _ [6, 7, 8, 9, 10, 11, 12, 13, 14, 15, 5, 16, 17, 18, 19] (by decide +kernel) (by decide +kernel)
set_option maxRecDepth 20000 in
theorem gX2_spreadOdds_X0_moved : GoodIn wsX2_spreadOdds (va_wsS RX2 277 yX0_moved wsX0_moved) := goodIn_app (goodIn_of _ (by decide +kernel)) ggX2_spreadOdds_X0_moved
set_option maxRecDepth 20000 in
theorem ggX2_spreadOdds_X2_addOdds : GoodIn wsX2_spreadOdds wsX2_addOdds := goodIn_r _ [24, 1, 25, 26, 27, 28, 29, 30, 31, 32, 33, 34, 35, 36, 37, 38] (by decide +kernel) (by decide +kernel)
set_option maxRecDepth 20000 in
theorem gX2_spreadOdds_X2_addOdds : GoodIn wsX2_spreadOdds (wsV RX2 290 RX2 yX2_addOdds wsX2_addOdds) := goodIn_app (goodIn_of _ (by decide +kernel)) ggX2_spreadOdds_X2_addOdds
theorem dX2_spreadOdds_0 : decode cX2_spreadOdds 0 = .ok (.iconst 0, 1) := by decide +kernel
theorem dX2_spreadOdds_1 : decode cX2_spreadOdds 1 = .ok (.istore_n 3, 1) := by decide +kernel
theorem dX2_spreadOdds_2 : decode cX2_spreadOdds 2 = .ok (.iload_n 3, 1) := by decide +kernel
theorem dX2_spreadOdds_3 : decode cX2_spreadOdds 3 = .ok (.aload_n 0, 1) := by decide +kernel
theorem dX2_spreadOdds_4 : decode cX2_spreadOdds 4 = .ok (.getfield 46, 3) := by decide +kernel
theorem dX2_spreadOdds_7 : decode cX2_spreadOdds 7 = .ok (.arraylength, 1) := by decide +kernel
theorem dX2_spreadOdds_8 : decode cX2_spreadOdds 8 = .ok (.if_icmp .ge 16, 3) := by decide +kernel
theorem dX2_spreadOdds_11 : decode cX2_spreadOdds 11 = .ok (.aload_n 0, 1) := by decide +kernel
theorem dX2_spreadOdds_12 : decode cX2_spreadOdds 12 = .ok (.getfield 46, 3) := by decide +kernel
theorem dX2_spreadOdds_15 : decode cX2_spreadOdds 15 = .ok (.iload_n 3, 1) := by decide +kernel
theorem dX2_spreadOdds_16 : decode cX2_spreadOdds 16 = .ok (.lconst 0, 1) := by decide +kernel
theorem dX2_spreadOdds_17 : decode cX2_spreadOdds 17 = .ok (.lastore, 1) := by decide +kernel
theorem dX2_spreadOdds_18 : decode cX2_spreadOdds 18 = .ok (.iinc 3 1, 3) := by decide +kernel
theorem dX2_spreadOdds_21 : decode cX2_spreadOdds 21 = .ok (.goto (-19), 3) := by decide +kernel
theorem dX2_spreadOdds_24 : decode cX2_spreadOdds 24 = .ok (.iconst 0, 1) := by decide +kernel
theorem dX2_spreadOdds_25 : decode cX2_spreadOdds 25 = .ok (.istore_n 3, 1) := by decide +kernel
theorem dX2_spreadOdds_26 : decode cX2_spreadOdds 26 = .ok (.iload_n 3, 1) := by decide +kernel
theorem dX2_spreadOdds_27 : decode cX2_spreadOdds 27 = .ok (.aload_n 0, 1) := by decide +kernel
theorem dX2_spreadOdds_28 : decode cX2_spreadOdds 28 = .ok (.getfield 42, 3) := by decide +kernel
theorem dX2_spreadOdds_31 : decode cX2_spreadOdds 31 = .ok (.arraylength, 1) := by decide +kernel
theorem dX2_spreadOdds_32 : decode cX2_spreadOdds 32 = .ok (.if_icmp .ge 47, 3) := by decide +kernel
theorem dX2_spreadOdds_35 : decode cX2_spreadOdds 35 = .ok (.aload_n 0, 1) := by decide +kernel
theorem dX2_spreadOdds_36 : decode cX2_spreadOdds 36 = .ok (.iload_n 3, 1) := by decide +kernel
theorem dX2_spreadOdds_37 : decode cX2_spreadOdds 37 = .ok (.iload_n 1, 1) := by decide +kernel
theorem dX2_spreadOdds_38 : decode cX2_spreadOdds 38 = .ok (.invokestatic 277, 3) := by decide +kernel
theorem dX2_spreadOdds_41 : decode cX2_spreadOdds 41 = .ok (.aload_n 0, 1) := by decide +kernel
theorem dX2_spreadOdds_42 : decode cX2_spreadOdds 42 = .ok (.getfield 42, 3) := by decide +kernel
theorem dX2_spreadOdds_45 : decode cX2_spreadOdds 45 = .ok (.iload_n 3, 1) := by decide +kernel
theorem dX2_spreadOdds_46 : decode cX2_spreadOdds 46 = .ok (.laload, 1) := by decide +kernel
theorem dX2_spreadOdds_47 : decode cX2_spreadOdds 47 = .ok (.iload_n 2, 1) := by decide +kernel
theorem dX2_spreadOdds_48 : decode cX2_spreadOdds 48 = .ok (.iconst 1, 1) := by decide +kernel
theorem dX2_spreadOdds_49 : decode cX2_spreadOdds 49 = .ok (.isub, 1) := by decide +kernel
theorem dX2_spreadOdds_50 : decode cX2_spreadOdds 50 = .ok (.i2l, 1) := by decide +kernel
theorem dX2_spreadOdds_51 : decode cX2_spreadOdds 51 = .ok (.lmul, 1) := by decide +kernel
theorem dX2_spreadOdds_52 : decode cX2_spreadOdds 52 = .ok (.invokevirtual 290, 3) := by decide +kernel
theorem dX2_spreadOdds_55 : decode cX2_spreadOdds 55 = .ok (.aload_n 0, 1) := by decide +kernel
theorem dX2_spreadOdds_56 : decode cX2_spreadOdds 56 = .ok (.iload_n 3, 1) := by decide +kernel
theorem dX2_spreadOdds_57 : decode cX2_spreadOdds 57 = .ok (.iload_n 1, 1) := by decide +kernel
theorem dX2_spreadOdds_58 : decode cX2_spreadOdds 58 = .ok (.bipush 8, 2) := by decide +kernel
theorem dX2_spreadOdds_60 : decode cX2_spreadOdds 60 = .ok (.isub, 1) := by decide +kernel
theorem dX2_spreadOdds_61 : decode cX2_spreadOdds 61 = .ok (.invokestatic 277, 3) := by decide +kernel
theorem dX2_spreadOdds_64 : decode cX2_spreadOdds 64 = .ok (.aload_n 0, 1) := by decide +kernel
theorem dX2_spreadOdds_65 : decode cX2_spreadOdds 65 = .ok (.getfield 42, 3) := by decide +kernel
theorem dX2_spreadOdds_68 : decode cX2_spreadOdds 68 = .ok (.iload_n 3, 1) := by decide +kernel
theorem dX2_spreadOdds_69 : decode cX2_spreadOdds 69 = .ok (.laload, 1) := by decide +kernel
theorem dX2_spreadOdds_70 : decode cX2_spreadOdds 70 = .ok (.invokevirtual 290, 3) := by decide +kernel
theorem dX2_spreadOdds_73 : decode cX2_spreadOdds 73 = .ok (.iinc 3 1, 3) := by decide +kernel
theorem dX2_spreadOdds_76 : decode cX2_spreadOdds 76 = .ok (.goto (-50), 3) := by decide +kernel
theorem dX2_spreadOdds_79 : decode cX2_spreadOdds 79 = .ok (.iconst 0, 1) := by decide +kernel
theorem dX2_spreadOdds_80 : decode cX2_spreadOdds 80 = .ok (.istore_n 3, 1) := by decide +kernel
theorem dX2_spreadOdds_81 : decode cX2_spreadOdds 81 = .ok (.iload_n 3, 1) := by decide +kernel
theorem dX2_spreadOdds_82 : decode cX2_spreadOdds 82 = .ok (.aload_n 0, 1) := by decide +kernel
theorem dX2_spreadOdds_83 : decode cX2_spreadOdds 83 = .ok (.getfield 42, 3) := by decide +kernel
theorem dX2_spreadOdds_86 : decode cX2_spreadOdds 86 = .ok (.arraylength, 1) := by decide +kernel
theorem dX2_spreadOdds_87 : decode cX2_spreadOdds 87 = .ok (.if_icmp .ge 30, 3) := by decide +kernel
theorem dX2_spreadOdds_90 : decode cX2_spreadOdds 90 = .ok (.iload_n 3, 1) := by decide +kernel
theorem dX2_spreadOdds_91 : decode cX2_spreadOdds 91 = .ok (.aload_n 0, 1) := by decide +kernel
theorem dX2_spreadOdds_92 : decode cX2_spreadOdds 92 = .ok (.getfield 46, 3) := by decide +kernel
theorem dX2_spreadOdds_95 : decode cX2_spreadOdds 95 = .ok (.arraylength, 1) := by decide +kernel
theorem dX2_spreadOdds_96 : decode cX2_spreadOdds 96 = .ok (.if_icmp .ge 21, 3) := by decide +kernel
theorem dX2_spreadOdds_99 : decode cX2_spreadOdds 99 = .ok (.aload_n 0, 1) := by decide +kernel
theorem dX2_spreadOdds_100 : decode cX2_spreadOdds 100 = .ok (.getfield 42, 3) := by decide +kernel
theorem dX2_spreadOdds_103 : decode cX2_spreadOdds 103 = .ok (.iload_n 3, 1) := by decide +kernel
theorem dX2_spreadOdds_104 : decode cX2_spreadOdds 104 = .ok (.aload_n 0, 1) := by decide +kernel
theorem dX2_spreadOdds_105 : decode cX2_spreadOdds 105 = .ok (.getfield 46, 3) := by decide +kernel
theorem dX2_spreadOdds_108 : decode cX2_spreadOdds 108 = .ok (.iload_n 3, 1) := by decide +kernel
theorem dX2_spreadOdds_109 : decode cX2_spreadOdds 109 = .ok (.laload, 1) := by decide +kernel
theorem dX2_spreadOdds_110 : decode cX2_spreadOdds 110 = .ok (.lastore, 1) := by decide +kernel
theorem dX2_spreadOdds_111 : decode cX2_spreadOdds 111 = .ok (.iinc 3 1, 3) := by decide +kernel
theorem dX2_spreadOdds_114 : decode cX2_spreadOdds 114 = .ok (.goto (-33), 3) := by decide +kernel
theorem dX2_spreadOdds_117 : decode cX2_spreadOdds 117 = .ok (.return_, 1) := by decide +kernel
theorem dX2_addOdds_0 : decode cX2_addOdds 0 = .ok (.iload_n 1, 1) := by decide +kernel
theorem dX2_addOdds_1 : decode cX2_addOdds 1 = .ok (.ifCond .lt 22, 3) := by decide +kernel
theorem dX2_addOdds_4 : decode cX2_addOdds 4 = .ok (.iload_n 1, 1) := by decide +kernel
theorem dX2_addOdds_5 : decode cX2_addOdds 5 = .ok (.aload_n 0, 1) := by decide +kernel
theorem dX2_addOdds_6 : decode cX2_addOdds 6 = .ok (.getfield 46, 3) := by decide +kernel
theorem dX2_addOdds_9 : decode cX2_addOdds 9 = .ok (.arraylength, 1) := by decide +kernel
theorem dX2_addOdds_10 : decode cX2_addOdds 10 = .ok (.if_icmp .ge 13, 3) := by decide +kernel
theorem dX2_addOdds_13 : decode cX2_addOdds 13 = .ok (.aload_n 0, 1) := by decide +kernel
theorem dX2_addOdds_14 : decode cX2_addOdds 14 = .ok (.getfield 46, 3) := by decide +kernel
theorem dX2_addOdds_17 : decode cX2_addOdds 17 = .ok (.iload_n 1, 1) := by decide +kernel
theorem dX2_addOdds_18 : decode cX2_addOdds 18 = .ok (.dup2, 1) := by decide +kernel
theorem dX2_addOdds_19 : decode cX2_addOdds 19 = .ok (.laload, 1) := by decide +kernel
theorem dX2_addOdds_20 : decode cX2_addOdds 20 = .ok (.lload_n 2, 1) := by decide +kernel
theorem dX2_addOdds_21 : decode cX2_addOdds 21 = .ok (.ladd, 1) := by decide +kernel
theorem dX2_addOdds_22 : decode cX2_addOdds 22 = .ok (.lastore, 1) := by decide +kernel
theorem dX2_addOdds_23 : decode cX2_addOdds 23 = .ok (.return_, 1) := by decide +kernel
set_option maxRecDepth 20000 in
theorem ggX2_partOf_X2_greatestDivisor : GoodIn wsX2_partOf wsX2_greatestDivisor := goodIn_r _ [4] (by decide +kernel) (by decide +kernel)
set_option maxRecDepth 20000 in
theorem gX2_partOf_X2_greatestDivisor : GoodIn wsX2_partOf (va_wsS RX2 294 yX2_greatestDivisor wsX2_greatestDivisor) := goodIn_app (goodIn_of _ (by decide +kernel)) ggX2_partOf_X2_greatestDivisor
theorem dX2_partOf_0 : decode cX2_partOf 0 = .ok (.lload_n 0, 1) := by decide +kernel
theorem dX2_partOf_1 : decode cX2_partOf 1 = .ok (.lconst 0, 1) := by decide +kernel
theorem dX2_partOf_2 : decode cX2_partOf 2 = .ok (.lcmp, 1) := by decide +kernel
theorem dX2_partOf_3 : decode cX2_partOf 3 = .ok (.ifCond .ne 7, 3) := by decide +kernel
theorem dX2_partOf_6 : decode cX2_partOf 6 = .ok (.iload 4, 2) := by decide +kernel
theorem dX2_partOf_8 : decode cX2_partOf 8 = .ok (.i2l, 1) := by decide +kernel
theorem dX2_partOf_9 : decode cX2_partOf 9 = .ok (.lreturn, 1) := by decide +kernel
theorem dX2_partOf_10 : decode cX2_partOf 10 = .ok (.lload_n 0, 1) := by decide +kernel
theorem dX2_partOf_11 : decode cX2_partOf 11 = .ok (.lload_n 2, 1) := by decide +kernel
theorem dX2_partOf_12 : decode cX2_partOf 12 = .ok (.invokestatic 294, 3) := by decide +kernel
theorem dX2_partOf_15 : decode cX2_partOf 15 = .ok (.lstore 5, 2) := by decide +kernel
theorem dX2_partOf_17 : decode cX2_partOf 17 = .ok (.lload 5, 2) := by decide +kernel
theorem dX2_partOf_19 : decode cX2_partOf 19 = .ok (.lconst 0, 1) := by decide +kernel
theorem dX2_partOf_20 : decode cX2_partOf 20 = .ok (.lcmp, 1) := by decide +kernel
theorem dX2_partOf_21 : decode cX2_partOf 21 = .ok (.ifCond .ne 7, 3) := by decide +kernel
theorem dX2_partOf_24 : decode cX2_partOf 24 = .ok (.iload 4, 2) := by decide +kernel
theorem dX2_partOf_26 : decode cX2_partOf 26 = .ok (.i2l, 1) := by decide +kernel
theorem dX2_partOf_27 : decode cX2_partOf 27 = .ok (.lreturn, 1) := by decide +kernel
theorem dX2_partOf_28 : decode cX2_partOf 28 = .ok (.iload 4, 2) := by decide +kernel
theorem dX2_partOf_30 : decode cX2_partOf 30 = .ok (.ifCond .ne 7, 3) := by decide +kernel
theorem dX2_partOf_33 : decode cX2_partOf 33 = .ok (.lload_n 0, 1) := by decide +kernel
theorem dX2_partOf_34 : decode cX2_partOf 34 = .ok (.goto 4, 3) := by decide +kernel
theorem dX2_partOf_37 : decode cX2_partOf 37 = .ok (.lload_n 2, 1) := by decide +kernel
theorem dX2_partOf_38 : decode cX2_partOf 38 = .ok (.lload 5, 2) := by decide +kernel
theorem dX2_partOf_40 : decode cX2_partOf 40 = .ok (.ldiv, 1) := by decide +kernel
theorem dX2_partOf_41 : decode cX2_partOf 41 = .ok (.lreturn, 1) := by decide +kernel
theorem dX2_greatestDivisor_0 : decode cX2_greatestDivisor 0 = .ok (.lload_n 0, 1) := by decide +kernel
theorem dX2_greatestDivisor_1 : decode cX2_greatestDivisor 1 = .ok (.lstore 4, 2) := by decide +kernel
theorem dX2_greatestDivisor_3 : decode cX2_greatestDivisor 3 = .ok (.lload_n 2, 1) := by decide +kernel
theorem dX2_greatestDivisor_4 : decode cX2_greatestDivisor 4 = .ok (.lstore 6, 2) := by decide +kernel
theorem dX2_greatestDivisor_6 : decode cX2_greatestDivisor 6 = .ok (.iconst 0, 1) := by decide +kernel
theorem dX2_greatestDivisor_7 : decode cX2_greatestDivisor 7 = .ok (.istore 8, 2) := by decide +kernel
theorem dX2_greatestDivisor_9 : decode cX2_greatestDivisor 9 = .ok (.iload 8, 2) := by decide +kernel
theorem dX2_greatestDivisor_11 : decode cX2_greatestDivisor 11 = .ok (.sipush 200, 3) := by decide +kernel
theorem dX2_greatestDivisor_14 : decode cX2_greatestDivisor 14 = .ok (.if_icmp .ge 31, 3) := by decide +kernel
theorem dX2_greatestDivisor_17 : decode cX2_greatestDivisor 17 = .ok (.lload 6, 2) := by decide +kernel
theorem dX2_greatestDivisor_19 : decode cX2_greatestDivisor 19 = .ok (.lconst 0, 1) := by decide +kernel
theorem dX2_greatestDivisor_20 : decode cX2_greatestDivisor 20 = .ok (.lcmp, 1) := by decide +kernel
theorem dX2_greatestDivisor_21 : decode cX2_greatestDivisor 21 = .ok (.ifCond .eq 24, 3) := by decide +kernel
theorem dX2_greatestDivisor_24 : decode cX2_greatestDivisor 24 = .ok (.lload 4, 2) := by decide +kernel
theorem dX2_greatestDivisor_26 : decode cX2_greatestDivisor 26 = .ok (.lload 6, 2) := by decide +kernel
theorem dX2_greatestDivisor_28 : decode cX2_greatestDivisor 28 = .ok (.lrem, 1) := by decide +kernel
theorem dX2_greatestDivisor_29 : decode cX2_greatestDivisor 29 = .ok (.lstore 9, 2) := by decide +kernel
theorem dX2_greatestDivisor_31 : decode cX2_greatestDivisor 31 = .ok (.lload 6, 2) := by decide +kernel
theorem dX2_greatestDivisor_33 : decode cX2_greatestDivisor 33 = .ok (.lstore 4, 2) := by decide +kernel
