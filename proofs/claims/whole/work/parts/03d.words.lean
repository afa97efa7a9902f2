theorem dX2_greatestDivisor_35 : decode cX2_greatestDivisor 35 = .ok (.lload 9, 2) := by decide +kernel
theorem dX2_greatestDivisor_37 : decode cX2_greatestDivisor 37 = .ok (.lstore 6, 2) := by decide +kernel
theorem dX2_greatestDivisor_39 : decode cX2_greatestDivisor 39 = .ok (.iinc 8 1, 3) := by decide +kernel
theorem dX2_greatestDivisor_42 : decode cX2_greatestDivisor 42 = .ok (.goto (-33), 3) := by decide +kernel
theorem dX2_greatestDivisor_45 : decode cX2_greatestDivisor 45 = .ok (.lload 4, 2) := by decide +kernel
theorem dX2_greatestDivisor_47 : decode cX2_greatestDivisor 47 = .ok (.lreturn, 1) := by decide +kernel
set_option maxRecDepth 20000 in
theorem ggX2_kindsByRow_X0_copy : GoodIn wsX2_kindsByRow wsX0_copy := goodIn_r _ [7, 8, 9, 10, 11, 12, 13, 14, 15, 16, 79, 80, 81, 82, 83, 84, 85, 86, 87] (by decide +kernel) (by decide +kernel)
set_option maxRecDepth 20000 in
theorem gX2_kindsByRow_X0_copy : GoodIn wsX2_kindsByRow (wsV RX2 78 RX0 yX0_copy wsX0_copy) := goodIn_app (goodIn_of _ (by decide +kernel)) ggX2_kindsByRow_X0_copy
set_option maxRecDepth 20000 in
theorem ggX2_kindsByRow_X0_figureOf : GoodIn wsX2_kindsByRow wsX0_figureOf := goodIn_r _ [20, 14, 21, 22, 23, 6, 24, 11, 79, 80, 81, 82, 83, 84, 85, 86, 87] (by decide +kernel) (by decide +kernel)
set_option maxRecDepth 20000 in
theorem gX2_kindsByRow_X0_figureOf : GoodIn wsX2_kindsByRow (wsV RX2 96 RX0 yX0_figureOf wsX0_figureOf) := goodIn_app (goodIn_of _ (by decide +kernel)) ggX2_kindsByRow_X0_figureOf
set_option maxRecDepth 20000 in
theorem ggX2_kindsByRow_X0_become : GoodIn wsX2_kindsByRow wsX0_become := goodIn_r _ [28, 13, 14, 21, 22, 23, 6, 24, 11, 79, 80, 81, 82, 83, 84, 85, 86, 87] (by decide +kernel) (by decide +kernel)
set_option maxRecDepth 20000 in
theorem gX2_kindsByRow_X0_become : GoodIn wsX2_kindsByRow (wsV RX2 162 RX0 yX0_become wsX0_become) := goodIn_app (goodIn_of _ (by decide +kernel)) ggX2_kindsByRow_X0_become
set_option maxRecDepth 20000 in
theorem ggX2_kindsByRow_X2_isAsRowTells : GoodIn wsX2_kindsByRow wsX2_isAsRowTells := goodIn_r _ [33, 1, 34, 35, 36, 37, 38, 39, 6, 40, 8, 41, 42, 43, 44, 12, 11, 15, 45, 46, 47, 48, 10, 14, 16, 49, 50, 51, 52, 13, 53, 54, 55, 21, 22, 23, 24, 56, 57, 58, 59, 60, 61, 62, 63, 64, 65, 66, 67, 68, 69, 70, 71, 72, 73, 74, 75, 76, 77, 78, 79, 80, 81, 82, 83, 84, 85, 86, 87] (by decide +kernel) (by decide +kernel)
set_option maxRecDepth 20000 in
theorem gX2_kindsByRow_X2_isAsRowTells : GoodIn wsX2_kindsByRow (wsV RX2 298 RX2 yX2_isAsRowTells wsX2_isAsRowTells) := goodIn_app (goodIn_of _ (by decide +kernel)) ggX2_kindsByRow_X2_isAsRowTells
theorem dX2_kindsByRow_0 : decode cX2_kindsByRow 0 = .ok (.iconst 0, 1) := by decide +kernel
theorem dX2_kindsByRow_1 : decode cX2_kindsByRow 1 = .ok (.istore_n 2, 1) := by decide +kernel
theorem dX2_kindsByRow_2 : decode cX2_kindsByRow 2 = .ok (.aload_n 0, 1) := by decide +kernel
theorem dX2_kindsByRow_3 : decode cX2_kindsByRow 3 = .ok (.getfield 16, 3) := by decide +kernel
theorem dX2_kindsByRow_6 : decode cX2_kindsByRow 6 = .ok (.aload_n 0, 1) := by decide +kernel
theorem dX2_kindsByRow_7 : decode cX2_kindsByRow 7 = .ok (.getfield 10, 3) := by decide +kernel
theorem dX2_kindsByRow_10 : decode cX2_kindsByRow 10 = .ok (.invokevirtual 78, 3) := by decide +kernel
theorem dX2_kindsByRow_13 : decode cX2_kindsByRow 13 = .ok (.iconst 0, 1) := by decide +kernel
theorem dX2_kindsByRow_14 : decode cX2_kindsByRow 14 = .ok (.istore_n 3, 1) := by decide +kernel
theorem dX2_kindsByRow_15 : decode cX2_kindsByRow 15 = .ok (.iload_n 3, 1) := by decide +kernel
theorem dX2_kindsByRow_16 : decode cX2_kindsByRow 16 = .ok (.bipush 6, 2) := by decide +kernel
theorem dX2_kindsByRow_18 : decode cX2_kindsByRow 18 = .ok (.if_icmp .ge 39, 3) := by decide +kernel
theorem dX2_kindsByRow_21 : decode cX2_kindsByRow 21 = .ok (.aload_n 0, 1) := by decide +kernel
theorem dX2_kindsByRow_22 : decode cX2_kindsByRow 22 = .ok (.getfield 16, 3) := by decide +kernel
theorem dX2_kindsByRow_25 : decode cX2_kindsByRow 25 = .ok (.iload_n 1, 1) := by decide +kernel
theorem dX2_kindsByRow_26 : decode cX2_kindsByRow 26 = .ok (.iload_n 3, 1) := by decide +kernel
theorem dX2_kindsByRow_27 : decode cX2_kindsByRow 27 = .ok (.aload_n 0, 1) := by decide +kernel
theorem dX2_kindsByRow_28 : decode cX2_kindsByRow 28 = .ok (.getfield 10, 3) := by decide +kernel
theorem dX2_kindsByRow_31 : decode cX2_kindsByRow 31 = .ok (.iload_n 1, 1) := by decide +kernel
theorem dX2_kindsByRow_32 : decode cX2_kindsByRow 32 = .ok (.invokevirtual 96, 3) := by decide +kernel
theorem dX2_kindsByRow_35 : decode cX2_kindsByRow 35 = .ok (.invokevirtual 162, 3) := by decide +kernel
theorem dX2_kindsByRow_38 : decode cX2_kindsByRow 38 = .ok (.aload_n 0, 1) := by decide +kernel
theorem dX2_kindsByRow_39 : decode cX2_kindsByRow 39 = .ok (.invokevirtual 298, 3) := by decide +kernel
theorem dX2_kindsByRow_42 : decode cX2_kindsByRow 42 = .ok (.ifCond .eq 9, 3) := by decide +kernel
theorem dX2_kindsByRow_45 : decode cX2_kindsByRow 45 = .ok (.iload_n 2, 1) := by decide +kernel
theorem dX2_kindsByRow_46 : decode cX2_kindsByRow 46 = .ok (.iconst 1, 1) := by decide +kernel
theorem dX2_kindsByRow_47 : decode cX2_kindsByRow 47 = .ok (.iload_n 3, 1) := by decide +kernel
theorem dX2_kindsByRow_48 : decode cX2_kindsByRow 48 = .ok (.ishl, 1) := by decide +kernel
theorem dX2_kindsByRow_49 : decode cX2_kindsByRow 49 = .ok (.ior, 1) := by decide +kernel
theorem dX2_kindsByRow_50 : decode cX2_kindsByRow 50 = .ok (.istore_n 2, 1) := by decide +kernel
theorem dX2_kindsByRow_51 : decode cX2_kindsByRow 51 = .ok (.iinc 3 1, 3) := by decide +kernel
theorem dX2_kindsByRow_54 : decode cX2_kindsByRow 54 = .ok (.goto (-39), 3) := by decide +kernel
theorem dX2_kindsByRow_57 : decode cX2_kindsByRow 57 = .ok (.iload_n 2, 1) := by decide +kernel
theorem dX2_kindsByRow_58 : decode cX2_kindsByRow 58 = .ok (.ireturn, 1) := by decide +kernel
set_option maxRecDepth 20000 in
theorem ggX2_figuresByRow_X0_copy : GoodIn wsX2_figuresByRow wsX0_copy := goodIn_r _ [7, 8, 9, 10, 11, 12, 13, 14, 15, 16, 79, 80, 81, 82, 83, 84, 85, 86, 87] (by decide +kernel) (by decide +kernel)
set_option maxRecDepth 20000 in
theorem gX2_figuresByRow_X0_copy : GoodIn wsX2_figuresByRow (wsV RX2 78 RX0 yX0_copy wsX0_copy) := goodIn_app (goodIn_of _ (by decide +kernel)) ggX2_figuresByRow_X0_copy
set_option maxRecDepth 20000 in
theorem ggX2_figuresByRow_X0_kindOf : GoodIn wsX2_figuresByRow wsX0_kindOf := goodIn_r _ [20, 13, 21, 22, 23, 6, 24, 11, 79, 80, 81, 82, 83, 84, 85, 86, 87] (by decide +kernel) (by decide +kernel)
set_option maxRecDepth 20000 in
theorem gX2_figuresByRow_X0_kindOf : GoodIn wsX2_figuresByRow (wsV RX2 93 RX0 yX0_kindOf wsX0_kindOf) := goodIn_app (goodIn_of _ (by decide +kernel)) ggX2_figuresByRow_X0_kindOf
set_option maxRecDepth 20000 in
theorem ggX2_figuresByRow_X0_become : GoodIn wsX2_figuresByRow wsX0_become := goodIn_r _ [28, 13, 14, 21, 22, 23, 6, 24, 11, 79, 80, 81, 82, 83, 84, 85, 86, 87] (by decide +kernel) (by decide +kernel)
set_option maxRecDepth 20000 in
theorem gX2_figuresByRow_X0_become : GoodIn wsX2_figuresByRow (wsV RX2 162 RX0 yX0_become wsX0_become) := goodIn_app (goodIn_of _ (by decide +kernel)) ggX2_figuresByRow_X0_become
set_option maxRecDepth 20000 in
theorem ggX2_figuresByRow_X2_isAsRowTells : GoodIn wsX2_figuresByRow wsX2_isAsRowTells := goodIn_r _ [33, 1, 34, 35, 36, 37, 38, 39, 6, 40, 8, 41, 42, 43, 44, 12, 11, 15, 45, 46, 47, 48, 10, 14, 16, 49, 50, 51, 52, 13, 53, 54, 55, 21, 22, 23, 24, 56, 57, 58, 59, 60, 61, 62, 63, 64, 65, 66, 67, 68, 69, 70, 71, 72, 73, 74, 75, 76, 77, 78, 79, 80, 81, 82, 83, 84, 85, 86, 87] (by decide +kernel) (by decide +kernel)
set_option maxRecDepth 20000 in
theorem gX2_figuresByRow_X2_isAsRowTells : GoodIn wsX2_figuresByRow (wsV RX2 298 RX2 yX2_isAsRowTells wsX2_isAsRowTells) := goodIn_app (goodIn_of _ (by decide +kernel)) ggX2_figuresByRow_X2_isAsRowTells
theorem dX2_figuresByRow_0 : decode cX2_figuresByRow 0 = .ok (.iconst 0, 1) := by decide +kernel
theorem dX2_figuresByRow_1 : decode cX2_figuresByRow 1 = .ok (.istore_n 2, 1) := by decide +kernel
theorem dX2_figuresByRow_2 : decode cX2_figuresByRow 2 = .ok (.aload_n 0, 1) := by decide +kernel
theorem dX2_figuresByRow_3 : decode cX2_figuresByRow 3 = .ok (.getfield 16, 3) := by decide +kernel
theorem dX2_figuresByRow_6 : decode cX2_figuresByRow 6 = .ok (.aload_n 0, 1) := by decide +kernel
theorem dX2_figuresByRow_7 : decode cX2_figuresByRow 7 = .ok (.getfield 10, 3) := by decide +kernel
theorem dX2_figuresByRow_10 : decode cX2_figuresByRow 10 = .ok (.invokevirtual 78, 3) := by decide +kernel
theorem dX2_figuresByRow_13 : decode cX2_figuresByRow 13 = .ok (.iconst 0, 1) := by decide +kernel
theorem dX2_figuresByRow_14 : decode cX2_figuresByRow 14 = .ok (.istore_n 3, 1) := by decide +kernel
theorem dX2_figuresByRow_15 : decode cX2_figuresByRow 15 = .ok (.iload_n 3, 1) := by decide +kernel
theorem dX2_figuresByRow_16 : decode cX2_figuresByRow 16 = .ok (.bipush 9, 2) := by decide +kernel
theorem dX2_figuresByRow_18 : decode cX2_figuresByRow 18 = .ok (.if_icmp .gt 39, 3) := by decide +kernel
theorem dX2_figuresByRow_21 : decode cX2_figuresByRow 21 = .ok (.aload_n 0, 1) := by decide +kernel
theorem dX2_figuresByRow_22 : decode cX2_figuresByRow 22 = .ok (.getfield 16, 3) := by decide +kernel
theorem dX2_figuresByRow_25 : decode cX2_figuresByRow 25 = .ok (.iload_n 1, 1) := by decide +kernel
theorem dX2_figuresByRow_26 : decode cX2_figuresByRow 26 = .ok (.aload_n 0, 1) := by decide +kernel
theorem dX2_figuresByRow_27 : decode cX2_figuresByRow 27 = .ok (.getfield 10, 3) := by decide +kernel
theorem dX2_figuresByRow_30 : decode cX2_figuresByRow 30 = .ok (.iload_n 1, 1) := by decide +kernel
theorem dX2_figuresByRow_31 : decode cX2_figuresByRow 31 = .ok (.invokevirtual 93, 3) := by decide +kernel
theorem dX2_figuresByRow_34 : decode cX2_figuresByRow 34 = .ok (.iload_n 3, 1) := by decide +kernel
theorem dX2_figuresByRow_35 : decode cX2_figuresByRow 35 = .ok (.invokevirtual 162, 3) := by decide +kernel
theorem dX2_figuresByRow_38 : decode cX2_figuresByRow 38 = .ok (.aload_n 0, 1) := by decide +kernel
theorem dX2_figuresByRow_39 : decode cX2_figuresByRow 39 = .ok (.invokevirtual 298, 3) := by decide +kernel
theorem dX2_figuresByRow_42 : decode cX2_figuresByRow 42 = .ok (.ifCond .eq 9, 3) := by decide +kernel
theorem dX2_figuresByRow_45 : decode cX2_figuresByRow 45 = .ok (.iload_n 2, 1) := by decide +kernel
theorem dX2_figuresByRow_46 : decode cX2_figuresByRow 46 = .ok (.iconst 1, 1) := by decide +kernel
theorem dX2_figuresByRow_47 : decode cX2_figuresByRow 47 = .ok (.iload_n 3, 1) := by decide +kernel
theorem dX2_figuresByRow_48 : decode cX2_figuresByRow 48 = .ok (.ishl, 1) := by decide +kernel
theorem dX2_figuresByRow_49 : decode cX2_figuresByRow 49 = .ok (.ior, 1) := by decide +kernel
theorem dX2_figuresByRow_50 : decode cX2_figuresByRow 50 = .ok (.istore_n 2, 1) := by decide +kernel
theorem dX2_figuresByRow_51 : decode cX2_figuresByRow 51 = .ok (.iinc 3 1, 3) := by decide +kernel
theorem dX2_figuresByRow_54 : decode cX2_figuresByRow 54 = .ok (.goto (-39), 3) := by decide +kernel
theorem dX2_figuresByRow_57 : decode cX2_figuresByRow 57 = .ok (.iload_n 2, 1) := by decide +kernel
theorem dX2_figuresByRow_58 : decode cX2_figuresByRow 58 = .ok (.ireturn, 1) := by decide +kernel
set_option maxRecDepth 20000 in
theorem ggX2_isAsRowTells_X0_foresee : GoodIn wsX2_isAsRowTells wsX0_foresee := goodIn_r _ [9, 10, 11, 12, 13, 8, 14, 15, 16, 17, 18, 19, 20, 21, 22, 23, 24, 25, 26, 27, 28, 29, 30, 31, 32, 33, 34, 35, 36, 37, 38, 39, 40, 41, 42, 43, 44, 45, 60, 61, 62, 63, 64, 65, 66, 67, 68] (by decide +kernel) (by decide +kernel)
set_option maxRecDepth 20000 in
theorem gX2_isAsRowTells_X0_foresee : GoodIn wsX2_isAsRowTells (wsV RX2 189 RX0 yX0_foresee wsX0_foresee) := goodIn_app (goodIn_of _ (by decide +kernel)) ggX2_isAsRowTells_X0_foresee
theorem dX2_isAsRowTells_0 : decode cX2_isAsRowTells 0 = .ok (.aload_n 0, 1) := by decide +kernel
theorem dX2_isAsRowTells_1 : decode cX2_isAsRowTells 1 = .ok (.getfield 16, 3) := by decide +kernel
theorem dX2_isAsRowTells_4 : decode cX2_isAsRowTells 4 = .ok (.aload_n 0, 1) := by decide +kernel
theorem dX2_isAsRowTells_5 : decode cX2_isAsRowTells 5 = .ok (.getfield 29, 3) := by decide +kernel
theorem dX2_isAsRowTells_8 : decode cX2_isAsRowTells 8 = .ok (.aload_n 0, 1) := by decide +kernel
theorem dX2_isAsRowTells_9 : decode cX2_isAsRowTells 9 = .ok (.getfield 55, 3) := by decide +kernel
theorem dX2_isAsRowTells_12 : decode cX2_isAsRowTells 12 = .ok (.iconst 1, 1) := by decide +kernel
theorem dX2_isAsRowTells_13 : decode cX2_isAsRowTells 13 = .ok (.isub, 1) := by decide +kernel
theorem dX2_isAsRowTells_14 : decode cX2_isAsRowTells 14 = .ok (.invokevirtual 189, 3) := by decide +kernel
theorem dX2_isAsRowTells_17 : decode cX2_isAsRowTells 17 = .ok (.iconst 0, 1) := by decide +kernel
theorem dX2_isAsRowTells_18 : decode cX2_isAsRowTells 18 = .ok (.istore_n 1, 1) := by decide +kernel
theorem dX2_isAsRowTells_19 : decode cX2_isAsRowTells 19 = .ok (.iload_n 1, 1) := by decide +kernel
theorem dX2_isAsRowTells_20 : decode cX2_isAsRowTells 20 = .ok (.aload_n 0, 1) := by decide +kernel
theorem dX2_isAsRowTells_21 : decode cX2_isAsRowTells 21 = .ok (.getfield 55, 3) := by decide +kernel
theorem dX2_isAsRowTells_24 : decode cX2_isAsRowTells 24 = .ok (.if_icmp .ge 44, 3) := by decide +kernel
theorem dX2_isAsRowTells_27 : decode cX2_isAsRowTells 27 = .ok (.iload_n 1, 1) := by decide +kernel
theorem dX2_isAsRowTells_28 : decode cX2_isAsRowTells 28 = .ok (.aload_n 0, 1) := by decide +kernel
theorem dX2_isAsRowTells_29 : decode cX2_isAsRowTells 29 = .ok (.getfield 49, 3) := by decide +kernel
theorem dX2_isAsRowTells_32 : decode cX2_isAsRowTells 32 = .ok (.arraylength, 1) := by decide +kernel
theorem dX2_isAsRowTells_33 : decode cX2_isAsRowTells 33 = .ok (.if_icmp .ge 35, 3) := by decide +kernel
theorem dX2_isAsRowTells_36 : decode cX2_isAsRowTells 36 = .ok (.iload_n 1, 1) := by decide +kernel
theorem dX2_isAsRowTells_37 : decode cX2_isAsRowTells 37 = .ok (.aload_n 0, 1) := by decide +kernel
theorem dX2_isAsRowTells_38 : decode cX2_isAsRowTells 38 = .ok (.getfield 29, 3) := by decide +kernel
theorem dX2_isAsRowTells_41 : decode cX2_isAsRowTells 41 = .ok (.arraylength, 1) := by decide +kernel
theorem dX2_isAsRowTells_42 : decode cX2_isAsRowTells 42 = .ok (.if_icmp .ge 26, 3) := by decide +kernel
theorem dX2_isAsRowTells_45 : decode cX2_isAsRowTells 45 = .ok (.aload_n 0, 1) := by decide +kernel
theorem dX2_isAsRowTells_46 : decode cX2_isAsRowTells 46 = .ok (.getfield 49, 3) := by decide +kernel
theorem dX2_isAsRowTells_49 : decode cX2_isAsRowTells 49 = .ok (.iload_n 1, 1) := by decide +kernel
theorem dX2_isAsRowTells_50 : decode cX2_isAsRowTells 50 = .ok (.iaload, 1) := by decide +kernel
theorem dX2_isAsRowTells_51 : decode cX2_isAsRowTells 51 = .ok (.aload_n 0, 1) := by decide +kernel
theorem dX2_isAsRowTells_52 : decode cX2_isAsRowTells 52 = .ok (.getfield 29, 3) := by decide +kernel
theorem dX2_isAsRowTells_55 : decode cX2_isAsRowTells 55 = .ok (.iload_n 1, 1) := by decide +kernel
theorem dX2_isAsRowTells_56 : decode cX2_isAsRowTells 56 = .ok (.iaload, 1) := by decide +kernel
theorem dX2_isAsRowTells_57 : decode cX2_isAsRowTells 57 = .ok (.if_icmp .eq 5, 3) := by decide +kernel
theorem dX2_isAsRowTells_60 : decode cX2_isAsRowTells 60 = .ok (.iconst 0, 1) := by decide +kernel
theorem dX2_isAsRowTells_61 : decode cX2_isAsRowTells 61 = .ok (.ireturn, 1) := by decide +kernel
theorem dX2_isAsRowTells_62 : decode cX2_isAsRowTells 62 = .ok (.iinc 1 1, 3) := by decide +kernel
theorem dX2_isAsRowTells_65 : decode cX2_isAsRowTells 65 = .ok (.goto (-46), 3) := by decide +kernel
theorem dX2_isAsRowTells_68 : decode cX2_isAsRowTells 68 = .ok (.iconst 1, 1) := by decide +kernel
theorem dX2_isAsRowTells_69 : decode cX2_isAsRowTells 69 = .ok (.ireturn, 1) := by decide +kernel
theorem dX2_nextSeed_0 : decode cX2_nextSeed 0 = .ok (.iload_n 0, 1) := by decide +kernel
theorem dX2_nextSeed_1 : decode cX2_nextSeed 1 = .ok (.ldc_w 301, 3) := by decide +kernel
theorem dX2_nextSeed_4 : decode cX2_nextSeed 4 = .ok (.imul, 1) := by decide +kernel
theorem dX2_nextSeed_5 : decode cX2_nextSeed 5 = .ok (.ldc_w 302, 3) := by decide +kernel
theorem dX2_nextSeed_8 : decode cX2_nextSeed 8 = .ok (.iadd, 1) := by decide +kernel
theorem dX2_nextSeed_9 : decode cX2_nextSeed 9 = .ok (.ireturn, 1) := by decide +kernel
theorem dX2_drawPlace_0 : decode cX2_drawPlace 0 = .ok (.iload_n 0, 1) := by decide +kernel
theorem dX2_drawPlace_1 : decode cX2_drawPlace 1 = .ok (.ldc_w 303, 3) := by decide +kernel
theorem dX2_drawPlace_4 : decode cX2_drawPlace 4 = .ok (.iand, 1) := by decide +kernel
theorem dX2_drawPlace_5 : decode cX2_drawPlace 5 = .ok (.sipush 256, 3) := by decide +kernel
theorem dX2_drawPlace_8 : decode cX2_drawPlace 8 = .ok (.idiv, 1) := by decide +kernel
theorem dX2_drawPlace_9 : decode cX2_drawPlace 9 = .ok (.iconst 3, 1) := by decide +kernel
theorem dX2_drawPlace_10 : decode cX2_drawPlace 10 = .ok (.irem, 1) := by decide +kernel
theorem dX2_drawPlace_11 : decode cX2_drawPlace 11 = .ok (.ireturn, 1) := by decide +kernel
theorem dX3_init_0 : decode cX3_init 0 = .ok (.aload_n 0, 1) := by decide +kernel
theorem dX3_init_1 : decode cX3_init 1 = .ok (.invokespecial 1, 3) := by decide +kernel
theorem dX3_init_4 : decode cX3_init 4 = .ok (.aload_n 0, 1) := by decide +kernel
theorem dX3_init_5 : decode cX3_init 5 = .ok (.bipush 38, 2) := by decide +kernel
theorem dX3_init_7 : decode cX3_init 7 = .ok (.newarray .int, 2) := by decide +kernel
theorem dX3_init_9 : decode cX3_init 9 = .ok (.putfield 9, 3) := by decide +kernel
theorem dX3_init_12 : decode cX3_init 12 = .ok (.aload_n 0, 1) := by decide +kernel
theorem dX3_init_13 : decode cX3_init 13 = .ok (.bipush 38, 2) := by decide +kernel
theorem dX3_init_15 : decode cX3_init 15 = .ok (.newarray .int, 2) := by decide +kernel
theorem dX3_init_17 : decode cX3_init 17 = .ok (.putfield 13, 3) := by decide +kernel
theorem dX3_init_20 : decode cX3_init 20 = .ok (.aload_n 0, 1) := by decide +kernel
theorem dX3_init_21 : decode cX3_init 21 = .ok (.bipush 38, 2) := by decide +kernel
theorem dX3_init_23 : decode cX3_init 23 = .ok (.newarray .int, 2) := by decide +kernel
theorem dX3_init_25 : decode cX3_init 25 = .ok (.putfield 16, 3) := by decide +kernel
theorem dX3_init_28 : decode cX3_init 28 = .ok (.aload_n 0, 1) := by decide +kernel
theorem dX3_init_29 : decode cX3_init 29 = .ok (.bipush 38, 2) := by decide +kernel
theorem dX3_init_31 : decode cX3_init 31 = .ok (.newarray .int, 2) := by decide +kernel
theorem dX3_init_33 : decode cX3_init 33 = .ok (.putfield 19, 3) := by decide +kernel
theorem dX3_init_36 : decode cX3_init 36 = .ok (.aload_n 0, 1) := by decide +kernel
theorem dX3_init_37 : decode cX3_init 37 = .ok (.bipush 96, 2) := by decide +kernel
theorem dX3_init_39 : decode cX3_init 39 = .ok (.newarray .int, 2) := by decide +kernel
theorem dX3_init_41 : decode cX3_init 41 = .ok (.putfield 22, 3) := by decide +kernel
theorem dX3_init_44 : decode cX3_init 44 = .ok (.aload_n 0, 1) := by decide +kernel
theorem dX3_init_45 : decode cX3_init 45 = .ok (.bipush 16, 2) := by decide +kernel
theorem dX3_init_47 : decode cX3_init 47 = .ok (.newarray .int, 2) := by decide +kernel
theorem dX3_init_49 : decode cX3_init 49 = .ok (.putfield 25, 3) := by decide +kernel
theorem dX3_init_52 : decode cX3_init 52 = .ok (.aload_n 0, 1) := by decide +kernel
theorem dX3_init_53 : decode cX3_init 53 = .ok (.bipush 7, 2) := by decide +kernel
theorem dX3_init_55 : decode cX3_init 55 = .ok (.newarray .int, 2) := by decide +kernel
theorem dX3_init_57 : decode cX3_init 57 = .ok (.putfield 28, 3) := by decide +kernel
theorem dX3_init_60 : decode cX3_init 60 = .ok (.aload_n 0, 1) := by decide +kernel
theorem dX3_init_61 : decode cX3_init 61 = .ok (.iconst 3, 1) := by decide +kernel
theorem dX3_init_62 : decode cX3_init 62 = .ok (.newarray .int, 2) := by decide +kernel
theorem dX3_init_64 : decode cX3_init 64 = .ok (.putfield 31, 3) := by decide +kernel
theorem dX3_init_67 : decode cX3_init 67 = .ok (.aload_n 0, 1) := by decide +kernel
theorem dX3_init_68 : decode cX3_init 68 = .ok (.getfield 9, 3) := by decide +kernel
theorem dX3_init_71 : decode cX3_init 71 = .ok (.iconst 2, 1) := by decide +kernel
theorem dX3_init_72 : decode cX3_init 72 = .ok (.bipush 10, 2) := by decide +kernel
theorem dX3_init_74 : decode cX3_init 74 = .ok (.iastore, 1) := by decide +kernel
theorem dX3_init_75 : decode cX3_init 75 = .ok (.aload_n 0, 1) := by decide +kernel
theorem dX3_init_76 : decode cX3_init 76 = .ok (.getfield 9, 3) := by decide +kernel
theorem dX3_init_79 : decode cX3_init 79 = .ok (.iconst 3, 1) := by decide +kernel
theorem dX3_init_80 : decode cX3_init 80 = .ok (.ldc 34, 2) := by decide +kernel
theorem dX3_init_82 : decode cX3_init 82 = .ok (.iastore, 1) := by decide +kernel
theorem dX3_init_83 : decode cX3_init 83 = .ok (.aload_n 0, 1) := by decide +kernel
theorem dX3_init_84 : decode cX3_init 84 = .ok (.getfield 9, 3) := by decide +kernel
theorem dX3_init_87 : decode cX3_init 87 = .ok (.iconst 4, 1) := by decide +kernel
theorem dX3_init_88 : decode cX3_init 88 = .ok (.bipush 10, 2) := by decide +kernel
theorem dX3_init_90 : decode cX3_init 90 = .ok (.iastore, 1) := by decide +kernel
theorem dX3_init_91 : decode cX3_init 91 = .ok (.aload_n 0, 1) := by decide +kernel
theorem dX3_init_92 : decode cX3_init 92 = .ok (.getfield 9, 3) := by decide +kernel
theorem dX3_init_95 : decode cX3_init 95 = .ok (.iconst 5, 1) := by decide +kernel
theorem dX3_init_96 : decode cX3_init 96 = .ok (.bipush 10, 2) := by decide +kernel
theorem dX3_init_98 : decode cX3_init 98 = .ok (.iastore, 1) := by decide +kernel
theorem dX3_init_99 : decode cX3_init 99 = .ok (.return_, 1) := by decide +kernel
theorem dX3_isIn_0 : decode cX3_isIn 0 = .ok (.iload_n 0, 1) := by decide +kernel
theorem dX3_isIn_1 : decode cX3_isIn 1 = .ok (.iload_n 1, 1) := by decide +kernel
theorem dX3_isIn_2 : decode cX3_isIn 2 = .ok (.if_icmp .lt 12, 3) := by decide +kernel
theorem dX3_isIn_5 : decode cX3_isIn 5 = .ok (.iload_n 0, 1) := by decide +kernel
theorem dX3_isIn_6 : decode cX3_isIn 6 = .ok (.iload_n 2, 1) := by decide +kernel
theorem dX3_isIn_7 : decode cX3_isIn 7 = .ok (.if_icmp .gt 7, 3) := by decide +kernel
theorem dX3_isIn_10 : decode cX3_isIn 10 = .ok (.iconst 1, 1) := by decide +kernel
theorem dX3_isIn_11 : decode cX3_isIn 11 = .ok (.goto 4, 3) := by decide +kernel
theorem dX3_isIn_14 : decode cX3_isIn 14 = .ok (.iconst 0, 1) := by decide +kernel
theorem dX3_isIn_15 : decode cX3_isIn 15 = .ok (.ireturn, 1) := by decide +kernel
theorem dX3_least_0 : decode cX3_least 0 = .ok (.iload_n 0, 1) := by decide +kernel
theorem dX3_least_1 : decode cX3_least 1 = .ok (.iload_n 1, 1) := by decide +kernel
theorem dX3_least_2 : decode cX3_least 2 = .ok (.if_icmp .ge 7, 3) := by decide +kernel
theorem dX3_least_5 : decode cX3_least 5 = .ok (.iload_n 0, 1) := by decide +kernel
theorem dX3_least_6 : decode cX3_least 6 = .ok (.goto 4, 3) := by decide +kernel
theorem dX3_least_9 : decode cX3_least 9 = .ok (.iload_n 1, 1) := by decide +kernel
theorem dX3_least_10 : decode cX3_least 10 = .ok (.ireturn, 1) := by decide +kernel
theorem dX3_sized_0 : decode cX3_sized 0 = .ok (.iload_n 0, 1) := by decide +kernel
theorem dX3_sized_1 : decode cX3_sized 1 = .ok (.ifCond .ge 8, 3) := by decide +kernel
theorem dX3_sized_4 : decode cX3_sized 4 = .ok (.iload_n 0, 1) := by decide +kernel
theorem dX3_sized_5 : decode cX3_sized 5 = .ok (.ineg, 1) := by decide +kernel
theorem dX3_sized_6 : decode cX3_sized 6 = .ok (.goto 4, 3) := by decide +kernel
theorem dX3_sized_9 : decode cX3_sized 9 = .ok (.iload_n 0, 1) := by decide +kernel
theorem dX3_sized_10 : decode cX3_sized 10 = .ok (.ireturn, 1) := by decide +kernel
theorem dX3_copies_0 : decode cX3_copies 0 = .ok (.iconst 0, 1) := by decide +kernel
theorem dX3_copies_1 : decode cX3_copies 1 = .ok (.istore_n 2, 1) := by decide +kernel
theorem dX3_copies_2 : decode cX3_copies 2 = .ok (.iload_n 2, 1) := by decide +kernel
theorem dX3_copies_3 : decode cX3_copies 3 = .ok (.bipush 38, 2) := by decide +kernel
theorem dX3_copies_5 : decode cX3_copies 5 = .ok (.if_icmp .ge 15, 3) := by decide +kernel
theorem dX3_copies_8 : decode cX3_copies 8 = .ok (.aload_n 1, 1) := by decide +kernel
theorem dX3_copies_9 : decode cX3_copies 9 = .ok (.iload_n 2, 1) := by decide +kernel
theorem dX3_copies_10 : decode cX3_copies 10 = .ok (.aload_n 0, 1) := by decide +kernel
theorem dX3_copies_11 : decode cX3_copies 11 = .ok (.iload_n 2, 1) := by decide +kernel
theorem dX3_copies_12 : decode cX3_copies 12 = .ok (.iaload, 1) := by decide +kernel
theorem dX3_copies_13 : decode cX3_copies 13 = .ok (.iastore, 1) := by decide +kernel
theorem dX3_copies_14 : decode cX3_copies 14 = .ok (.iinc 2 1, 3) := by decide +kernel
theorem dX3_copies_17 : decode cX3_copies 17 = .ok (.goto (-15), 3) := by decide +kernel
theorem dX3_copies_20 : decode cX3_copies 20 = .ok (.return_, 1) := by decide +kernel
theorem dX3_no_0 : decode cX3_no 0 = .ok (.aload_n 0, 1) := by decide +kernel
theorem dX3_no_1 : decode cX3_no 1 = .ok (.getfield 28, 3) := by decide +kernel
theorem dX3_no_4 : decode cX3_no 4 = .ok (.iload_n 1, 1) := by decide +kernel
theorem dX3_no_5 : decode cX3_no 5 = .ok (.ineg, 1) := by decide +kernel
theorem dX3_no_6 : decode cX3_no 6 = .ok (.dup2, 1) := by decide +kernel
theorem dX3_no_7 : decode cX3_no 7 = .ok (.iaload, 1) := by decide +kernel
theorem dX3_no_8 : decode cX3_no 8 = .ok (.iconst 1, 1) := by decide +kernel
theorem dX3_no_9 : decode cX3_no 9 = .ok (.iadd, 1) := by decide +kernel
theorem dX3_no_10 : decode cX3_no 10 = .ok (.iastore, 1) := by decide +kernel
theorem dX3_no_11 : decode cX3_no 11 = .ok (.iload_n 1, 1) := by decide +kernel
theorem dX3_no_12 : decode cX3_no 12 = .ok (.ireturn, 1) := by decide +kernel
set_option maxRecDepth 20000 in
theorem ggX3_noFar_X3_no : GoodIn wsX3_noFar wsX3_no := goodIn_r _ [6, 7, 8, 9, 10, 11, 12, 13, 14, 15, 16, 17, 18, 19, 20] (by decide +kernel) (by decide +kernel)
set_option maxRecDepth 20000 in
theorem gX3_noFar_X3_no : GoodIn wsX3_noFar (wsV RX3 36 RX3 yX3_no wsX3_no) := goodIn_app (goodIn_of _ (by decide +kernel)) ggX3_noFar_X3_no
theorem dX3_noFar_0 : decode cX3_noFar 0 = .ok (.ldc 35, 2) := by decide +kernel
theorem dX3_noFar_2 : decode cX3_noFar 2 = .ok (.aload_n 0, 1) := by decide +kernel
theorem dX3_noFar_3 : decode cX3_noFar 3 = .ok (.iload_n 1, 1) := by decide +kernel
theorem dX3_noFar_4 : decode cX3_noFar 4 = .ok (.invokevirtual 36, 3) := by decide +kernel
theorem dX3_noFar_7 : decode cX3_noFar 7 = .ok (.isub, 1) := by decide +kernel
theorem dX3_noFar_8 : decode cX3_noFar 8 = .ok (.ireturn, 1) := by decide +kernel
set_option maxRecDepth 20000 in
theorem ggX3_noWide_X3_no : GoodIn wsX3_noWide wsX3_no := goodIn_r _ [6, 7, 8, 9, 10, 11, 12, 13, 14, 15, 16, 17, 18, 19, 20] (by decide +kernel) (by decide +kernel)
set_option maxRecDepth 20000 in
theorem gX3_noWide_X3_no : GoodIn wsX3_noWide (wsV RX3 36 RX3 yX3_no wsX3_no) := goodIn_app (goodIn_of _ (by decide +kernel)) ggX3_noWide_X3_no
theorem dX3_noWide_0 : decode cX3_noWide 0 = .ok (.ldc2_w 40, 3) := by decide +kernel
theorem dX3_noWide_3 : decode cX3_noWide 3 = .ok (.aload_n 0, 1) := by decide +kernel
theorem dX3_noWide_4 : decode cX3_noWide 4 = .ok (.iload_n 1, 1) := by decide +kernel
theorem dX3_noWide_5 : decode cX3_noWide 5 = .ok (.invokevirtual 36, 3) := by decide +kernel
theorem dX3_noWide_8 : decode cX3_noWide 8 = .ok (.i2l, 1) := by decide +kernel
theorem dX3_noWide_9 : decode cX3_noWide 9 = .ok (.lsub, 1) := by decide +kernel
theorem dX3_noWide_10 : decode cX3_noWide 10 = .ok (.lreturn, 1) := by decide +kernel
theorem dX3_of_0 : decode cX3_of 0 = .ok (.bipush 6, 2) := by decide +kernel
theorem dX3_of_2 : decode cX3_of 2 = .ok (.iconst 4, 1) := by decide +kernel
theorem dX3_of_3 : decode cX3_of 3 = .ok (.iload_n 0, 1) := by decide +kernel
theorem dX3_of_4 : decode cX3_of 4 = .ok (.imul, 1) := by decide +kernel
theorem dX3_of_5 : decode cX3_of 5 = .ok (.iadd, 1) := by decide +kernel
theorem dX3_of_6 : decode cX3_of 6 = .ok (.iload_n 1, 1) := by decide +kernel
theorem dX3_of_7 : decode cX3_of 7 = .ok (.iadd, 1) := by decide +kernel
theorem dX3_of_8 : decode cX3_of 8 = .ok (.ireturn, 1) := by decide +kernel
set_option maxRecDepth 20000 in
theorem ggX3_isThing_X3_isIn : GoodIn wsX3_isThing wsX3_isIn := goodIn_r _ [5] (by decide +kernel) (by decide +kernel)
set_option maxRecDepth 20000 in
theorem gX3_isThing_X3_isIn : GoodIn wsX3_isThing (va_wsS RX3 42 yX3_isIn wsX3_isIn) := goodIn_app (goodIn_of _ (by decide +kernel)) ggX3_isThing_X3_isIn
theorem dX3_isThing_0 : decode cX3_isThing 0 = .ok (.iload_n 1, 1) := by decide +kernel
theorem dX3_isThing_1 : decode cX3_isThing 1 = .ok (.iconst 0, 1) := by decide +kernel
theorem dX3_isThing_2 : decode cX3_isThing 2 = .ok (.aload_n 0, 1) := by decide +kernel
theorem dX3_isThing_3 : decode cX3_isThing 3 = .ok (.getfield 9, 3) := by decide +kernel
theorem dX3_isThing_6 : decode cX3_isThing 6 = .ok (.iconst 0, 1) := by decide +kernel
theorem dX3_isThing_7 : decode cX3_isThing 7 = .ok (.iaload, 1) := by decide +kernel
theorem dX3_isThing_8 : decode cX3_isThing 8 = .ok (.iconst 1, 1) := by decide +kernel
theorem dX3_isThing_9 : decode cX3_isThing 9 = .ok (.isub, 1) := by decide +kernel
theorem dX3_isThing_10 : decode cX3_isThing 10 = .ok (.invokestatic 42, 3) := by decide +kernel
theorem dX3_isThing_13 : decode cX3_isThing 13 = .ok (.ireturn, 1) := by decide +kernel
set_option maxRecDepth 20000 in
theorem ggX3_isSide_X3_isIn : GoodIn wsX3_isSide wsX3_isIn := goodIn_r _ [4] (by decide +kernel) (by decide +kernel)
set_option maxRecDepth 20000 in
theorem gX3_isSide_X3_isIn : GoodIn wsX3_isSide (va_wsS RX3 42 yX3_isIn wsX3_isIn) := goodIn_app (goodIn_of _ (by decide +kernel)) ggX3_isSide_X3_isIn
theorem dX3_isSide_0 : decode cX3_isSide 0 = .ok (.iload_n 0, 1) := by decide +kernel
theorem dX3_isSide_1 : decode cX3_isSide 1 = .ok (.iconst 0, 1) := by decide +kernel
theorem dX3_isSide_2 : decode cX3_isSide 2 = .ok (.iconst 1, 1) := by decide +kernel
theorem dX3_isSide_3 : decode cX3_isSide 3 = .ok (.invokestatic 42, 3) := by decide +kernel
theorem dX3_isSide_6 : decode cX3_isSide 6 = .ok (.ireturn, 1) := by decide +kernel
set_option maxRecDepth 20000 in
theorem ggX3_isFloor_X3_isIn : GoodIn wsX3_isFloor wsX3_isIn := goodIn_r _ [4] (by decide +kernel) (by decide +kernel)
set_option maxRecDepth 20000 in
theorem gX3_isFloor_X3_isIn : GoodIn wsX3_isFloor (va_wsS RX3 42 yX3_isIn wsX3_isIn) := goodIn_app (goodIn_of _ (by decide +kernel)) ggX3_isFloor_X3_isIn
theorem dX3_isFloor_0 : decode cX3_isFloor 0 = .ok (.iload_n 0, 1) := by decide +kernel
theorem dX3_isFloor_1 : decode cX3_isFloor 1 = .ok (.iconst 0, 1) := by decide +kernel
theorem dX3_isFloor_2 : decode cX3_isFloor 2 = .ok (.bipush 20, 2) := by decide +kernel
theorem dX3_isFloor_4 : decode cX3_isFloor 4 = .ok (.invokestatic 42, 3) := by decide +kernel
theorem dX3_isFloor_7 : decode cX3_isFloor 7 = .ok (.ireturn, 1) := by decide +kernel
theorem dX3_has_0 : decode cX3_has 0 = .ok (.iload_n 0, 1) := by decide +kernel
theorem dX3_has_1 : decode cX3_has 1 = .ok (.iload_n 1, 1) := by decide +kernel
theorem dX3_has_2 : decode cX3_has 2 = .ok (.ishr, 1) := by decide +kernel
theorem dX3_has_3 : decode cX3_has 3 = .ok (.iconst 1, 1) := by decide +kernel
theorem dX3_has_4 : decode cX3_has 4 = .ok (.iand, 1) := by decide +kernel
theorem dX3_has_5 : decode cX3_has 5 = .ok (.iconst 1, 1) := by decide +kernel
theorem dX3_has_6 : decode cX3_has 6 = .ok (.if_icmp .ne 7, 3) := by decide +kernel
theorem dX3_has_9 : decode cX3_has 9 = .ok (.iconst 1, 1) := by decide +kernel
theorem dX3_has_10 : decode cX3_has 10 = .ok (.goto 4, 3) := by decide +kernel
theorem dX3_has_13 : decode cX3_has 13 = .ok (.iconst 0, 1) := by decide +kernel
theorem dX3_has_14 : decode cX3_has 14 = .ok (.ireturn, 1) := by decide +kernel
theorem dX3_bits_0 : decode cX3_bits 0 = .ok (.iconst 0, 1) := by decide +kernel
theorem dX3_bits_1 : decode cX3_bits 1 = .ok (.istore_n 1, 1) := by decide +kernel
theorem dX3_bits_2 : decode cX3_bits 2 = .ok (.iconst 0, 1) := by decide +kernel
theorem dX3_bits_3 : decode cX3_bits 3 = .ok (.istore_n 2, 1) := by decide +kernel
theorem dX3_bits_4 : decode cX3_bits 4 = .ok (.iload_n 2, 1) := by decide +kernel
theorem dX3_bits_5 : decode cX3_bits 5 = .ok (.bipush 20, 2) := by decide +kernel
theorem dX3_bits_7 : decode cX3_bits 7 = .ok (.if_icmp .gt 17, 3) := by decide +kernel
theorem dX3_bits_10 : decode cX3_bits 10 = .ok (.iload_n 1, 1) := by decide +kernel
theorem dX3_bits_11 : decode cX3_bits 11 = .ok (.iload_n 0, 1) := by decide +kernel
theorem dX3_bits_12 : decode cX3_bits 12 = .ok (.iload_n 2, 1) := by decide +kernel
theorem dX3_bits_13 : decode cX3_bits 13 = .ok (.ishr, 1) := by decide +kernel
theorem dX3_bits_14 : decode cX3_bits 14 = .ok (.iconst 1, 1) := by decide +kernel
theorem dX3_bits_15 : decode cX3_bits 15 = .ok (.iand, 1) := by decide +kernel
theorem dX3_bits_16 : decode cX3_bits 16 = .ok (.iadd, 1) := by decide +kernel
theorem dX3_bits_17 : decode cX3_bits 17 = .ok (.istore_n 1, 1) := by decide +kernel
theorem dX3_bits_18 : decode cX3_bits 18 = .ok (.iinc 2 1, 3) := by decide +kernel
theorem dX3_bits_21 : decode cX3_bits 21 = .ok (.goto (-17), 3) := by decide +kernel
theorem dX3_bits_24 : decode cX3_bits 24 = .ok (.iload_n 1, 1) := by decide +kernel
theorem dX3_bits_25 : decode cX3_bits 25 = .ok (.ireturn, 1) := by decide +kernel
set_option maxRecDepth 20000 in
theorem ggX3_weighsBy_X3_least : GoodIn wsX3_weighsBy wsX3_least := goodIn_r _ [4] (by decide +kernel) (by decide +kernel)
set_option maxRecDepth 20000 in
theorem gX3_weighsBy_X3_least : GoodIn wsX3_weighsBy (va_wsS RX3 46 yX3_least wsX3_least) := goodIn_app (goodIn_of _ (by decide +kernel)) ggX3_weighsBy_X3_least
theorem dX3_weighsBy_0 : decode cX3_weighsBy 0 = .ok (.iload_n 1, 1) := by decide +kernel
theorem dX3_weighsBy_1 : decode cX3_weighsBy 1 = .ok (.iconst 1, 1) := by decide +kernel
theorem dX3_weighsBy_2 : decode cX3_weighsBy 2 = .ok (.iadd, 1) := by decide +kernel
theorem dX3_weighsBy_3 : decode cX3_weighsBy 3 = .ok (.istore 4, 2) := by decide +kernel
theorem dX3_weighsBy_5 : decode cX3_weighsBy 5 = .ok (.iload 4, 2) := by decide +kernel
theorem dX3_weighsBy_7 : decode cX3_weighsBy 7 = .ok (.bipush 20, 2) := by decide +kernel
theorem dX3_weighsBy_9 : decode cX3_weighsBy 9 = .ok (.iload_n 2, 1) := by decide +kernel
theorem dX3_weighsBy_10 : decode cX3_weighsBy 10 = .ok (.iconst 2, 1) := by decide +kernel
theorem dX3_weighsBy_11 : decode cX3_weighsBy 11 = .ok (.idiv, 1) := by decide +kernel
theorem dX3_weighsBy_12 : decode cX3_weighsBy 12 = .ok (.invokestatic 46, 3) := by decide +kernel
theorem dX3_weighsBy_15 : decode cX3_weighsBy 15 = .ok (.iadd, 1) := by decide +kernel
theorem dX3_weighsBy_16 : decode cX3_weighsBy 16 = .ok (.istore 5, 2) := by decide +kernel
theorem dX3_weighsBy_18 : decode cX3_weighsBy 18 = .ok (.iload_n 0, 1) := by decide +kernel
theorem dX3_weighsBy_19 : decode cX3_weighsBy 19 = .ok (.tableswitch 83 1 5 #[33, 38, 41, 59, 66], 33) := by decide +kernel
theorem dX3_weighsBy_52 : decode cX3_weighsBy 52 = .ok (.iconst 2, 1) := by decide +kernel
theorem dX3_weighsBy_53 : decode cX3_weighsBy 53 = .ok (.iload 4, 2) := by decide +kernel
theorem dX3_weighsBy_55 : decode cX3_weighsBy 55 = .ok (.imul, 1) := by decide +kernel
theorem dX3_weighsBy_56 : decode cX3_weighsBy 56 = .ok (.ireturn, 1) := by decide +kernel
theorem dX3_weighsBy_57 : decode cX3_weighsBy 57 = .ok (.iload 5, 2) := by decide +kernel
theorem dX3_weighsBy_59 : decode cX3_weighsBy 59 = .ok (.ireturn, 1) := by decide +kernel
theorem dX3_weighsBy_60 : decode cX3_weighsBy 60 = .ok (.iload_n 3, 1) := by decide +kernel
theorem dX3_weighsBy_61 : decode cX3_weighsBy 61 = .ok (.bipush 10, 2) := by decide +kernel
theorem dX3_weighsBy_63 : decode cX3_weighsBy 63 = .ok (.irem, 1) := by decide +kernel
theorem dX3_weighsBy_64 : decode cX3_weighsBy 64 = .ok (.iconst 5, 1) := by decide +kernel
theorem dX3_weighsBy_65 : decode cX3_weighsBy 65 = .ok (.if_icmp .ge 8, 3) := by decide +kernel
theorem dX3_weighsBy_68 : decode cX3_weighsBy 68 = .ok (.iload 4, 2) := by decide +kernel
theorem dX3_weighsBy_70 : decode cX3_weighsBy 70 = .ok (.goto 7, 3) := by decide +kernel
theorem dX3_weighsBy_73 : decode cX3_weighsBy 73 = .ok (.iconst 3, 1) := by decide +kernel
theorem dX3_weighsBy_74 : decode cX3_weighsBy 74 = .ok (.iload 4, 2) := by decide +kernel
theorem dX3_weighsBy_76 : decode cX3_weighsBy 76 = .ok (.imul, 1) := by decide +kernel
theorem dX3_weighsBy_77 : decode cX3_weighsBy 77 = .ok (.ireturn, 1) := by decide +kernel
theorem dX3_weighsBy_78 : decode cX3_weighsBy 78 = .ok (.iconst 2, 1) := by decide +kernel
theorem dX3_weighsBy_79 : decode cX3_weighsBy 79 = .ok (.iload 4, 2) := by decide +kernel
theorem dX3_weighsBy_81 : decode cX3_weighsBy 81 = .ok (.imul, 1) := by decide +kernel
theorem dX3_weighsBy_82 : decode cX3_weighsBy 82 = .ok (.iconst 3, 1) := by decide +kernel
theorem dX3_weighsBy_83 : decode cX3_weighsBy 83 = .ok (.iadd, 1) := by decide +kernel
theorem dX3_weighsBy_84 : decode cX3_weighsBy 84 = .ok (.ireturn, 1) := by decide +kernel
theorem dX3_weighsBy_85 : decode cX3_weighsBy 85 = .ok (.iload 5, 2) := by decide +kernel
theorem dX3_weighsBy_87 : decode cX3_weighsBy 87 = .ok (.bipush 30, 2) := by decide +kernel
theorem dX3_weighsBy_89 : decode cX3_weighsBy 89 = .ok (.if_icmp .le 7, 3) := by decide +kernel
theorem dX3_weighsBy_92 : decode cX3_weighsBy 92 = .ok (.iconst 0, 1) := by decide +kernel
theorem dX3_weighsBy_93 : decode cX3_weighsBy 93 = .ok (.goto 8, 3) := by decide +kernel
theorem dX3_weighsBy_96 : decode cX3_weighsBy 96 = .ok (.bipush 30, 2) := by decide +kernel
theorem dX3_weighsBy_98 : decode cX3_weighsBy 98 = .ok (.iload 5, 2) := by decide +kernel
theorem dX3_weighsBy_100 : decode cX3_weighsBy 100 = .ok (.isub, 1) := by decide +kernel
theorem dX3_weighsBy_101 : decode cX3_weighsBy 101 = .ok (.ireturn, 1) := by decide +kernel
theorem dX3_weighsBy_102 : decode cX3_weighsBy 102 = .ok (.iload 4, 2) := by decide +kernel
theorem dX3_weighsBy_104 : decode cX3_weighsBy 104 = .ok (.ireturn, 1) := by decide +kernel
set_option maxRecDepth 20000 in
theorem ggX3_weighsOn_X3_of : GoodIn wsX3_weighsOn wsX3_of := goodIn_r _ [4] (by decide +kernel) (by decide +kernel)
set_option maxRecDepth 20000 in
theorem gX3_weighsOn_X3_of : GoodIn wsX3_weighsOn (va_wsS RX3 50 yX3_of wsX3_of) := goodIn_app (goodIn_of _ (by decide +kernel)) ggX3_weighsOn_X3_of
set_option maxRecDepth 20000 in
theorem ggX3_weighsOn_X3_weighsBy : GoodIn wsX3_weighsOn wsX3_weighsBy := goodIn_r _ [7, 8, 9, 3, 10] (by decide +kernel) (by decide +kernel)
set_option maxRecDepth 20000 in
theorem gX3_weighsOn_X3_weighsBy : GoodIn wsX3_weighsOn (va_wsS RX3 53 yX3_weighsBy wsX3_weighsBy) := goodIn_app (goodIn_of _ (by decide +kernel)) ggX3_weighsOn_X3_weighsBy
theorem dX3_weighsOn_0 : decode cX3_weighsOn 0 = .ok (.aload_n 0, 1) := by decide +kernel
theorem dX3_weighsOn_1 : decode cX3_weighsOn 1 = .ok (.iload_n 1, 1) := by decide +kernel
theorem dX3_weighsOn_2 : decode cX3_weighsOn 2 = .ok (.iconst 0, 1) := by decide +kernel
theorem dX3_weighsOn_3 : decode cX3_weighsOn 3 = .ok (.invokestatic 50, 3) := by decide +kernel
theorem dX3_weighsOn_6 : decode cX3_weighsOn 6 = .ok (.iaload, 1) := by decide +kernel
theorem dX3_weighsOn_7 : decode cX3_weighsOn 7 = .ok (.aload_n 0, 1) := by decide +kernel
theorem dX3_weighsOn_8 : decode cX3_weighsOn 8 = .ok (.iload_n 1, 1) := by decide +kernel
theorem dX3_weighsOn_9 : decode cX3_weighsOn 9 = .ok (.iconst 1, 1) := by decide +kernel
theorem dX3_weighsOn_10 : decode cX3_weighsOn 10 = .ok (.invokestatic 50, 3) := by decide +kernel
theorem dX3_weighsOn_13 : decode cX3_weighsOn 13 = .ok (.iaload, 1) := by decide +kernel
theorem dX3_weighsOn_14 : decode cX3_weighsOn 14 = .ok (.iload_n 2, 1) := by decide +kernel
theorem dX3_weighsOn_15 : decode cX3_weighsOn 15 = .ok (.aload_n 0, 1) := by decide +kernel
theorem dX3_weighsOn_16 : decode cX3_weighsOn 16 = .ok (.iload_n 1, 1) := by decide +kernel
theorem dX3_weighsOn_17 : decode cX3_weighsOn 17 = .ok (.iconst 3, 1) := by decide +kernel
theorem dX3_weighsOn_18 : decode cX3_weighsOn 18 = .ok (.invokestatic 50, 3) := by decide +kernel
theorem dX3_weighsOn_21 : decode cX3_weighsOn 21 = .ok (.iaload, 1) := by decide +kernel
theorem dX3_weighsOn_22 : decode cX3_weighsOn 22 = .ok (.isub, 1) := by decide +kernel
theorem dX3_weighsOn_23 : decode cX3_weighsOn 23 = .ok (.iload_n 2, 1) := by decide +kernel
theorem dX3_weighsOn_24 : decode cX3_weighsOn 24 = .ok (.invokestatic 53, 3) := by decide +kernel
theorem dX3_weighsOn_27 : decode cX3_weighsOn 27 = .ok (.ireturn, 1) := by decide +kernel
set_option maxRecDepth 20000 in
theorem ggX3_weighs_X3_weighsOn : GoodIn wsX3_weighs wsX3_weighsOn := goodIn_r _ [4, 5, 6, 3, 7, 8, 9, 10, 11, 12, 13] (by decide +kernel) (by decide +kernel)
set_option maxRecDepth 20000 in
theorem gX3_weighs_X3_weighsOn : GoodIn wsX3_weighs (va_wsS RX3 57 yX3_weighsOn wsX3_weighsOn) := goodIn_app (goodIn_of _ (by decide +kernel)) ggX3_weighs_X3_weighsOn
theorem dX3_weighs_0 : decode cX3_weighs 0 = .ok (.aload_n 0, 1) := by decide +kernel
theorem dX3_weighs_1 : decode cX3_weighs 1 = .ok (.iload_n 1, 1) := by decide +kernel
theorem dX3_weighs_2 : decode cX3_weighs 2 = .ok (.aload_n 0, 1) := by decide +kernel
theorem dX3_weighs_3 : decode cX3_weighs 3 = .ok (.iconst 1, 1) := by decide +kernel
theorem dX3_weighs_4 : decode cX3_weighs 4 = .ok (.iaload, 1) := by decide +kernel
theorem dX3_weighs_5 : decode cX3_weighs 5 = .ok (.invokestatic 57, 3) := by decide +kernel
theorem dX3_weighs_8 : decode cX3_weighs 8 = .ok (.ireturn, 1) := by decide +kernel
set_option maxRecDepth 20000 in
theorem ggX3_weight_X3_of : GoodIn wsX3_weight wsX3_of := goodIn_r _ [4] (by decide +kernel) (by decide +kernel)
set_option maxRecDepth 20000 in
theorem gX3_weight_X3_of : GoodIn wsX3_weight (va_wsS RX3 50 yX3_of wsX3_of) := goodIn_app (goodIn_of _ (by decide +kernel)) ggX3_weight_X3_of
set_option maxRecDepth 20000 in
theorem ggX3_weight_X3_weighs : GoodIn wsX3_weight wsX3_weighs := goodIn_r _ [7, 8, 9, 3, 10, 1, 2, 4, 11, 12, 13, 14, 15, 16] (by decide +kernel) (by decide +kernel)
set_option maxRecDepth 20000 in
theorem gX3_weight_X3_weighs : GoodIn wsX3_weight (va_wsS RX3 61 yX3_weighs wsX3_weighs) := goodIn_app (goodIn_of _ (by decide +kernel)) ggX3_weight_X3_weighs
theorem dX3_weight_0 : decode cX3_weight 0 = .ok (.aload_n 0, 1) := by decide +kernel
theorem dX3_weight_1 : decode cX3_weight 1 = .ok (.iconst 4, 1) := by decide +kernel
theorem dX3_weight_2 : decode cX3_weight 2 = .ok (.iload_n 1, 1) := by decide +kernel
theorem dX3_weight_3 : decode cX3_weight 3 = .ok (.iadd, 1) := by decide +kernel
theorem dX3_weight_4 : decode cX3_weight 4 = .ok (.iaload, 1) := by decide +kernel
theorem dX3_weight_5 : decode cX3_weight 5 = .ok (.istore_n 2, 1) := by decide +kernel
theorem dX3_weight_6 : decode cX3_weight 6 = .ok (.iconst 0, 1) := by decide +kernel
theorem dX3_weight_7 : decode cX3_weight 7 = .ok (.istore_n 3, 1) := by decide +kernel
theorem dX3_weight_8 : decode cX3_weight 8 = .ok (.iload_n 3, 1) := by decide +kernel
theorem dX3_weight_9 : decode cX3_weight 9 = .ok (.aload_n 0, 1) := by decide +kernel
theorem dX3_weight_10 : decode cX3_weight 10 = .ok (.iconst 0, 1) := by decide +kernel
theorem dX3_weight_11 : decode cX3_weight 11 = .ok (.iaload, 1) := by decide +kernel
theorem dX3_weight_12 : decode cX3_weight 12 = .ok (.if_icmp .ge 32, 3) := by decide +kernel
theorem dX3_weight_15 : decode cX3_weight 15 = .ok (.iload_n 2, 1) := by decide +kernel
theorem dX3_weight_16 : decode cX3_weight 16 = .ok (.aload_n 0, 1) := by decide +kernel
theorem dX3_weight_17 : decode cX3_weight 17 = .ok (.iload_n 3, 1) := by decide +kernel
theorem dX3_weight_18 : decode cX3_weight 18 = .ok (.iconst 2, 1) := by decide +kernel
theorem dX3_weight_19 : decode cX3_weight 19 = .ok (.invokestatic 50, 3) := by decide +kernel
theorem dX3_weight_22 : decode cX3_weight 22 = .ok (.iaload, 1) := by decide +kernel
theorem dX3_weight_23 : decode cX3_weight 23 = .ok (.iload_n 1, 1) := by decide +kernel
theorem dX3_weight_24 : decode cX3_weight 24 = .ok (.if_icmp .ne 11, 3) := by decide +kernel
theorem dX3_weight_27 : decode cX3_weight 27 = .ok (.aload_n 0, 1) := by decide +kernel
theorem dX3_weight_28 : decode cX3_weight 28 = .ok (.iload_n 3, 1) := by decide +kernel
theorem dX3_weight_29 : decode cX3_weight 29 = .ok (.invokestatic 61, 3) := by decide +kernel
theorem dX3_weight_32 : decode cX3_weight 32 = .ok (.goto 4, 3) := by decide +kernel
theorem dX3_weight_35 : decode cX3_weight 35 = .ok (.iconst 0, 1) := by decide +kernel
theorem dX3_weight_36 : decode cX3_weight 36 = .ok (.iadd, 1) := by decide +kernel
theorem dX3_weight_37 : decode cX3_weight 37 = .ok (.istore_n 2, 1) := by decide +kernel
theorem dX3_weight_38 : decode cX3_weight 38 = .ok (.iinc 3 1, 3) := by decide +kernel
theorem dX3_weight_41 : decode cX3_weight 41 = .ok (.goto (-33), 3) := by decide +kernel
theorem dX3_weight_44 : decode cX3_weight 44 = .ok (.iload_n 2, 1) := by decide +kernel
theorem dX3_weight_45 : decode cX3_weight 45 = .ok (.ireturn, 1) := by decide +kernel
set_option maxRecDepth 20000 in
theorem ggX3_pullIn_X3_weight : GoodIn wsX3_pullIn wsX3_weight := goodIn_r _ [4, 5, 6, 3, 7, 8, 9, 10, 11, 12, 13, 14, 15, 16, 17, 18, 19] (by decide +kernel) (by decide +kernel)
set_option maxRecDepth 20000 in
theorem gX3_pullIn_X3_weight : GoodIn wsX3_pullIn (va_wsS RX3 65 yX3_weight wsX3_weight) := goodIn_app (goodIn_of _ (by decide +kernel)) ggX3_pullIn_X3_weight
theorem dX3_pullIn_0 : decode cX3_pullIn 0 = .ok (.aload_n 0, 1) := by decide +kernel
theorem dX3_pullIn_1 : decode cX3_pullIn 1 = .ok (.iconst 0, 1) := by decide +kernel
theorem dX3_pullIn_2 : decode cX3_pullIn 2 = .ok (.invokestatic 65, 3) := by decide +kernel
theorem dX3_pullIn_5 : decode cX3_pullIn 5 = .ok (.aload_n 0, 1) := by decide +kernel
theorem dX3_pullIn_6 : decode cX3_pullIn 6 = .ok (.iconst 1, 1) := by decide +kernel
theorem dX3_pullIn_7 : decode cX3_pullIn 7 = .ok (.invokestatic 65, 3) := by decide +kernel
theorem dX3_pullIn_10 : decode cX3_pullIn 10 = .ok (.isub, 1) := by decide +kernel
theorem dX3_pullIn_11 : decode cX3_pullIn 11 = .ok (.ireturn, 1) := by decide +kernel
theorem dX3_floorOf_0 : decode cX3_floorOf 0 = .ok (.iload_n 1, 1) := by decide +kernel
theorem dX3_floorOf_1 : decode cX3_floorOf 1 = .ok (.ifCond .ne 9, 3) := by decide +kernel
theorem dX3_floorOf_4 : decode cX3_floorOf 4 = .ok (.aload_n 0, 1) := by decide +kernel
theorem dX3_floorOf_5 : decode cX3_floorOf 5 = .ok (.iconst 2, 1) := by decide +kernel
theorem dX3_floorOf_6 : decode cX3_floorOf 6 = .ok (.iaload, 1) := by decide +kernel
theorem dX3_floorOf_7 : decode cX3_floorOf 7 = .ok (.goto 9, 3) := by decide +kernel
theorem dX3_floorOf_10 : decode cX3_floorOf 10 = .ok (.bipush 20, 2) := by decide +kernel
theorem dX3_floorOf_12 : decode cX3_floorOf 12 = .ok (.aload_n 0, 1) := by decide +kernel
theorem dX3_floorOf_13 : decode cX3_floorOf 13 = .ok (.iconst 2, 1) := by decide +kernel
theorem dX3_floorOf_14 : decode cX3_floorOf 14 = .ok (.iaload, 1) := by decide +kernel
theorem dX3_floorOf_15 : decode cX3_floorOf 15 = .ok (.isub, 1) := by decide +kernel
theorem dX3_floorOf_16 : decode cX3_floorOf 16 = .ok (.ireturn, 1) := by decide +kernel
set_option maxRecDepth 20000 in
theorem ggX3_isAtDoor_X3_floorOf : GoodIn wsX3_isAtDoor wsX3_floorOf := goodIn_r _ [4] (by decide +kernel) (by decide +kernel)
set_option maxRecDepth 20000 in
theorem gX3_isAtDoor_X3_floorOf : GoodIn wsX3_isAtDoor (va_wsS RX3 68 yX3_floorOf wsX3_floorOf) := goodIn_app (goodIn_of _ (by decide +kernel)) ggX3_isAtDoor_X3_floorOf
set_option maxRecDepth 20000 in
theorem ggX3_isAtDoor_X3_has : GoodIn wsX3_isAtDoor wsX3_has := goodIn_r _ [7] (by decide +kernel) (by decide +kernel)
set_option maxRecDepth 20000 in
theorem gX3_isAtDoor_X3_has : GoodIn wsX3_isAtDoor (va_wsS RX3 71 yX3_has wsX3_has) := goodIn_app (goodIn_of _ (by decide +kernel)) ggX3_isAtDoor_X3_has
theorem dX3_isAtDoor_0 : decode cX3_isAtDoor 0 = .ok (.aload_n 0, 1) := by decide +kernel
theorem dX3_isAtDoor_1 : decode cX3_isAtDoor 1 = .ok (.iconst 3, 1) := by decide +kernel
theorem dX3_isAtDoor_2 : decode cX3_isAtDoor 2 = .ok (.iaload, 1) := by decide +kernel
theorem dX3_isAtDoor_3 : decode cX3_isAtDoor 3 = .ok (.aload_n 0, 1) := by decide +kernel
theorem dX3_isAtDoor_4 : decode cX3_isAtDoor 4 = .ok (.iload_n 1, 1) := by decide +kernel
theorem dX3_isAtDoor_5 : decode cX3_isAtDoor 5 = .ok (.invokestatic 68, 3) := by decide +kernel
theorem dX3_isAtDoor_8 : decode cX3_isAtDoor 8 = .ok (.invokestatic 71, 3) := by decide +kernel
theorem dX3_isAtDoor_11 : decode cX3_isAtDoor 11 = .ok (.ireturn, 1) := by decide +kernel
set_option maxRecDepth 20000 in
theorem ggX3_apart_X3_sized : GoodIn wsX3_apart wsX3_sized := goodIn_r _ [4] (by decide +kernel) (by decide +kernel)
set_option maxRecDepth 20000 in
theorem gX3_apart_X3_sized : GoodIn wsX3_apart (va_wsS RX3 75 yX3_sized wsX3_sized) := goodIn_app (goodIn_of _ (by decide +kernel)) ggX3_apart_X3_sized
theorem dX3_apart_0 : decode cX3_apart 0 = .ok (.iconst 2, 1) := by decide +kernel
theorem dX3_apart_1 : decode cX3_apart 1 = .ok (.aload_n 0, 1) := by decide +kernel
theorem dX3_apart_2 : decode cX3_apart 2 = .ok (.iconst 2, 1) := by decide +kernel
theorem dX3_apart_3 : decode cX3_apart 3 = .ok (.iaload, 1) := by decide +kernel
theorem dX3_apart_4 : decode cX3_apart 4 = .ok (.imul, 1) := by decide +kernel
theorem dX3_apart_5 : decode cX3_apart 5 = .ok (.bipush 20, 2) := by decide +kernel
theorem dX3_apart_7 : decode cX3_apart 7 = .ok (.isub, 1) := by decide +kernel
theorem dX3_apart_8 : decode cX3_apart 8 = .ok (.invokestatic 75, 3) := by decide +kernel
theorem dX3_apart_11 : decode cX3_apart 11 = .ok (.ireturn, 1) := by decide +kernel
set_option maxRecDepth 20000 in
theorem ggX3_day_X3_pullIn : GoodIn wsX3_day wsX3_pullIn := goodIn_r _ [4, 5, 6, 3, 7, 8, 9, 10, 11, 12, 13, 14, 15, 16, 17, 18, 19, 20, 21, 22] (by decide +kernel) (by decide +kernel)
set_option maxRecDepth 20000 in
theorem gX3_day_X3_pullIn : GoodIn wsX3_day (va_wsS RX3 78 yX3_pullIn wsX3_pullIn) := goodIn_app (goodIn_of _ (by decide +kernel)) ggX3_day_X3_pullIn
set_option maxRecDepth 20000 in
theorem ggX3_day_X3_sized : GoodIn wsX3_day wsX3_sized := goodIn_r _ [25] (by decide +kernel) (by decide +kernel)
set_option maxRecDepth 20000 in
theorem gX3_day_X3_sized : GoodIn wsX3_day (va_wsS RX3 75 yX3_sized wsX3_sized) := goodIn_app (goodIn_of _ (by decide +kernel)) ggX3_day_X3_sized
set_option maxRecDepth 20000 in
theorem ggX3_day_X3_least : GoodIn wsX3_day wsX3_least := goodIn_r _ [22] (by decide +kernel) (by decide +kernel)
set_option maxRecDepth 20000 in
theorem gX3_day_X3_least : GoodIn wsX3_day (va_wsS RX3 46 yX3_least wsX3_least) := goodIn_app (goodIn_of _ (by decide +kernel)) ggX3_day_X3_least
theorem dX3_day_0 : decode cX3_day 0 = .ok (.aload_n 0, 1) := by decide +kernel
theorem dX3_day_1 : decode cX3_day 1 = .ok (.iconst 1, 1) := by decide +kernel
theorem dX3_day_2 : decode cX3_day 2 = .ok (.dup2, 1) := by decide +kernel
theorem dX3_day_3 : decode cX3_day 3 = .ok (.iaload, 1) := by decide +kernel
theorem dX3_day_4 : decode cX3_day 4 = .ok (.iconst 1, 1) := by decide +kernel
theorem dX3_day_5 : decode cX3_day 5 = .ok (.iadd, 1) := by decide +kernel
theorem dX3_day_6 : decode cX3_day 6 = .ok (.iastore, 1) := by decide +kernel
theorem dX3_day_7 : decode cX3_day 7 = .ok (.aload_n 0, 1) := by decide +kernel
theorem dX3_day_8 : decode cX3_day 8 = .ok (.invokestatic 78, 3) := by decide +kernel
theorem dX3_day_11 : decode cX3_day 11 = .ok (.iload_n 1, 1) := by decide +kernel
theorem dX3_day_12 : decode cX3_day 12 = .ok (.iadd, 1) := by decide +kernel
theorem dX3_day_13 : decode cX3_day 13 = .ok (.istore_n 2, 1) := by decide +kernel
theorem dX3_day_14 : decode cX3_day 14 = .ok (.iconst 3, 1) := by decide +kernel
theorem dX3_day_15 : decode cX3_day 15 = .ok (.iload_n 2, 1) := by decide +kernel
theorem dX3_day_16 : decode cX3_day 16 = .ok (.invokestatic 75, 3) := by decide +kernel
theorem dX3_day_19 : decode cX3_day 19 = .ok (.iconst 4, 1) := by decide +kernel
theorem dX3_day_20 : decode cX3_day 20 = .ok (.idiv, 1) := by decide +kernel
theorem dX3_day_21 : decode cX3_day 21 = .ok (.invokestatic 46, 3) := by decide +kernel
theorem dX3_day_24 : decode cX3_day 24 = .ok (.istore_n 3, 1) := by decide +kernel
theorem dX3_day_25 : decode cX3_day 25 = .ok (.aload_n 0, 1) := by decide +kernel
theorem dX3_day_26 : decode cX3_day 26 = .ok (.iconst 2, 1) := by decide +kernel
theorem dX3_day_27 : decode cX3_day 27 = .ok (.iaload, 1) := by decide +kernel
theorem dX3_day_28 : decode cX3_day 28 = .ok (.iload_n 2, 1) := by decide +kernel
theorem dX3_day_29 : decode cX3_day 29 = .ok (.ifCond .le 8, 3) := by decide +kernel
theorem dX3_day_32 : decode cX3_day 32 = .ok (.iload_n 3, 1) := by decide +kernel
theorem dX3_day_33 : decode cX3_day 33 = .ok (.ineg, 1) := by decide +kernel
theorem dX3_day_34 : decode cX3_day 34 = .ok (.goto 4, 3) := by decide +kernel
theorem dX3_day_37 : decode cX3_day 37 = .ok (.iload_n 3, 1) := by decide +kernel
theorem dX3_day_38 : decode cX3_day 38 = .ok (.iadd, 1) := by decide +kernel
theorem dX3_day_39 : decode cX3_day 39 = .ok (.istore 4, 2) := by decide +kernel
theorem dX3_day_41 : decode cX3_day 41 = .ok (.aload_n 0, 1) := by decide +kernel
theorem dX3_day_42 : decode cX3_day 42 = .ok (.iconst 2, 1) := by decide +kernel
theorem dX3_day_43 : decode cX3_day 43 = .ok (.iload 4, 2) := by decide +kernel
theorem dX3_day_45 : decode cX3_day 45 = .ok (.ifCond .ge 7, 3) := by decide +kernel
theorem dX3_day_48 : decode cX3_day 48 = .ok (.iconst 0, 1) := by decide +kernel
theorem dX3_day_49 : decode cX3_day 49 = .ok (.goto 10, 3) := by decide +kernel
theorem dX3_day_52 : decode cX3_day 52 = .ok (.bipush 20, 2) := by decide +kernel
theorem dX3_day_54 : decode cX3_day 54 = .ok (.iload 4, 2) := by decide +kernel
theorem dX3_day_56 : decode cX3_day 56 = .ok (.invokestatic 46, 3) := by decide +kernel
theorem dX3_day_59 : decode cX3_day 59 = .ok (.iastore, 1) := by decide +kernel
theorem dX3_day_60 : decode cX3_day 60 = .ok (.return_, 1) := by decide +kernel
set_option maxRecDepth 20000 in
theorem ggX3_daysOn_X3_day : GoodIn wsX3_daysOn wsX3_day := goodIn_r _ [4, 5, 6, 3, 7, 8, 9, 10, 11, 12, 13, 14, 15, 16, 17, 18, 19, 20, 21, 22, 23, 24, 25, 26, 27, 28] (by decide +kernel) (by decide +kernel)
set_option maxRecDepth 20000 in
theorem gX3_daysOn_X3_day : GoodIn wsX3_daysOn (va_wsS RX3 82 yX3_day wsX3_day) := goodIn_app (goodIn_of _ (by decide +kernel)) ggX3_daysOn_X3_day
theorem dX3_daysOn_0 : decode cX3_daysOn 0 = .ok (.iconst 0, 1) := by decide +kernel
theorem dX3_daysOn_1 : decode cX3_daysOn 1 = .ok (.istore_n 2, 1) := by decide +kernel
theorem dX3_daysOn_2 : decode cX3_daysOn 2 = .ok (.iload_n 2, 1) := by decide +kernel
theorem dX3_daysOn_3 : decode cX3_daysOn 3 = .ok (.iload_n 1, 1) := by decide +kernel
theorem dX3_daysOn_4 : decode cX3_daysOn 4 = .ok (.if_icmp .ge 14, 3) := by decide +kernel
theorem dX3_daysOn_7 : decode cX3_daysOn 7 = .ok (.aload_n 0, 1) := by decide +kernel
theorem dX3_daysOn_8 : decode cX3_daysOn 8 = .ok (.iconst 0, 1) := by decide +kernel
theorem dX3_daysOn_9 : decode cX3_daysOn 9 = .ok (.invokestatic 82, 3) := by decide +kernel
theorem dX3_daysOn_12 : decode cX3_daysOn 12 = .ok (.iinc 2 1, 3) := by decide +kernel
theorem dX3_daysOn_15 : decode cX3_daysOn 15 = .ok (.goto (-13), 3) := by decide +kernel
theorem dX3_daysOn_18 : decode cX3_daysOn 18 = .ok (.return_, 1) := by decide +kernel
set_option maxRecDepth 20000 in
theorem ggX3_hangsIn_X3_of : GoodIn wsX3_hangsIn wsX3_of := goodIn_r _ [4] (by decide +kernel) (by decide +kernel)
set_option maxRecDepth 20000 in
theorem gX3_hangsIn_X3_of : GoodIn wsX3_hangsIn (va_wsS RX3 50 yX3_of wsX3_of) := goodIn_app (goodIn_of _ (by decide +kernel)) ggX3_hangsIn_X3_of
theorem dX3_hangsIn_0 : decode cX3_hangsIn 0 = .ok (.aload_n 0, 1) := by decide +kernel
theorem dX3_hangsIn_1 : decode cX3_hangsIn 1 = .ok (.iload_n 1, 1) := by decide +kernel
theorem dX3_hangsIn_2 : decode cX3_hangsIn 2 = .ok (.iconst 2, 1) := by decide +kernel
theorem dX3_hangsIn_3 : decode cX3_hangsIn 3 = .ok (.invokestatic 50, 3) := by decide +kernel
theorem dX3_hangsIn_6 : decode cX3_hangsIn 6 = .ok (.iload_n 2, 1) := by decide +kernel
theorem dX3_hangsIn_7 : decode cX3_hangsIn 7 = .ok (.iastore, 1) := by decide +kernel
theorem dX3_hangsIn_8 : decode cX3_hangsIn 8 = .ok (.aload_n 0, 1) := by decide +kernel
theorem dX3_hangsIn_9 : decode cX3_hangsIn 9 = .ok (.iload_n 1, 1) := by decide +kernel
theorem dX3_hangsIn_10 : decode cX3_hangsIn 10 = .ok (.iconst 3, 1) := by decide +kernel
theorem dX3_hangsIn_11 : decode cX3_hangsIn 11 = .ok (.invokestatic 50, 3) := by decide +kernel
theorem dX3_hangsIn_14 : decode cX3_hangsIn 14 = .ok (.aload_n 0, 1) := by decide +kernel
theorem dX3_hangsIn_15 : decode cX3_hangsIn 15 = .ok (.iconst 1, 1) := by decide +kernel
theorem dX3_hangsIn_16 : decode cX3_hangsIn 16 = .ok (.iaload, 1) := by decide +kernel
theorem dX3_hangsIn_17 : decode cX3_hangsIn 17 = .ok (.iastore, 1) := by decide +kernel
theorem dX3_hangsIn_18 : decode cX3_hangsIn 18 = .ok (.return_, 1) := by decide +kernel
set_option maxRecDepth 20000 in
theorem ggX3_letter_X3_no : GoodIn wsX3_letter wsX3_no := goodIn_r _ [7, 8, 9, 10, 11, 12, 13, 14, 15, 16, 17, 18, 19, 20, 21] (by decide +kernel) (by decide +kernel)
set_option maxRecDepth 20000 in
theorem gX3_letter_X3_no : GoodIn wsX3_letter (wsV RX3 36 RX3 yX3_no wsX3_no) := goodIn_app (goodIn_of _ (by decide +kernel)) ggX3_letter_X3_no
theorem dX3_letter_0 : decode cX3_letter 0 = .ok (.iload_n 1, 1) := by decide +kernel
theorem dX3_letter_1 : decode cX3_letter 1 = .ok (.ifCond .ge 10, 3) := by decide +kernel
theorem dX3_letter_4 : decode cX3_letter 4 = .ok (.aload_n 0, 1) := by decide +kernel
theorem dX3_letter_5 : decode cX3_letter 5 = .ok (.bipush (-4), 2) := by decide +kernel
theorem dX3_letter_7 : decode cX3_letter 7 = .ok (.invokevirtual 36, 3) := by decide +kernel
theorem dX3_letter_10 : decode cX3_letter 10 = .ok (.ireturn, 1) := by decide +kernel
theorem dX3_letter_11 : decode cX3_letter 11 = .ok (.iload_n 1, 1) := by decide +kernel
theorem dX3_letter_12 : decode cX3_letter 12 = .ok (.sipush 255, 3) := by decide +kernel
theorem dX3_letter_15 : decode cX3_letter 15 = .ok (.if_icmp .gt 12, 3) := by decide +kernel
theorem dX3_letter_18 : decode cX3_letter 18 = .ok (.aload_n 0, 1) := by decide +kernel
theorem dX3_letter_19 : decode cX3_letter 19 = .ok (.getfield 86, 3) := by decide +kernel
theorem dX3_letter_22 : decode cX3_letter 22 = .ok (.bipush 96, 2) := by decide +kernel
theorem dX3_letter_24 : decode cX3_letter 24 = .ok (.if_icmp .ne 10, 3) := by decide +kernel
theorem dX3_letter_27 : decode cX3_letter 27 = .ok (.aload_n 0, 1) := by decide +kernel
theorem dX3_letter_28 : decode cX3_letter 28 = .ok (.bipush (-6), 2) := by decide +kernel
theorem dX3_letter_30 : decode cX3_letter 30 = .ok (.invokevirtual 36, 3) := by decide +kernel
theorem dX3_letter_33 : decode cX3_letter 33 = .ok (.ireturn, 1) := by decide +kernel
theorem dX3_letter_34 : decode cX3_letter 34 = .ok (.aload_n 0, 1) := by decide +kernel
theorem dX3_letter_35 : decode cX3_letter 35 = .ok (.getfield 22, 3) := by decide +kernel
theorem dX3_letter_38 : decode cX3_letter 38 = .ok (.aload_n 0, 1) := by decide +kernel
theorem dX3_letter_39 : decode cX3_letter 39 = .ok (.getfield 86, 3) := by decide +kernel
theorem dX3_letter_42 : decode cX3_letter 42 = .ok (.iload_n 1, 1) := by decide +kernel
theorem dX3_letter_43 : decode cX3_letter 43 = .ok (.iastore, 1) := by decide +kernel
theorem dX3_letter_44 : decode cX3_letter 44 = .ok (.aload_n 0, 1) := by decide +kernel
theorem dX3_letter_45 : decode cX3_letter 45 = .ok (.dup, 1) := by decide +kernel
theorem dX3_letter_46 : decode cX3_letter 46 = .ok (.getfield 86, 3) := by decide +kernel
theorem dX3_letter_49 : decode cX3_letter 49 = .ok (.iconst 1, 1) := by decide +kernel
theorem dX3_letter_50 : decode cX3_letter 50 = .ok (.iadd, 1) := by decide +kernel
theorem dX3_letter_51 : decode cX3_letter 51 = .ok (.putfield 86, 3) := by decide +kernel
theorem dX3_letter_54 : decode cX3_letter 54 = .ok (.aload_n 0, 1) := by decide +kernel
theorem dX3_letter_55 : decode cX3_letter 55 = .ok (.getfield 86, 3) := by decide +kernel
theorem dX3_letter_58 : decode cX3_letter 58 = .ok (.ireturn, 1) := by decide +kernel
theorem dX3_here_0 : decode cX3_here 0 = .ok (.aload_n 0, 1) := by decide +kernel
theorem dX3_here_1 : decode cX3_here 1 = .ok (.getfield 90, 3) := by decide +kernel
theorem dX3_here_4 : decode cX3_here 4 = .ok (.aload_n 0, 1) := by decide +kernel
theorem dX3_here_5 : decode cX3_here 5 = .ok (.getfield 86, 3) := by decide +kernel
theorem dX3_here_8 : decode cX3_here 8 = .ok (.if_icmp .ge 15, 3) := by decide +kernel
theorem dX3_here_11 : decode cX3_here 11 = .ok (.aload_n 0, 1) := by decide +kernel
theorem dX3_here_12 : decode cX3_here 12 = .ok (.getfield 22, 3) := by decide +kernel
theorem dX3_here_15 : decode cX3_here 15 = .ok (.aload_n 0, 1) := by decide +kernel
theorem dX3_here_16 : decode cX3_here 16 = .ok (.getfield 90, 3) := by decide +kernel
theorem dX3_here_19 : decode cX3_here 19 = .ok (.iaload, 1) := by decide +kernel
theorem dX3_here_20 : decode cX3_here 20 = .ok (.goto 4, 3) := by decide +kernel
theorem dX3_here_23 : decode cX3_here 23 = .ok (.iconst (-1), 1) := by decide +kernel
theorem dX3_here_24 : decode cX3_here 24 = .ok (.ireturn, 1) := by decide +kernel
set_option maxRecDepth 20000 in
theorem ggX3_readsNumber_X3_here : GoodIn wsX3_readsNumber wsX3_here := goodIn_r _ [7, 2, 8, 9, 13, 14, 15, 16, 17, 18, 19, 20, 21, 22, 23, 24, 25] (by decide +kernel) (by decide +kernel)
set_option maxRecDepth 20000 in
theorem gX3_readsNumber_X3_here : GoodIn wsX3_readsNumber (wsV RX3 93 RX3 yX3_here wsX3_here) := goodIn_app (goodIn_of _ (by decide +kernel)) ggX3_readsNumber_X3_here
set_option maxRecDepth 20000 in
theorem ggX3_readsNumber_X3_isIn : GoodIn wsX3_readsNumber wsX3_isIn := goodIn_r _ [12] (by decide +kernel) (by decide +kernel)
set_option maxRecDepth 20000 in
theorem gX3_readsNumber_X3_isIn : GoodIn wsX3_readsNumber (va_wsS RX3 42 yX3_isIn wsX3_isIn) := goodIn_app (goodIn_of _ (by decide +kernel)) ggX3_readsNumber_X3_isIn
theorem dX3_readsNumber_0 : decode cX3_readsNumber 0 = .ok (.aload_n 0, 1) := by decide +kernel
theorem dX3_readsNumber_1 : decode cX3_readsNumber 1 = .ok (.getfield 31, 3) := by decide +kernel
theorem dX3_readsNumber_4 : decode cX3_readsNumber 4 = .ok (.iload_n 1, 1) := by decide +kernel
theorem dX3_readsNumber_5 : decode cX3_readsNumber 5 = .ok (.iconst 0, 1) := by decide +kernel
theorem dX3_readsNumber_6 : decode cX3_readsNumber 6 = .ok (.iastore, 1) := by decide +kernel
theorem dX3_readsNumber_7 : decode cX3_readsNumber 7 = .ok (.iconst 0, 1) := by decide +kernel
theorem dX3_readsNumber_8 : decode cX3_readsNumber 8 = .ok (.istore_n 3, 1) := by decide +kernel
theorem dX3_readsNumber_9 : decode cX3_readsNumber 9 = .ok (.iload_n 3, 1) := by decide +kernel
theorem dX3_readsNumber_10 : decode cX3_readsNumber 10 = .ok (.iload_n 2, 1) := by decide +kernel
theorem dX3_readsNumber_11 : decode cX3_readsNumber 11 = .ok (.if_icmp .ge 58, 3) := by decide +kernel
theorem dX3_readsNumber_14 : decode cX3_readsNumber 14 = .ok (.aload_n 0, 1) := by decide +kernel
theorem dX3_readsNumber_15 : decode cX3_readsNumber 15 = .ok (.invokevirtual 93, 3) := by decide +kernel
theorem dX3_readsNumber_18 : decode cX3_readsNumber 18 = .ok (.bipush 48, 2) := by decide +kernel
theorem dX3_readsNumber_20 : decode cX3_readsNumber 20 = .ok (.bipush 57, 2) := by decide +kernel
theorem dX3_readsNumber_22 : decode cX3_readsNumber 22 = .ok (.invokestatic 42, 3) := by decide +kernel
theorem dX3_readsNumber_25 : decode cX3_readsNumber 25 = .ok (.ifCond .ne 5, 3) := by decide +kernel
theorem dX3_readsNumber_28 : decode cX3_readsNumber 28 = .ok (.iconst 0, 1) := by decide +kernel
theorem dX3_readsNumber_29 : decode cX3_readsNumber 29 = .ok (.ireturn, 1) := by decide +kernel
theorem dX3_readsNumber_30 : decode cX3_readsNumber 30 = .ok (.aload_n 0, 1) := by decide +kernel
theorem dX3_readsNumber_31 : decode cX3_readsNumber 31 = .ok (.getfield 31, 3) := by decide +kernel
theorem dX3_readsNumber_34 : decode cX3_readsNumber 34 = .ok (.iload_n 1, 1) := by decide +kernel
theorem dX3_readsNumber_35 : decode cX3_readsNumber 35 = .ok (.bipush 10, 2) := by decide +kernel
theorem dX3_readsNumber_37 : decode cX3_readsNumber 37 = .ok (.aload_n 0, 1) := by decide +kernel
theorem dX3_readsNumber_38 : decode cX3_readsNumber 38 = .ok (.getfield 31, 3) := by decide +kernel
theorem dX3_readsNumber_41 : decode cX3_readsNumber 41 = .ok (.iload_n 1, 1) := by decide +kernel
theorem dX3_readsNumber_42 : decode cX3_readsNumber 42 = .ok (.iaload, 1) := by decide +kernel
theorem dX3_readsNumber_43 : decode cX3_readsNumber 43 = .ok (.imul, 1) := by decide +kernel
theorem dX3_readsNumber_44 : decode cX3_readsNumber 44 = .ok (.aload_n 0, 1) := by decide +kernel
theorem dX3_readsNumber_45 : decode cX3_readsNumber 45 = .ok (.invokevirtual 93, 3) := by decide +kernel
theorem dX3_readsNumber_48 : decode cX3_readsNumber 48 = .ok (.iadd, 1) := by decide +kernel
theorem dX3_readsNumber_49 : decode cX3_readsNumber 49 = .ok (.bipush 48, 2) := by decide +kernel
theorem dX3_readsNumber_51 : decode cX3_readsNumber 51 = .ok (.isub, 1) := by decide +kernel
theorem dX3_readsNumber_52 : decode cX3_readsNumber 52 = .ok (.iastore, 1) := by decide +kernel
theorem dX3_readsNumber_53 : decode cX3_readsNumber 53 = .ok (.aload_n 0, 1) := by decide +kernel
theorem dX3_readsNumber_54 : decode cX3_readsNumber 54 = .ok (.dup, 1) := by decide +kernel
theorem dX3_readsNumber_55 : decode cX3_readsNumber 55 = .ok (.getfield 90, 3) := by decide +kernel
theorem dX3_readsNumber_58 : decode cX3_readsNumber 58 = .ok (.iconst 1, 1) := by decide +kernel
theorem dX3_readsNumber_59 : decode cX3_readsNumber 59 = .ok (.iadd, 1) := by decide +kernel
theorem dX3_readsNumber_60 : decode cX3_readsNumber 60 = .ok (.putfield 90, 3) := by decide +kernel
theorem dX3_readsNumber_63 : decode cX3_readsNumber 63 = .ok (.iinc 3 1, 3) := by decide +kernel
theorem dX3_readsNumber_66 : decode cX3_readsNumber 66 = .ok (.goto (-57), 3) := by decide +kernel
theorem dX3_readsNumber_69 : decode cX3_readsNumber 69 = .ok (.iconst 1, 1) := by decide +kernel
theorem dX3_readsNumber_70 : decode cX3_readsNumber 70 = .ok (.ireturn, 1) := by decide +kernel
theorem dX3_kindBy_0 : decode cX3_kindBy 0 = .ok (.iload_n 0, 1) := by decide +kernel
theorem dX3_kindBy_1 : decode cX3_kindBy 1 = .ok (.lookupswitch 71 #[(98, 67), (104, 59), (108, 61), (115, 65), (116, 63), (119, 69)], 59) := by decide +kernel
theorem dX3_kindBy_60 : decode cX3_kindBy 60 = .ok (.iconst 0, 1) := by decide +kernel
theorem dX3_kindBy_61 : decode cX3_kindBy 61 = .ok (.ireturn, 1) := by decide +kernel
theorem dX3_kindBy_62 : decode cX3_kindBy 62 = .ok (.iconst 1, 1) := by decide +kernel
theorem dX3_kindBy_63 : decode cX3_kindBy 63 = .ok (.ireturn, 1) := by decide +kernel
theorem dX3_kindBy_64 : decode cX3_kindBy 64 = .ok (.iconst 2, 1) := by decide +kernel
theorem dX3_kindBy_65 : decode cX3_kindBy 65 = .ok (.ireturn, 1) := by decide +kernel
theorem dX3_kindBy_66 : decode cX3_kindBy 66 = .ok (.iconst 3, 1) := by decide +kernel
theorem dX3_kindBy_67 : decode cX3_kindBy 67 = .ok (.ireturn, 1) := by decide +kernel
theorem dX3_kindBy_68 : decode cX3_kindBy 68 = .ok (.iconst 4, 1) := by decide +kernel
theorem dX3_kindBy_69 : decode cX3_kindBy 69 = .ok (.ireturn, 1) := by decide +kernel
theorem dX3_kindBy_70 : decode cX3_kindBy 70 = .ok (.iconst 5, 1) := by decide +kernel
theorem dX3_kindBy_71 : decode cX3_kindBy 71 = .ok (.ireturn, 1) := by decide +kernel
theorem dX3_kindBy_72 : decode cX3_kindBy 72 = .ok (.bipush (-9), 2) := by decide +kernel
theorem dX3_kindBy_74 : decode cX3_kindBy 74 = .ok (.ireturn, 1) := by decide +kernel
set_option maxRecDepth 20000 in
theorem ggX3_readsKind_X3_here : GoodIn wsX3_readsKind wsX3_here := goodIn_r _ [7, 2, 8, 9, 13, 14, 15, 16, 17, 18, 19, 20, 21, 22, 23, 24, 25] (by decide +kernel) (by decide +kernel)
set_option maxRecDepth 20000 in
theorem gX3_readsKind_X3_here : GoodIn wsX3_readsKind (wsV RX3 93 RX3 yX3_here wsX3_here) := goodIn_app (goodIn_of _ (by decide +kernel)) ggX3_readsKind_X3_here
set_option maxRecDepth 20000 in
theorem ggX3_readsKind_X3_kindBy : GoodIn wsX3_readsKind wsX3_kindBy := goodIn_r _ [12] (by decide +kernel) (by decide +kernel)
set_option maxRecDepth 20000 in
theorem gX3_readsKind_X3_kindBy : GoodIn wsX3_readsKind (va_wsS RX3 97 yX3_kindBy wsX3_kindBy) := goodIn_app (goodIn_of _ (by decide +kernel)) ggX3_readsKind_X3_kindBy
theorem dX3_readsKind_0 : decode cX3_readsKind 0 = .ok (.aload_n 0, 1) := by decide +kernel
theorem dX3_readsKind_1 : decode cX3_readsKind 1 = .ok (.getfield 31, 3) := by decide +kernel
theorem dX3_readsKind_4 : decode cX3_readsKind 4 = .ok (.iconst 0, 1) := by decide +kernel
theorem dX3_readsKind_5 : decode cX3_readsKind 5 = .ok (.aload_n 0, 1) := by decide +kernel
theorem dX3_readsKind_6 : decode cX3_readsKind 6 = .ok (.invokevirtual 93, 3) := by decide +kernel
theorem dX3_readsKind_9 : decode cX3_readsKind 9 = .ok (.invokestatic 97, 3) := by decide +kernel
theorem dX3_readsKind_12 : decode cX3_readsKind 12 = .ok (.iastore, 1) := by decide +kernel
theorem dX3_readsKind_13 : decode cX3_readsKind 13 = .ok (.aload_n 0, 1) := by decide +kernel
theorem dX3_readsKind_14 : decode cX3_readsKind 14 = .ok (.dup, 1) := by decide +kernel
theorem dX3_readsKind_15 : decode cX3_readsKind 15 = .ok (.getfield 90, 3) := by decide +kernel
theorem dX3_readsKind_18 : decode cX3_readsKind 18 = .ok (.aload_n 0, 1) := by decide +kernel
theorem dX3_readsKind_19 : decode cX3_readsKind 19 = .ok (.getfield 31, 3) := by decide +kernel
theorem dX3_readsKind_22 : decode cX3_readsKind 22 = .ok (.iconst 0, 1) := by decide +kernel
theorem dX3_readsKind_23 : decode cX3_readsKind 23 = .ok (.iaload, 1) := by decide +kernel
theorem dX3_readsKind_24 : decode cX3_readsKind 24 = .ok (.ifCond .ge 7, 3) := by decide +kernel
theorem dX3_readsKind_27 : decode cX3_readsKind 27 = .ok (.iconst 0, 1) := by decide +kernel
theorem dX3_readsKind_28 : decode cX3_readsKind 28 = .ok (.goto 4, 3) := by decide +kernel
theorem dX3_readsKind_31 : decode cX3_readsKind 31 = .ok (.iconst 1, 1) := by decide +kernel
theorem dX3_readsKind_32 : decode cX3_readsKind 32 = .ok (.iadd, 1) := by decide +kernel
theorem dX3_readsKind_33 : decode cX3_readsKind 33 = .ok (.putfield 90, 3) := by decide +kernel
theorem dX3_readsKind_36 : decode cX3_readsKind 36 = .ok (.aload_n 0, 1) := by decide +kernel
theorem dX3_readsKind_37 : decode cX3_readsKind 37 = .ok (.getfield 31, 3) := by decide +kernel
theorem dX3_readsKind_40 : decode cX3_readsKind 40 = .ok (.iconst 0, 1) := by decide +kernel
theorem dX3_readsKind_41 : decode cX3_readsKind 41 = .ok (.iaload, 1) := by decide +kernel
theorem dX3_readsKind_42 : decode cX3_readsKind 42 = .ok (.ifCond .lt 7, 3) := by decide +kernel
theorem dX3_readsKind_45 : decode cX3_readsKind 45 = .ok (.iconst 1, 1) := by decide +kernel
theorem dX3_readsKind_46 : decode cX3_readsKind 46 = .ok (.goto 4, 3) := by decide +kernel
theorem dX3_readsKind_49 : decode cX3_readsKind 49 = .ok (.iconst 0, 1) := by decide +kernel
theorem dX3_readsKind_50 : decode cX3_readsKind 50 = .ok (.ireturn, 1) := by decide +kernel
set_option maxRecDepth 20000 in
theorem ggX3_readsStatement_X3_here : GoodIn wsX3_readsStatement wsX3_here := goodIn_r _ [6, 1, 7, 8, 24, 25, 26, 27, 28, 29, 30, 31, 32, 33, 34, 35, 36] (by decide +kernel) (by decide +kernel)
set_option maxRecDepth 20000 in
theorem gX3_readsStatement_X3_here : GoodIn wsX3_readsStatement (wsV RX3 93 RX3 yX3_here wsX3_here) := goodIn_app (goodIn_of _ (by decide +kernel)) ggX3_readsStatement_X3_here
set_option maxRecDepth 20000 in
theorem ggX3_readsStatement_X3_readsKind : GoodIn wsX3_readsStatement wsX3_readsKind := goodIn_r _ [12, 13, 1, 2, 3, 4, 5, 6, 7, 8, 14, 15, 16, 24, 25, 26, 27, 28, 29, 30, 31, 32, 33, 34, 35, 36] (by decide +kernel) (by decide +kernel)
set_option maxRecDepth 20000 in
theorem gX3_readsStatement_X3_readsKind : GoodIn wsX3_readsStatement (wsV RX3 100 RX3 yX3_readsKind wsX3_readsKind) := goodIn_app (goodIn_of _ (by decide +kernel)) ggX3_readsStatement_X3_readsKind
set_option maxRecDepth 20000 in
theorem ggX3_readsStatement_X3_readsNumber : GoodIn wsX3_readsStatement wsX3_readsNumber := goodIn_r _ [20, 13, 1, 2, 3, 4, 5, 6, 7, 8, 21, 22, 23, 24, 25, 26, 27, 28, 29, 30, 31, 32, 33, 34, 35, 36] (by decide +kernel) (by decide +kernel)
set_option maxRecDepth 20000 in
theorem gX3_readsStatement_X3_readsNumber : GoodIn wsX3_readsStatement (wsV RX3 104 RX3 yX3_readsNumber wsX3_readsNumber) := goodIn_app (goodIn_of _ (by decide +kernel)) ggX3_readsStatement_X3_readsNumber
theorem dX3_readsStatement_0 : decode cX3_readsStatement 0 = .ok (.aload_n 0, 1) := by decide +kernel
theorem dX3_readsStatement_1 : decode cX3_readsStatement 1 = .ok (.invokevirtual 93, 3) := by decide +kernel
theorem dX3_readsStatement_4 : decode cX3_readsStatement 4 = .ok (.istore_n 1, 1) := by decide +kernel
theorem dX3_readsStatement_5 : decode cX3_readsStatement 5 = .ok (.aload_n 0, 1) := by decide +kernel
theorem dX3_readsStatement_6 : decode cX3_readsStatement 6 = .ok (.dup, 1) := by decide +kernel
theorem dX3_readsStatement_7 : decode cX3_readsStatement 7 = .ok (.getfield 90, 3) := by decide +kernel
theorem dX3_readsStatement_10 : decode cX3_readsStatement 10 = .ok (.iconst 1, 1) := by decide +kernel
theorem dX3_readsStatement_11 : decode cX3_readsStatement 11 = .ok (.iadd, 1) := by decide +kernel
theorem dX3_readsStatement_12 : decode cX3_readsStatement 12 = .ok (.putfield 90, 3) := by decide +kernel
theorem dX3_readsStatement_15 : decode cX3_readsStatement 15 = .ok (.iload_n 1, 1) := by decide +kernel
theorem dX3_readsStatement_16 : decode cX3_readsStatement 16 = .ok (.tableswitch 190 98 116 #[153, 190, 180, 190, 180, 190, 126, 190, 190, 190, 190, 190, 180, 190, 190, 190, 190, 190, 92], 92) := by decide +kernel
theorem dX3_readsStatement_108 : decode cX3_readsStatement 108 = .ok (.aload_n 0, 1) := by decide +kernel
theorem dX3_readsStatement_109 : decode cX3_readsStatement 109 = .ok (.invokevirtual 100, 3) := by decide +kernel
theorem dX3_readsStatement_112 : decode cX3_readsStatement 112 = .ok (.ifCond .eq 25, 3) := by decide +kernel
theorem dX3_readsStatement_115 : decode cX3_readsStatement 115 = .ok (.aload_n 0, 1) := by decide +kernel
theorem dX3_readsStatement_116 : decode cX3_readsStatement 116 = .ok (.iconst 1, 1) := by decide +kernel
theorem dX3_readsStatement_117 : decode cX3_readsStatement 117 = .ok (.iconst 1, 1) := by decide +kernel
theorem dX3_readsStatement_118 : decode cX3_readsStatement 118 = .ok (.invokevirtual 104, 3) := by decide +kernel
theorem dX3_readsStatement_121 : decode cX3_readsStatement 121 = .ok (.ifCond .eq 16, 3) := by decide +kernel
theorem dX3_readsStatement_124 : decode cX3_readsStatement 124 = .ok (.aload_n 0, 1) := by decide +kernel
theorem dX3_readsStatement_125 : decode cX3_readsStatement 125 = .ok (.iconst 2, 1) := by decide +kernel
theorem dX3_readsStatement_126 : decode cX3_readsStatement 126 = .ok (.iconst 1, 1) := by decide +kernel
theorem dX3_readsStatement_127 : decode cX3_readsStatement 127 = .ok (.invokevirtual 104, 3) := by decide +kernel
theorem dX3_readsStatement_130 : decode cX3_readsStatement 130 = .ok (.ifCond .eq 7, 3) := by decide +kernel
theorem dX3_readsStatement_133 : decode cX3_readsStatement 133 = .ok (.iconst 1, 1) := by decide +kernel
theorem dX3_readsStatement_134 : decode cX3_readsStatement 134 = .ok (.goto 4, 3) := by decide +kernel
theorem dX3_readsStatement_137 : decode cX3_readsStatement 137 = .ok (.iconst 0, 1) := by decide +kernel
theorem dX3_readsStatement_138 : decode cX3_readsStatement 138 = .ok (.istore_n 2, 1) := by decide +kernel
theorem dX3_readsStatement_139 : decode cX3_readsStatement 139 = .ok (.goto 79, 3) := by decide +kernel
theorem dX3_readsStatement_142 : decode cX3_readsStatement 142 = .ok (.aload_n 0, 1) := by decide +kernel
theorem dX3_readsStatement_143 : decode cX3_readsStatement 143 = .ok (.iconst 0, 1) := by decide +kernel
theorem dX3_readsStatement_144 : decode cX3_readsStatement 144 = .ok (.iconst 1, 1) := by decide +kernel
theorem dX3_readsStatement_145 : decode cX3_readsStatement 145 = .ok (.invokevirtual 104, 3) := by decide +kernel
theorem dX3_readsStatement_148 : decode cX3_readsStatement 148 = .ok (.ifCond .eq 16, 3) := by decide +kernel
theorem dX3_readsStatement_151 : decode cX3_readsStatement 151 = .ok (.aload_n 0, 1) := by decide +kernel
theorem dX3_readsStatement_152 : decode cX3_readsStatement 152 = .ok (.iconst 1, 1) := by decide +kernel
theorem dX3_readsStatement_153 : decode cX3_readsStatement 153 = .ok (.iconst 1, 1) := by decide +kernel
theorem dX3_readsStatement_154 : decode cX3_readsStatement 154 = .ok (.invokevirtual 104, 3) := by decide +kernel
theorem dX3_readsStatement_157 : decode cX3_readsStatement 157 = .ok (.ifCond .eq 7, 3) := by decide +kernel
theorem dX3_readsStatement_160 : decode cX3_readsStatement 160 = .ok (.iconst 1, 1) := by decide +kernel
theorem dX3_readsStatement_161 : decode cX3_readsStatement 161 = .ok (.goto 4, 3) := by decide +kernel
theorem dX3_readsStatement_164 : decode cX3_readsStatement 164 = .ok (.iconst 0, 1) := by decide +kernel
theorem dX3_readsStatement_165 : decode cX3_readsStatement 165 = .ok (.istore_n 2, 1) := by decide +kernel
theorem dX3_readsStatement_166 : decode cX3_readsStatement 166 = .ok (.goto 52, 3) := by decide +kernel
theorem dX3_readsStatement_169 : decode cX3_readsStatement 169 = .ok (.aload_n 0, 1) := by decide +kernel
theorem dX3_readsStatement_170 : decode cX3_readsStatement 170 = .ok (.iconst 0, 1) := by decide +kernel
theorem dX3_readsStatement_171 : decode cX3_readsStatement 171 = .ok (.iconst 1, 1) := by decide +kernel
theorem dX3_readsStatement_172 : decode cX3_readsStatement 172 = .ok (.invokevirtual 104, 3) := by decide +kernel
theorem dX3_readsStatement_175 : decode cX3_readsStatement 175 = .ok (.ifCond .eq 16, 3) := by decide +kernel
theorem dX3_readsStatement_178 : decode cX3_readsStatement 178 = .ok (.aload_n 0, 1) := by decide +kernel
theorem dX3_readsStatement_179 : decode cX3_readsStatement 179 = .ok (.iconst 1, 1) := by decide +kernel
theorem dX3_readsStatement_180 : decode cX3_readsStatement 180 = .ok (.iconst 2, 1) := by decide +kernel
theorem dX3_readsStatement_181 : decode cX3_readsStatement 181 = .ok (.invokevirtual 104, 3) := by decide +kernel
theorem dX3_readsStatement_184 : decode cX3_readsStatement 184 = .ok (.ifCond .eq 7, 3) := by decide +kernel
theorem dX3_readsStatement_187 : decode cX3_readsStatement 187 = .ok (.iconst 1, 1) := by decide +kernel
theorem dX3_readsStatement_188 : decode cX3_readsStatement 188 = .ok (.goto 4, 3) := by decide +kernel
theorem dX3_readsStatement_191 : decode cX3_readsStatement 191 = .ok (.iconst 0, 1) := by decide +kernel
theorem dX3_readsStatement_192 : decode cX3_readsStatement 192 = .ok (.istore_n 2, 1) := by decide +kernel
theorem dX3_readsStatement_193 : decode cX3_readsStatement 193 = .ok (.goto 25, 3) := by decide +kernel
theorem dX3_readsStatement_196 : decode cX3_readsStatement 196 = .ok (.aload_n 0, 1) := by decide +kernel
theorem dX3_readsStatement_197 : decode cX3_readsStatement 197 = .ok (.iconst 0, 1) := by decide +kernel
theorem dX3_readsStatement_198 : decode cX3_readsStatement 198 = .ok (.iconst 2, 1) := by decide +kernel
theorem dX3_readsStatement_199 : decode cX3_readsStatement 199 = .ok (.invokevirtual 104, 3) := by decide +kernel
theorem dX3_readsStatement_202 : decode cX3_readsStatement 202 = .ok (.istore_n 2, 1) := by decide +kernel
theorem dX3_readsStatement_203 : decode cX3_readsStatement 203 = .ok (.goto 15, 3) := by decide +kernel
theorem dX3_readsStatement_206 : decode cX3_readsStatement 206 = .ok (.aload_n 0, 1) := by decide +kernel
theorem dX3_readsStatement_207 : decode cX3_readsStatement 207 = .ok (.dup, 1) := by decide +kernel
theorem dX3_readsStatement_208 : decode cX3_readsStatement 208 = .ok (.getfield 90, 3) := by decide +kernel
theorem dX3_readsStatement_211 : decode cX3_readsStatement 211 = .ok (.iconst 1, 1) := by decide +kernel
theorem dX3_readsStatement_212 : decode cX3_readsStatement 212 = .ok (.isub, 1) := by decide +kernel
theorem dX3_readsStatement_213 : decode cX3_readsStatement 213 = .ok (.putfield 90, 3) := by decide +kernel
theorem dX3_readsStatement_216 : decode cX3_readsStatement 216 = .ok (.iconst 0, 1) := by decide +kernel
theorem dX3_readsStatement_217 : decode cX3_readsStatement 217 = .ok (.ireturn, 1) := by decide +kernel
theorem dX3_readsStatement_218 : decode cX3_readsStatement 218 = .ok (.iload_n 2, 1) := by decide +kernel
theorem dX3_readsStatement_219 : decode cX3_readsStatement 219 = .ok (.ifCond .eq 12, 3) := by decide +kernel
theorem dX3_readsStatement_222 : decode cX3_readsStatement 222 = .ok (.aload_n 0, 1) := by decide +kernel
theorem dX3_readsStatement_223 : decode cX3_readsStatement 223 = .ok (.invokevirtual 93, 3) := by decide +kernel
theorem dX3_readsStatement_226 : decode cX3_readsStatement 226 = .ok (.bipush 59, 2) := by decide +kernel
theorem dX3_readsStatement_228 : decode cX3_readsStatement 228 = .ok (.if_icmp .eq 5, 3) := by decide +kernel
theorem dX3_readsStatement_231 : decode cX3_readsStatement 231 = .ok (.iconst 0, 1) := by decide +kernel
theorem dX3_readsStatement_232 : decode cX3_readsStatement 232 = .ok (.ireturn, 1) := by decide +kernel
theorem dX3_readsStatement_233 : decode cX3_readsStatement 233 = .ok (.aload_n 0, 1) := by decide +kernel
theorem dX3_readsStatement_234 : decode cX3_readsStatement 234 = .ok (.dup, 1) := by decide +kernel
theorem dX3_readsStatement_235 : decode cX3_readsStatement 235 = .ok (.getfield 90, 3) := by decide +kernel
theorem dX3_readsStatement_238 : decode cX3_readsStatement 238 = .ok (.iconst 1, 1) := by decide +kernel
theorem dX3_readsStatement_239 : decode cX3_readsStatement 239 = .ok (.iadd, 1) := by decide +kernel
theorem dX3_readsStatement_240 : decode cX3_readsStatement 240 = .ok (.putfield 90, 3) := by decide +kernel
theorem dX3_readsStatement_243 : decode cX3_readsStatement 243 = .ok (.iconst 1, 1) := by decide +kernel
theorem dX3_readsStatement_244 : decode cX3_readsStatement 244 = .ok (.ireturn, 1) := by decide +kernel
set_option maxRecDepth 20000 in
theorem ggX3_isDone_X3_of : GoodIn wsX3_isDone wsX3_of := goodIn_r _ [6] (by decide +kernel) (by decide +kernel)
set_option maxRecDepth 20000 in
theorem gX3_isDone_X3_of : GoodIn wsX3_isDone (va_wsS RX3 50 yX3_of wsX3_of) := goodIn_app (goodIn_of _ (by decide +kernel)) ggX3_isDone_X3_of
set_option maxRecDepth 20000 in
theorem ggX3_isDone_X3_hangsIn : GoodIn wsX3_isDone wsX3_hangsIn := goodIn_r _ [9, 3, 4, 5, 6] (by decide +kernel) (by decide +kernel)
set_option maxRecDepth 20000 in
theorem gX3_isDone_X3_hangsIn : GoodIn wsX3_isDone (va_wsS RX3 107 yX3_hangsIn wsX3_hangsIn) := goodIn_app (goodIn_of _ (by decide +kernel)) ggX3_isDone_X3_hangsIn
set_option maxRecDepth 20000 in
theorem ggX3_isDone_X3_isThing : GoodIn wsX3_isDone wsX3_isThing := goodIn_r _ [13, 2, 14, 15, 5, 16, 50, 51, 52, 53, 54, 55, 56, 57, 58, 59, 60, 61, 62] (by decide +kernel) (by decide +kernel)
set_option maxRecDepth 20000 in
theorem gX3_isDone_X3_isThing : GoodIn wsX3_isDone (wsV RX3 111 RX3 yX3_isThing wsX3_isThing) := goodIn_app (goodIn_of _ (by decide +kernel)) ggX3_isDone_X3_isThing
set_option maxRecDepth 20000 in
theorem ggX3_isDone_X3_isSide : GoodIn wsX3_isDone wsX3_isSide := goodIn_r _ [19, 14, 15, 5, 16] (by decide +kernel) (by decide +kernel)
set_option maxRecDepth 20000 in
theorem gX3_isDone_X3_isSide : GoodIn wsX3_isDone (va_wsS RX3 115 yX3_isSide wsX3_isSide) := goodIn_app (goodIn_of _ (by decide +kernel)) ggX3_isDone_X3_isSide
set_option maxRecDepth 20000 in
theorem ggX3_isDone_X3_isFloor : GoodIn wsX3_isDone wsX3_isFloor := goodIn_r _ [22, 14, 15, 5, 16] (by decide +kernel) (by decide +kernel)
set_option maxRecDepth 20000 in
theorem gX3_isDone_X3_isFloor : GoodIn wsX3_isDone (va_wsS RX3 118 yX3_isFloor wsX3_isFloor) := goodIn_app (goodIn_of _ (by decide +kernel)) ggX3_isDone_X3_isFloor
set_option maxRecDepth 20000 in
theorem ggX3_isDone_X3_isIn : GoodIn wsX3_isDone wsX3_isIn := goodIn_r _ [16] (by decide +kernel) (by decide +kernel)
set_option maxRecDepth 20000 in
theorem gX3_isDone_X3_isIn : GoodIn wsX3_isDone (va_wsS RX3 42 yX3_isIn wsX3_isIn) := goodIn_app (goodIn_of _ (by decide +kernel)) ggX3_isDone_X3_isIn
set_option maxRecDepth 20000 in
theorem ggX3_isDone_X3_daysOn : GoodIn wsX3_isDone wsX3_daysOn := goodIn_r _ [25, 26, 27, 5, 28, 29, 30, 31, 32, 33, 34, 3, 4, 6, 35, 36, 37, 38, 39, 40, 41, 42, 43, 44, 45, 46, 47, 48, 49] (by decide +kernel) (by decide +kernel)
set_option maxRecDepth 20000 in
theorem gX3_isDone_X3_daysOn : GoodIn wsX3_isDone (va_wsS RX3 121 yX3_daysOn wsX3_daysOn) := goodIn_app (goodIn_of _ (by decide +kernel)) ggX3_isDone_X3_daysOn
theorem dX3_isDone_0 : decode cX3_isDone 0 = .ok (.aload_n 0, 1) := by decide +kernel
theorem dX3_isDone_1 : decode cX3_isDone 1 = .ok (.getfield 31, 3) := by decide +kernel
theorem dX3_isDone_4 : decode cX3_isDone 4 = .ok (.iconst 0, 1) := by decide +kernel
theorem dX3_isDone_5 : decode cX3_isDone 5 = .ok (.iaload, 1) := by decide +kernel
theorem dX3_isDone_6 : decode cX3_isDone 6 = .ok (.istore_n 2, 1) := by decide +kernel
theorem dX3_isDone_7 : decode cX3_isDone 7 = .ok (.aload_n 0, 1) := by decide +kernel
theorem dX3_isDone_8 : decode cX3_isDone 8 = .ok (.getfield 31, 3) := by decide +kernel
theorem dX3_isDone_11 : decode cX3_isDone 11 = .ok (.iconst 1, 1) := by decide +kernel
theorem dX3_isDone_12 : decode cX3_isDone 12 = .ok (.iaload, 1) := by decide +kernel
theorem dX3_isDone_13 : decode cX3_isDone 13 = .ok (.istore_n 3, 1) := by decide +kernel
theorem dX3_isDone_14 : decode cX3_isDone 14 = .ok (.iload_n 1, 1) := by decide +kernel
theorem dX3_isDone_15 : decode cX3_isDone 15 = .ok (.lookupswitch 228 #[(98, 161), (100, 205), (102, 187), (104, 135), (116, 49)], 49) := by decide +kernel
theorem dX3_isDone_64 : decode cX3_isDone 64 = .ok (.aload_n 0, 1) := by decide +kernel
theorem dX3_isDone_65 : decode cX3_isDone 65 = .ok (.getfield 31, 3) := by decide +kernel
theorem dX3_isDone_68 : decode cX3_isDone 68 = .ok (.iconst 2, 1) := by decide +kernel
theorem dX3_isDone_69 : decode cX3_isDone 69 = .ok (.iaload, 1) := by decide +kernel
theorem dX3_isDone_70 : decode cX3_isDone 70 = .ok (.iconst 2, 1) := by decide +kernel
theorem dX3_isDone_71 : decode cX3_isDone 71 = .ok (.if_icmp .gt 14, 3) := by decide +kernel
theorem dX3_isDone_74 : decode cX3_isDone 74 = .ok (.aload_n 0, 1) := by decide +kernel
theorem dX3_isDone_75 : decode cX3_isDone 75 = .ok (.getfield 9, 3) := by decide +kernel
theorem dX3_isDone_78 : decode cX3_isDone 78 = .ok (.iconst 0, 1) := by decide +kernel
theorem dX3_isDone_79 : decode cX3_isDone 79 = .ok (.iaload, 1) := by decide +kernel
theorem dX3_isDone_80 : decode cX3_isDone 80 = .ok (.bipush 8, 2) := by decide +kernel
theorem dX3_isDone_82 : decode cX3_isDone 82 = .ok (.if_icmp .ne 5, 3) := by decide +kernel
theorem dX3_isDone_85 : decode cX3_isDone 85 = .ok (.iconst 0, 1) := by decide +kernel
theorem dX3_isDone_86 : decode cX3_isDone 86 = .ok (.ireturn, 1) := by decide +kernel
theorem dX3_isDone_87 : decode cX3_isDone 87 = .ok (.aload_n 0, 1) := by decide +kernel
theorem dX3_isDone_88 : decode cX3_isDone 88 = .ok (.getfield 9, 3) := by decide +kernel
theorem dX3_isDone_91 : decode cX3_isDone 91 = .ok (.aload_n 0, 1) := by decide +kernel
theorem dX3_isDone_92 : decode cX3_isDone 92 = .ok (.getfield 9, 3) := by decide +kernel
theorem dX3_isDone_95 : decode cX3_isDone 95 = .ok (.iconst 0, 1) := by decide +kernel
theorem dX3_isDone_96 : decode cX3_isDone 96 = .ok (.iaload, 1) := by decide +kernel
theorem dX3_isDone_97 : decode cX3_isDone 97 = .ok (.iconst 0, 1) := by decide +kernel
theorem dX3_isDone_98 : decode cX3_isDone 98 = .ok (.invokestatic 50, 3) := by decide +kernel
theorem dX3_isDone_101 : decode cX3_isDone 101 = .ok (.iload_n 2, 1) := by decide +kernel
theorem dX3_isDone_102 : decode cX3_isDone 102 = .ok (.iastore, 1) := by decide +kernel
theorem dX3_isDone_103 : decode cX3_isDone 103 = .ok (.aload_n 0, 1) := by decide +kernel
theorem dX3_isDone_104 : decode cX3_isDone 104 = .ok (.getfield 9, 3) := by decide +kernel
theorem dX3_isDone_107 : decode cX3_isDone 107 = .ok (.aload_n 0, 1) := by decide +kernel
theorem dX3_isDone_108 : decode cX3_isDone 108 = .ok (.getfield 9, 3) := by decide +kernel
theorem dX3_isDone_111 : decode cX3_isDone 111 = .ok (.iconst 0, 1) := by decide +kernel
theorem dX3_isDone_112 : decode cX3_isDone 112 = .ok (.iaload, 1) := by decide +kernel
theorem dX3_isDone_113 : decode cX3_isDone 113 = .ok (.iconst 1, 1) := by decide +kernel
theorem dX3_isDone_114 : decode cX3_isDone 114 = .ok (.invokestatic 50, 3) := by decide +kernel
theorem dX3_isDone_117 : decode cX3_isDone 117 = .ok (.iload_n 3, 1) := by decide +kernel
theorem dX3_isDone_118 : decode cX3_isDone 118 = .ok (.iastore, 1) := by decide +kernel
theorem dX3_isDone_119 : decode cX3_isDone 119 = .ok (.aload_n 0, 1) := by decide +kernel
theorem dX3_isDone_120 : decode cX3_isDone 120 = .ok (.getfield 9, 3) := by decide +kernel
theorem dX3_isDone_123 : decode cX3_isDone 123 = .ok (.aload_n 0, 1) := by decide +kernel
theorem dX3_isDone_124 : decode cX3_isDone 124 = .ok (.getfield 9, 3) := by decide +kernel
theorem dX3_isDone_127 : decode cX3_isDone 127 = .ok (.iconst 0, 1) := by decide +kernel
theorem dX3_isDone_128 : decode cX3_isDone 128 = .ok (.iaload, 1) := by decide +kernel
theorem dX3_isDone_129 : decode cX3_isDone 129 = .ok (.aload_n 0, 1) := by decide +kernel
theorem dX3_isDone_130 : decode cX3_isDone 130 = .ok (.getfield 31, 3) := by decide +kernel
theorem dX3_isDone_133 : decode cX3_isDone 133 = .ok (.iconst 2, 1) := by decide +kernel
theorem dX3_isDone_134 : decode cX3_isDone 134 = .ok (.iaload, 1) := by decide +kernel
theorem dX3_isDone_135 : decode cX3_isDone 135 = .ok (.invokestatic 107, 3) := by decide +kernel
theorem dX3_isDone_138 : decode cX3_isDone 138 = .ok (.aload_n 0, 1) := by decide +kernel
theorem dX3_isDone_139 : decode cX3_isDone 139 = .ok (.getfield 9, 3) := by decide +kernel
theorem dX3_isDone_142 : decode cX3_isDone 142 = .ok (.iconst 0, 1) := by decide +kernel
theorem dX3_isDone_143 : decode cX3_isDone 143 = .ok (.dup2, 1) := by decide +kernel
theorem dX3_isDone_144 : decode cX3_isDone 144 = .ok (.iaload, 1) := by decide +kernel
theorem dX3_isDone_145 : decode cX3_isDone 145 = .ok (.iconst 1, 1) := by decide +kernel
theorem dX3_isDone_146 : decode cX3_isDone 146 = .ok (.iadd, 1) := by decide +kernel
theorem dX3_isDone_147 : decode cX3_isDone 147 = .ok (.iastore, 1) := by decide +kernel
theorem dX3_isDone_148 : decode cX3_isDone 148 = .ok (.iconst 1, 1) := by decide +kernel
theorem dX3_isDone_149 : decode cX3_isDone 149 = .ok (.ireturn, 1) := by decide +kernel
theorem dX3_isDone_150 : decode cX3_isDone 150 = .ok (.aload_n 0, 1) := by decide +kernel
theorem dX3_isDone_151 : decode cX3_isDone 151 = .ok (.iload_n 2, 1) := by decide +kernel
theorem dX3_isDone_152 : decode cX3_isDone 152 = .ok (.invokevirtual 111, 3) := by decide +kernel
theorem dX3_isDone_155 : decode cX3_isDone 155 = .ok (.ifCond .eq 8, 3) := by decide +kernel
theorem dX3_isDone_158 : decode cX3_isDone 158 = .ok (.iload_n 3, 1) := by decide +kernel
theorem dX3_isDone_159 : decode cX3_isDone 159 = .ok (.iconst 2, 1) := by decide +kernel
theorem dX3_isDone_160 : decode cX3_isDone 160 = .ok (.if_icmp .le 5, 3) := by decide +kernel
theorem dX3_isDone_163 : decode cX3_isDone 163 = .ok (.iconst 0, 1) := by decide +kernel
theorem dX3_isDone_164 : decode cX3_isDone 164 = .ok (.ireturn, 1) := by decide +kernel
theorem dX3_isDone_165 : decode cX3_isDone 165 = .ok (.aload_n 0, 1) := by decide +kernel
theorem dX3_isDone_166 : decode cX3_isDone 166 = .ok (.getfield 9, 3) := by decide +kernel
theorem dX3_isDone_169 : decode cX3_isDone 169 = .ok (.iload_n 2, 1) := by decide +kernel
theorem dX3_isDone_170 : decode cX3_isDone 170 = .ok (.iload_n 3, 1) := by decide +kernel
theorem dX3_isDone_171 : decode cX3_isDone 171 = .ok (.invokestatic 107, 3) := by decide +kernel
theorem dX3_isDone_174 : decode cX3_isDone 174 = .ok (.iconst 1, 1) := by decide +kernel
theorem dX3_isDone_175 : decode cX3_isDone 175 = .ok (.ireturn, 1) := by decide +kernel
theorem dX3_isDone_176 : decode cX3_isDone 176 = .ok (.iload_n 2, 1) := by decide +kernel
theorem dX3_isDone_177 : decode cX3_isDone 177 = .ok (.invokestatic 115, 3) := by decide +kernel
theorem dX3_isDone_180 : decode cX3_isDone 180 = .ok (.ifCond .eq 9, 3) := by decide +kernel
theorem dX3_isDone_183 : decode cX3_isDone 183 = .ok (.iload_n 3, 1) := by decide +kernel
theorem dX3_isDone_184 : decode cX3_isDone 184 = .ok (.bipush 50, 2) := by decide +kernel
theorem dX3_isDone_186 : decode cX3_isDone 186 = .ok (.if_icmp .le 5, 3) := by decide +kernel
theorem dX3_isDone_189 : decode cX3_isDone 189 = .ok (.iconst 0, 1) := by decide +kernel
theorem dX3_isDone_190 : decode cX3_isDone 190 = .ok (.ireturn, 1) := by decide +kernel
theorem dX3_isDone_191 : decode cX3_isDone 191 = .ok (.aload_n 0, 1) := by decide +kernel
theorem dX3_isDone_192 : decode cX3_isDone 192 = .ok (.getfield 9, 3) := by decide +kernel
theorem dX3_isDone_195 : decode cX3_isDone 195 = .ok (.iconst 4, 1) := by decide +kernel
theorem dX3_isDone_196 : decode cX3_isDone 196 = .ok (.iload_n 2, 1) := by decide +kernel
theorem dX3_isDone_197 : decode cX3_isDone 197 = .ok (.iadd, 1) := by decide +kernel
theorem dX3_isDone_198 : decode cX3_isDone 198 = .ok (.iload_n 3, 1) := by decide +kernel
theorem dX3_isDone_199 : decode cX3_isDone 199 = .ok (.iastore, 1) := by decide +kernel
theorem dX3_isDone_200 : decode cX3_isDone 200 = .ok (.iconst 1, 1) := by decide +kernel
theorem dX3_isDone_201 : decode cX3_isDone 201 = .ok (.ireturn, 1) := by decide +kernel
theorem dX3_isDone_202 : decode cX3_isDone 202 = .ok (.iload_n 2, 1) := by decide +kernel
theorem dX3_isDone_203 : decode cX3_isDone 203 = .ok (.invokestatic 118, 3) := by decide +kernel
theorem dX3_isDone_206 : decode cX3_isDone 206 = .ok (.ifCond .ne 5, 3) := by decide +kernel
theorem dX3_isDone_209 : decode cX3_isDone 209 = .ok (.iconst 0, 1) := by decide +kernel
theorem dX3_isDone_210 : decode cX3_isDone 210 = .ok (.ireturn, 1) := by decide +kernel
theorem dX3_isDone_211 : decode cX3_isDone 211 = .ok (.aload_n 0, 1) := by decide +kernel
theorem dX3_isDone_212 : decode cX3_isDone 212 = .ok (.getfield 9, 3) := by decide +kernel
theorem dX3_isDone_215 : decode cX3_isDone 215 = .ok (.iconst 2, 1) := by decide +kernel
theorem dX3_isDone_216 : decode cX3_isDone 216 = .ok (.iload_n 2, 1) := by decide +kernel
theorem dX3_isDone_217 : decode cX3_isDone 217 = .ok (.iastore, 1) := by decide +kernel
theorem dX3_isDone_218 : decode cX3_isDone 218 = .ok (.iconst 1, 1) := by decide +kernel
theorem dX3_isDone_219 : decode cX3_isDone 219 = .ok (.ireturn, 1) := by decide +kernel
theorem dX3_isDone_220 : decode cX3_isDone 220 = .ok (.iload_n 2, 1) := by decide +kernel
theorem dX3_isDone_221 : decode cX3_isDone 221 = .ok (.invokestatic 118, 3) := by decide +kernel
theorem dX3_isDone_224 : decode cX3_isDone 224 = .ok (.ifCond .ne 5, 3) := by decide +kernel
theorem dX3_isDone_227 : decode cX3_isDone 227 = .ok (.iconst 0, 1) := by decide +kernel
theorem dX3_isDone_228 : decode cX3_isDone 228 = .ok (.ireturn, 1) := by decide +kernel
theorem dX3_isDone_229 : decode cX3_isDone 229 = .ok (.aload_n 0, 1) := by decide +kernel
theorem dX3_isDone_230 : decode cX3_isDone 230 = .ok (.getfield 9, 3) := by decide +kernel
theorem dX3_isDone_233 : decode cX3_isDone 233 = .ok (.iconst 3, 1) := by decide +kernel
theorem dX3_isDone_234 : decode cX3_isDone 234 = .ok (.dup2, 1) := by decide +kernel
theorem dX3_isDone_235 : decode cX3_isDone 235 = .ok (.iaload, 1) := by decide +kernel
theorem dX3_isDone_236 : decode cX3_isDone 236 = .ok (.iconst 1, 1) := by decide +kernel
theorem dX3_isDone_237 : decode cX3_isDone 237 = .ok (.iload_n 2, 1) := by decide +kernel
theorem dX3_isDone_238 : decode cX3_isDone 238 = .ok (.ishl, 1) := by decide +kernel
theorem dX3_isDone_239 : decode cX3_isDone 239 = .ok (.ixor, 1) := by decide +kernel
theorem dX3_isDone_240 : decode cX3_isDone 240 = .ok (.iastore, 1) := by decide +kernel
theorem dX3_isDone_241 : decode cX3_isDone 241 = .ok (.iconst 1, 1) := by decide +kernel
theorem dX3_isDone_242 : decode cX3_isDone 242 = .ok (.ireturn, 1) := by decide +kernel
theorem dX3_isDone_243 : decode cX3_isDone 243 = .ok (.iload_n 2, 1) := by decide +kernel
theorem dX3_isDone_244 : decode cX3_isDone 244 = .ok (.iconst 1, 1) := by decide +kernel
theorem dX3_isDone_245 : decode cX3_isDone 245 = .ok (.bipush 60, 2) := by decide +kernel
theorem dX3_isDone_247 : decode cX3_isDone 247 = .ok (.invokestatic 42, 3) := by decide +kernel
theorem dX3_isDone_250 : decode cX3_isDone 250 = .ok (.ifCond .eq 17, 3) := by decide +kernel
theorem dX3_isDone_253 : decode cX3_isDone 253 = .ok (.aload_n 0, 1) := by decide +kernel
theorem dX3_isDone_254 : decode cX3_isDone 254 = .ok (.getfield 9, 3) := by decide +kernel
theorem dX3_isDone_257 : decode cX3_isDone 257 = .ok (.iconst 1, 1) := by decide +kernel
theorem dX3_isDone_258 : decode cX3_isDone 258 = .ok (.iaload, 1) := by decide +kernel
theorem dX3_isDone_259 : decode cX3_isDone 259 = .ok (.iload_n 2, 1) := by decide +kernel
theorem dX3_isDone_260 : decode cX3_isDone 260 = .ok (.iadd, 1) := by decide +kernel
theorem dX3_isDone_261 : decode cX3_isDone 261 = .ok (.sipush 999, 3) := by decide +kernel
theorem dX3_isDone_264 : decode cX3_isDone 264 = .ok (.if_icmp .le 5, 3) := by decide +kernel
theorem dX3_isDone_267 : decode cX3_isDone 267 = .ok (.iconst 0, 1) := by decide +kernel
theorem dX3_isDone_268 : decode cX3_isDone 268 = .ok (.ireturn, 1) := by decide +kernel
theorem dX3_isDone_269 : decode cX3_isDone 269 = .ok (.aload_n 0, 1) := by decide +kernel
theorem dX3_isDone_270 : decode cX3_isDone 270 = .ok (.getfield 9, 3) := by decide +kernel
theorem dX3_isDone_273 : decode cX3_isDone 273 = .ok (.iload_n 2, 1) := by decide +kernel
theorem dX3_isDone_274 : decode cX3_isDone 274 = .ok (.invokestatic 121, 3) := by decide +kernel
theorem dX3_isDone_277 : decode cX3_isDone 277 = .ok (.iconst 1, 1) := by decide +kernel
theorem dX3_isDone_278 : decode cX3_isDone 278 = .ok (.ireturn, 1) := by decide +kernel
set_option maxRecDepth 20000 in
theorem ggX3_hoist_X3_readsStatement : GoodIn wsX3_hoist wsX3_readsStatement := goodIn_r _ [9, 1, 10, 11, 12, 8, 13, 2, 14, 15, 16, 17, 18, 19, 20, 21, 22, 23, 24, 25, 26, 27, 28, 29, 80, 81, 82, 83, 84, 85, 86, 87, 88, 89, 90, 91, 92] (by decide +kernel) (by decide +kernel)
set_option maxRecDepth 20000 in
theorem gX3_hoist_X3_readsStatement : GoodIn wsX3_hoist (wsV RX3 124 RX3 yX3_readsStatement wsX3_readsStatement) := goodIn_app (goodIn_of _ (by decide +kernel)) ggX3_hoist_X3_readsStatement
set_option maxRecDepth 20000 in
theorem ggX3_hoist_X3_copies : GoodIn wsX3_hoist wsX3_copies := goodIn_r _ [32] (by decide +kernel) (by decide +kernel)
set_option maxRecDepth 20000 in
theorem gX3_hoist_X3_copies : GoodIn wsX3_hoist (va_wsS RX3 127 yX3_copies wsX3_copies) := goodIn_app (goodIn_of _ (by decide +kernel)) ggX3_hoist_X3_copies
set_option maxRecDepth 20000 in
theorem ggX3_hoist_X3_here : GoodIn wsX3_hoist wsX3_here := goodIn_r _ [13, 1, 2, 14, 80, 81, 82, 83, 84, 85, 86, 87, 88, 89, 90, 91, 92] (by decide +kernel) (by decide +kernel)
set_option maxRecDepth 20000 in
theorem gX3_hoist_X3_here : GoodIn wsX3_hoist (wsV RX3 93 RX3 yX3_here wsX3_here) := goodIn_app (goodIn_of _ (by decide +kernel)) ggX3_hoist_X3_here
set_option maxRecDepth 20000 in
theorem ggX3_hoist_X3_isDone : GoodIn wsX3_hoist wsX3_isDone := goodIn_r _ [36, 19, 3, 37, 38, 8, 39, 40, 41, 42, 43, 44, 45, 46, 27, 28, 29, 47, 48, 49, 50, 51, 52, 53, 54, 55, 56, 57, 58, 59, 60, 61, 62, 63, 64, 65, 66, 67, 68, 69, 70, 71, 72, 73, 74, 75, 76, 77, 78, 79, 80, 81, 82, 83, 84, 85, 86, 87, 88, 89, 90, 91, 92] (by decide +kernel) (by decide +kernel)
set_option maxRecDepth 20000 in
theorem gX3_hoist_X3_isDone : GoodIn wsX3_hoist (wsV RX3 131 RX3 yX3_isDone wsX3_isDone) := goodIn_app (goodIn_of _ (by decide +kernel)) ggX3_hoist_X3_isDone
theorem dX3_hoist_0 : decode cX3_hoist 0 = .ok (.aload_n 0, 1) := by decide +kernel
theorem dX3_hoist_1 : decode cX3_hoist 1 = .ok (.iconst 0, 1) := by decide +kernel
theorem dX3_hoist_2 : decode cX3_hoist 2 = .ok (.putfield 90, 3) := by decide +kernel
theorem dX3_hoist_5 : decode cX3_hoist 5 = .ok (.iconst 0, 1) := by decide +kernel
theorem dX3_hoist_6 : decode cX3_hoist 6 = .ok (.istore_n 1, 1) := by decide +kernel
theorem dX3_hoist_7 : decode cX3_hoist 7 = .ok (.bipush (-9), 2) := by decide +kernel
theorem dX3_hoist_9 : decode cX3_hoist 9 = .ok (.istore_n 2, 1) := by decide +kernel
theorem dX3_hoist_10 : decode cX3_hoist 10 = .ok (.aload_n 0, 1) := by decide +kernel
theorem dX3_hoist_11 : decode cX3_hoist 11 = .ok (.invokevirtual 124, 3) := by decide +kernel
theorem dX3_hoist_14 : decode cX3_hoist 14 = .ok (.ifCond .ne 12, 3) := by decide +kernel
theorem dX3_hoist_17 : decode cX3_hoist 17 = .ok (.sipush (-1000), 3) := by decide +kernel
theorem dX3_hoist_20 : decode cX3_hoist 20 = .ok (.aload_n 0, 1) := by decide +kernel
theorem dX3_hoist_21 : decode cX3_hoist 21 = .ok (.getfield 90, 3) := by decide +kernel
theorem dX3_hoist_24 : decode cX3_hoist 24 = .ok (.isub, 1) := by decide +kernel
theorem dX3_hoist_25 : decode cX3_hoist 25 = .ok (.istore_n 2, 1) := by decide +kernel
theorem dX3_hoist_26 : decode cX3_hoist 26 = .ok (.iinc 1 1, 3) := by decide +kernel
theorem dX3_hoist_29 : decode cX3_hoist 29 = .ok (.iload_n 2, 1) := by decide +kernel
theorem dX3_hoist_30 : decode cX3_hoist 30 = .ok (.bipush (-9), 2) := by decide +kernel
theorem dX3_hoist_32 : decode cX3_hoist 32 = .ok (.if_icmp .ne 14, 3) := by decide +kernel
theorem dX3_hoist_35 : decode cX3_hoist 35 = .ok (.aload_n 0, 1) := by decide +kernel
theorem dX3_hoist_36 : decode cX3_hoist 36 = .ok (.getfield 90, 3) := by decide +kernel
theorem dX3_hoist_39 : decode cX3_hoist 39 = .ok (.aload_n 0, 1) := by decide +kernel
theorem dX3_hoist_40 : decode cX3_hoist 40 = .ok (.getfield 86, 3) := by decide +kernel
theorem dX3_hoist_43 : decode cX3_hoist 43 = .ok (.if_icmp .lt (-33), 3) := by decide +kernel
theorem dX3_hoist_46 : decode cX3_hoist 46 = .ok (.aload_n 0, 1) := by decide +kernel
theorem dX3_hoist_47 : decode cX3_hoist 47 = .ok (.getfield 9, 3) := by decide +kernel
theorem dX3_hoist_50 : decode cX3_hoist 50 = .ok (.aload_n 0, 1) := by decide +kernel
theorem dX3_hoist_51 : decode cX3_hoist 51 = .ok (.getfield 19, 3) := by decide +kernel
theorem dX3_hoist_54 : decode cX3_hoist 54 = .ok (.invokestatic 127, 3) := by decide +kernel
theorem dX3_hoist_57 : decode cX3_hoist 57 = .ok (.aload_n 0, 1) := by decide +kernel
theorem dX3_hoist_58 : decode cX3_hoist 58 = .ok (.iconst 0, 1) := by decide +kernel
theorem dX3_hoist_59 : decode cX3_hoist 59 = .ok (.putfield 90, 3) := by decide +kernel
theorem dX3_hoist_62 : decode cX3_hoist 62 = .ok (.iload_n 2, 1) := by decide +kernel
theorem dX3_hoist_63 : decode cX3_hoist 63 = .ok (.bipush (-9), 2) := by decide +kernel
theorem dX3_hoist_65 : decode cX3_hoist 65 = .ok (.if_icmp .ne 63, 3) := by decide +kernel
theorem dX3_hoist_68 : decode cX3_hoist 68 = .ok (.aload_n 0, 1) := by decide +kernel
theorem dX3_hoist_69 : decode cX3_hoist 69 = .ok (.getfield 90, 3) := by decide +kernel
theorem dX3_hoist_72 : decode cX3_hoist 72 = .ok (.aload_n 0, 1) := by decide +kernel
theorem dX3_hoist_73 : decode cX3_hoist 73 = .ok (.getfield 86, 3) := by decide +kernel
theorem dX3_hoist_76 : decode cX3_hoist 76 = .ok (.if_icmp .ge 52, 3) := by decide +kernel
theorem dX3_hoist_79 : decode cX3_hoist 79 = .ok (.aload_n 0, 1) := by decide +kernel
theorem dX3_hoist_80 : decode cX3_hoist 80 = .ok (.getfield 90, 3) := by decide +kernel
theorem dX3_hoist_83 : decode cX3_hoist 83 = .ok (.istore_n 3, 1) := by decide +kernel
theorem dX3_hoist_84 : decode cX3_hoist 84 = .ok (.aload_n 0, 1) := by decide +kernel
theorem dX3_hoist_85 : decode cX3_hoist 85 = .ok (.invokevirtual 93, 3) := by decide +kernel
theorem dX3_hoist_88 : decode cX3_hoist 88 = .ok (.istore 4, 2) := by decide +kernel
theorem dX3_hoist_90 : decode cX3_hoist 90 = .ok (.aload_n 0, 1) := by decide +kernel
theorem dX3_hoist_91 : decode cX3_hoist 91 = .ok (.invokevirtual 124, 3) := by decide +kernel
theorem dX3_hoist_94 : decode cX3_hoist 94 = .ok (.istore 5, 2) := by decide +kernel
theorem dX3_hoist_96 : decode cX3_hoist 96 = .ok (.aload_n 0, 1) := by decide +kernel
theorem dX3_hoist_97 : decode cX3_hoist 97 = .ok (.iload 4, 2) := by decide +kernel
theorem dX3_hoist_99 : decode cX3_hoist 99 = .ok (.invokevirtual 131, 3) := by decide +kernel
theorem dX3_hoist_102 : decode cX3_hoist 102 = .ok (.ifCond .eq 6, 3) := by decide +kernel
theorem dX3_hoist_105 : decode cX3_hoist 105 = .ok (.goto (-43), 3) := by decide +kernel
theorem dX3_hoist_108 : decode cX3_hoist 108 = .ok (.sipush (-2000), 3) := by decide +kernel
theorem dX3_hoist_111 : decode cX3_hoist 111 = .ok (.iload_n 3, 1) := by decide +kernel
theorem dX3_hoist_112 : decode cX3_hoist 112 = .ok (.isub, 1) := by decide +kernel
theorem dX3_hoist_113 : decode cX3_hoist 113 = .ok (.istore_n 2, 1) := by decide +kernel
theorem dX3_hoist_114 : decode cX3_hoist 114 = .ok (.aload_n 0, 1) := by decide +kernel
theorem dX3_hoist_115 : decode cX3_hoist 115 = .ok (.getfield 19, 3) := by decide +kernel
theorem dX3_hoist_118 : decode cX3_hoist 118 = .ok (.aload_n 0, 1) := by decide +kernel
theorem dX3_hoist_119 : decode cX3_hoist 119 = .ok (.getfield 9, 3) := by decide +kernel
theorem dX3_hoist_122 : decode cX3_hoist 122 = .ok (.invokestatic 127, 3) := by decide +kernel
theorem dX3_hoist_125 : decode cX3_hoist 125 = .ok (.goto (-63), 3) := by decide +kernel
theorem dX3_hoist_128 : decode cX3_hoist 128 = .ok (.aload_n 0, 1) := by decide +kernel
theorem dX3_hoist_129 : decode cX3_hoist 129 = .ok (.iconst 0, 1) := by decide +kernel
theorem dX3_hoist_130 : decode cX3_hoist 130 = .ok (.putfield 86, 3) := by decide +kernel
theorem dX3_hoist_133 : decode cX3_hoist 133 = .ok (.iload_n 2, 1) := by decide +kernel
theorem dX3_hoist_134 : decode cX3_hoist 134 = .ok (.bipush (-9), 2) := by decide +kernel
theorem dX3_hoist_136 : decode cX3_hoist 136 = .ok (.if_icmp .ne 7, 3) := by decide +kernel
theorem dX3_hoist_139 : decode cX3_hoist 139 = .ok (.iload_n 1, 1) := by decide +kernel
theorem dX3_hoist_140 : decode cX3_hoist 140 = .ok (.goto 4, 3) := by decide +kernel
theorem dX3_hoist_143 : decode cX3_hoist 143 = .ok (.iload_n 2, 1) := by decide +kernel
theorem dX3_hoist_144 : decode cX3_hoist 144 = .ok (.ireturn, 1) := by decide +kernel
set_option maxRecDepth 20000 in
theorem ggX3_thing_X3_isThing : GoodIn wsX3_thing wsX3_isThing := goodIn_r _ [6, 1, 7, 8, 5, 9, 30, 31, 32, 33, 34, 35, 36, 37, 38, 39, 40, 41, 42] (by decide +kernel) (by decide +kernel)
set_option maxRecDepth 20000 in
theorem gX3_thing_X3_isThing : GoodIn wsX3_thing (wsV RX3 111 RX3 yX3_isThing wsX3_isThing) := goodIn_app (goodIn_of _ (by decide +kernel)) ggX3_thing_X3_isThing
set_option maxRecDepth 20000 in
theorem ggX3_thing_X3_no : GoodIn wsX3_thing wsX3_no := goodIn_r _ [13, 14, 30, 31, 32, 33, 34, 35, 36, 37, 38, 39, 40, 41, 42] (by decide +kernel) (by decide +kernel)
set_option maxRecDepth 20000 in
theorem gX3_thing_X3_no : GoodIn wsX3_thing (wsV RX3 36 RX3 yX3_no wsX3_no) := goodIn_app (goodIn_of _ (by decide +kernel)) ggX3_thing_X3_no
set_option maxRecDepth 20000 in
theorem ggX3_thing_X3_isIn : GoodIn wsX3_thing wsX3_isIn := goodIn_r _ [9] (by decide +kernel) (by decide +kernel)
set_option maxRecDepth 20000 in
theorem gX3_thing_X3_isIn : GoodIn wsX3_thing (va_wsS RX3 42 yX3_isIn wsX3_isIn) := goodIn_app (goodIn_of _ (by decide +kernel)) ggX3_thing_X3_isIn
set_option maxRecDepth 20000 in
theorem ggX3_thing_X3_of : GoodIn wsX3_thing wsX3_of := goodIn_r _ [17] (by decide +kernel) (by decide +kernel)
set_option maxRecDepth 20000 in
theorem gX3_thing_X3_of : GoodIn wsX3_thing (va_wsS RX3 50 yX3_of wsX3_of) := goodIn_app (goodIn_of _ (by decide +kernel)) ggX3_thing_X3_of
set_option maxRecDepth 20000 in
theorem ggX3_thing_X3_weighs : GoodIn wsX3_thing wsX3_weighs := goodIn_r _ [20, 21, 22, 5, 23, 15, 16, 17, 24, 25, 26, 27, 28, 29] (by decide +kernel) (by decide +kernel)
set_option maxRecDepth 20000 in
theorem gX3_thing_X3_weighs : GoodIn wsX3_thing (va_wsS RX3 61 yX3_weighs wsX3_weighs) := goodIn_app (goodIn_of _ (by decide +kernel)) ggX3_thing_X3_weighs
theorem dX3_thing_0 : decode cX3_thing 0 = .ok (.aload_n 0, 1) := by decide +kernel
theorem dX3_thing_1 : decode cX3_thing 1 = .ok (.iload_n 1, 1) := by decide +kernel
theorem dX3_thing_2 : decode cX3_thing 2 = .ok (.invokevirtual 111, 3) := by decide +kernel
theorem dX3_thing_5 : decode cX3_thing 5 = .ok (.ifCond .ne 9, 3) := by decide +kernel
theorem dX3_thing_8 : decode cX3_thing 8 = .ok (.aload_n 0, 1) := by decide +kernel
theorem dX3_thing_9 : decode cX3_thing 9 = .ok (.iconst (-1), 1) := by decide +kernel
theorem dX3_thing_10 : decode cX3_thing 10 = .ok (.invokevirtual 36, 3) := by decide +kernel
theorem dX3_thing_13 : decode cX3_thing 13 = .ok (.ireturn, 1) := by decide +kernel
theorem dX3_thing_14 : decode cX3_thing 14 = .ok (.iload_n 2, 1) := by decide +kernel
theorem dX3_thing_15 : decode cX3_thing 15 = .ok (.iconst 0, 1) := by decide +kernel
theorem dX3_thing_16 : decode cX3_thing 16 = .ok (.iconst 3, 1) := by decide +kernel
theorem dX3_thing_17 : decode cX3_thing 17 = .ok (.invokestatic 42, 3) := by decide +kernel
theorem dX3_thing_20 : decode cX3_thing 20 = .ok (.ifCond .eq 16, 3) := by decide +kernel
theorem dX3_thing_23 : decode cX3_thing 23 = .ok (.aload_n 0, 1) := by decide +kernel
theorem dX3_thing_24 : decode cX3_thing 24 = .ok (.getfield 9, 3) := by decide +kernel
theorem dX3_thing_27 : decode cX3_thing 27 = .ok (.iload_n 1, 1) := by decide +kernel
theorem dX3_thing_28 : decode cX3_thing 28 = .ok (.iload_n 2, 1) := by decide +kernel
theorem dX3_thing_29 : decode cX3_thing 29 = .ok (.invokestatic 50, 3) := by decide +kernel
theorem dX3_thing_32 : decode cX3_thing 32 = .ok (.iaload, 1) := by decide +kernel
theorem dX3_thing_33 : decode cX3_thing 33 = .ok (.goto 25, 3) := by decide +kernel
theorem dX3_thing_36 : decode cX3_thing 36 = .ok (.iload_n 2, 1) := by decide +kernel
theorem dX3_thing_37 : decode cX3_thing 37 = .ok (.iconst 4, 1) := by decide +kernel
theorem dX3_thing_38 : decode cX3_thing 38 = .ok (.if_icmp .ne 14, 3) := by decide +kernel
theorem dX3_thing_41 : decode cX3_thing 41 = .ok (.aload_n 0, 1) := by decide +kernel
theorem dX3_thing_42 : decode cX3_thing 42 = .ok (.getfield 9, 3) := by decide +kernel
theorem dX3_thing_45 : decode cX3_thing 45 = .ok (.iload_n 1, 1) := by decide +kernel
theorem dX3_thing_46 : decode cX3_thing 46 = .ok (.invokestatic 61, 3) := by decide +kernel
theorem dX3_thing_49 : decode cX3_thing 49 = .ok (.goto 9, 3) := by decide +kernel
theorem dX3_thing_52 : decode cX3_thing 52 = .ok (.aload_n 0, 1) := by decide +kernel
theorem dX3_thing_53 : decode cX3_thing 53 = .ok (.bipush (-2), 2) := by decide +kernel
theorem dX3_thing_55 : decode cX3_thing 55 = .ok (.invokevirtual 36, 3) := by decide +kernel
theorem dX3_thing_58 : decode cX3_thing 58 = .ok (.ireturn, 1) := by decide +kernel
set_option maxRecDepth 20000 in
theorem ggX3_onSide_X3_of : GoodIn wsX3_onSide wsX3_of := goodIn_r _ [5] (by decide +kernel) (by decide +kernel)
set_option maxRecDepth 20000 in
theorem gX3_onSide_X3_of : GoodIn wsX3_onSide (va_wsS RX3 50 yX3_of wsX3_of) := goodIn_app (goodIn_of _ (by decide +kernel)) ggX3_onSide_X3_of
theorem dX3_onSide_0 : decode cX3_onSide 0 = .ok (.iconst 0, 1) := by decide +kernel
theorem dX3_onSide_1 : decode cX3_onSide 1 = .ok (.istore_n 2, 1) := by decide +kernel
theorem dX3_onSide_2 : decode cX3_onSide 2 = .ok (.iconst 0, 1) := by decide +kernel
theorem dX3_onSide_3 : decode cX3_onSide 3 = .ok (.istore_n 3, 1) := by decide +kernel
theorem dX3_onSide_4 : decode cX3_onSide 4 = .ok (.iload_n 3, 1) := by decide +kernel
theorem dX3_onSide_5 : decode cX3_onSide 5 = .ok (.aload_n 0, 1) := by decide +kernel
theorem dX3_onSide_6 : decode cX3_onSide 6 = .ok (.getfield 9, 3) := by decide +kernel
theorem dX3_onSide_9 : decode cX3_onSide 9 = .ok (.iconst 0, 1) := by decide +kernel
theorem dX3_onSide_10 : decode cX3_onSide 10 = .ok (.iaload, 1) := by decide +kernel
theorem dX3_onSide_11 : decode cX3_onSide 11 = .ok (.if_icmp .ge 33, 3) := by decide +kernel
theorem dX3_onSide_14 : decode cX3_onSide 14 = .ok (.iload_n 2, 1) := by decide +kernel
theorem dX3_onSide_15 : decode cX3_onSide 15 = .ok (.aload_n 0, 1) := by decide +kernel
theorem dX3_onSide_16 : decode cX3_onSide 16 = .ok (.getfield 9, 3) := by decide +kernel
theorem dX3_onSide_19 : decode cX3_onSide 19 = .ok (.iload_n 3, 1) := by decide +kernel
theorem dX3_onSide_20 : decode cX3_onSide 20 = .ok (.iconst 2, 1) := by decide +kernel
theorem dX3_onSide_21 : decode cX3_onSide 21 = .ok (.invokestatic 50, 3) := by decide +kernel
theorem dX3_onSide_24 : decode cX3_onSide 24 = .ok (.iaload, 1) := by decide +kernel
theorem dX3_onSide_25 : decode cX3_onSide 25 = .ok (.iload_n 1, 1) := by decide +kernel
theorem dX3_onSide_26 : decode cX3_onSide 26 = .ok (.if_icmp .ne 9, 3) := by decide +kernel
theorem dX3_onSide_29 : decode cX3_onSide 29 = .ok (.iconst 1, 1) := by decide +kernel
theorem dX3_onSide_30 : decode cX3_onSide 30 = .ok (.iload_n 3, 1) := by decide +kernel
theorem dX3_onSide_31 : decode cX3_onSide 31 = .ok (.ishl, 1) := by decide +kernel
theorem dX3_onSide_32 : decode cX3_onSide 32 = .ok (.goto 4, 3) := by decide +kernel
theorem dX3_onSide_35 : decode cX3_onSide 35 = .ok (.iconst 0, 1) := by decide +kernel
theorem dX3_onSide_36 : decode cX3_onSide 36 = .ok (.ior, 1) := by decide +kernel
theorem dX3_onSide_37 : decode cX3_onSide 37 = .ok (.istore_n 2, 1) := by decide +kernel
theorem dX3_onSide_38 : decode cX3_onSide 38 = .ok (.iinc 3 1, 3) := by decide +kernel
theorem dX3_onSide_41 : decode cX3_onSide 41 = .ok (.goto (-37), 3) := by decide +kernel
theorem dX3_onSide_44 : decode cX3_onSide 44 = .ok (.iload_n 2, 1) := by decide +kernel
theorem dX3_onSide_45 : decode cX3_onSide 45 = .ok (.ireturn, 1) := by decide +kernel
set_option maxRecDepth 20000 in
theorem ggX3_nearestDoor_X3_has : GoodIn wsX3_nearestDoor wsX3_has := goodIn_r _ [5] (by decide +kernel) (by decide +kernel)
set_option maxRecDepth 20000 in
theorem gX3_nearestDoor_X3_has : GoodIn wsX3_nearestDoor (va_wsS RX3 71 yX3_has wsX3_has) := goodIn_app (goodIn_of _ (by decide +kernel)) ggX3_nearestDoor_X3_has
set_option maxRecDepth 20000 in
theorem ggX3_nearestDoor_X3_sized : GoodIn wsX3_nearestDoor wsX3_sized := goodIn_r _ [8] (by decide +kernel) (by decide +kernel)
set_option maxRecDepth 20000 in
theorem gX3_nearestDoor_X3_sized : GoodIn wsX3_nearestDoor (va_wsS RX3 75 yX3_sized wsX3_sized) := goodIn_app (goodIn_of _ (by decide +kernel)) ggX3_nearestDoor_X3_sized
theorem dX3_nearestDoor_0 : decode cX3_nearestDoor 0 = .ok (.bipush (-9), 2) := by decide +kernel
theorem dX3_nearestDoor_2 : decode cX3_nearestDoor 2 = .ok (.istore_n 2, 1) := by decide +kernel
theorem dX3_nearestDoor_3 : decode cX3_nearestDoor 3 = .ok (.iconst 0, 1) := by decide +kernel
theorem dX3_nearestDoor_4 : decode cX3_nearestDoor 4 = .ok (.istore_n 3, 1) := by decide +kernel
theorem dX3_nearestDoor_5 : decode cX3_nearestDoor 5 = .ok (.iload_n 3, 1) := by decide +kernel
theorem dX3_nearestDoor_6 : decode cX3_nearestDoor 6 = .ok (.bipush 20, 2) := by decide +kernel
theorem dX3_nearestDoor_8 : decode cX3_nearestDoor 8 = .ok (.if_icmp .gt 43, 3) := by decide +kernel
theorem dX3_nearestDoor_11 : decode cX3_nearestDoor 11 = .ok (.aload_n 0, 1) := by decide +kernel
theorem dX3_nearestDoor_12 : decode cX3_nearestDoor 12 = .ok (.getfield 9, 3) := by decide +kernel
theorem dX3_nearestDoor_15 : decode cX3_nearestDoor 15 = .ok (.iconst 3, 1) := by decide +kernel
theorem dX3_nearestDoor_16 : decode cX3_nearestDoor 16 = .ok (.iaload, 1) := by decide +kernel
theorem dX3_nearestDoor_17 : decode cX3_nearestDoor 17 = .ok (.iload_n 3, 1) := by decide +kernel
theorem dX3_nearestDoor_18 : decode cX3_nearestDoor 18 = .ok (.invokestatic 71, 3) := by decide +kernel
theorem dX3_nearestDoor_21 : decode cX3_nearestDoor 21 = .ok (.ifCond .eq 24, 3) := by decide +kernel
theorem dX3_nearestDoor_24 : decode cX3_nearestDoor 24 = .ok (.iload_n 2, 1) := by decide +kernel
theorem dX3_nearestDoor_25 : decode cX3_nearestDoor 25 = .ok (.ifCond .lt 18, 3) := by decide +kernel
theorem dX3_nearestDoor_28 : decode cX3_nearestDoor 28 = .ok (.iload_n 3, 1) := by decide +kernel
theorem dX3_nearestDoor_29 : decode cX3_nearestDoor 29 = .ok (.iload_n 1, 1) := by decide +kernel
theorem dX3_nearestDoor_30 : decode cX3_nearestDoor 30 = .ok (.isub, 1) := by decide +kernel
theorem dX3_nearestDoor_31 : decode cX3_nearestDoor 31 = .ok (.invokestatic 75, 3) := by decide +kernel
theorem dX3_nearestDoor_34 : decode cX3_nearestDoor 34 = .ok (.iload_n 2, 1) := by decide +kernel
theorem dX3_nearestDoor_35 : decode cX3_nearestDoor 35 = .ok (.iload_n 1, 1) := by decide +kernel
theorem dX3_nearestDoor_36 : decode cX3_nearestDoor 36 = .ok (.isub, 1) := by decide +kernel
theorem dX3_nearestDoor_37 : decode cX3_nearestDoor 37 = .ok (.invokestatic 75, 3) := by decide +kernel
theorem dX3_nearestDoor_40 : decode cX3_nearestDoor 40 = .ok (.if_icmp .ge 5, 3) := by decide +kernel
theorem dX3_nearestDoor_43 : decode cX3_nearestDoor 43 = .ok (.iload_n 3, 1) := by decide +kernel
theorem dX3_nearestDoor_44 : decode cX3_nearestDoor 44 = .ok (.istore_n 2, 1) := by decide +kernel
theorem dX3_nearestDoor_45 : decode cX3_nearestDoor 45 = .ok (.iinc 3 1, 3) := by decide +kernel
theorem dX3_nearestDoor_48 : decode cX3_nearestDoor 48 = .ok (.goto (-43), 3) := by decide +kernel
theorem dX3_nearestDoor_51 : decode cX3_nearestDoor 51 = .ok (.iload_n 2, 1) := by decide +kernel
theorem dX3_nearestDoor_52 : decode cX3_nearestDoor 52 = .ok (.ireturn, 1) := by decide +kernel
set_option maxRecDepth 20000 in
theorem ggX3_side_X3_isSide : GoodIn wsX3_side wsX3_isSide := goodIn_r _ [5, 6, 7, 4, 8] (by decide +kernel) (by decide +kernel)
set_option maxRecDepth 20000 in
theorem gX3_side_X3_isSide : GoodIn wsX3_side (va_wsS RX3 115 yX3_isSide wsX3_isSide) := goodIn_app (goodIn_of _ (by decide +kernel)) ggX3_side_X3_isSide
set_option maxRecDepth 20000 in
theorem ggX3_side_X3_no : GoodIn wsX3_side wsX3_no := goodIn_r _ [12, 13, 49, 50, 51, 52, 53, 54, 55, 56, 57, 58, 59, 60, 61] (by decide +kernel) (by decide +kernel)
set_option maxRecDepth 20000 in
theorem gX3_side_X3_no : GoodIn wsX3_side (wsV RX3 36 RX3 yX3_no wsX3_no) := goodIn_app (goodIn_of _ (by decide +kernel)) ggX3_side_X3_no
set_option maxRecDepth 20000 in
theorem ggX3_side_X3_floorOf : GoodIn wsX3_side wsX3_floorOf := goodIn_r _ [16] (by decide +kernel) (by decide +kernel)
set_option maxRecDepth 20000 in
theorem gX3_side_X3_floorOf : GoodIn wsX3_side (va_wsS RX3 68 yX3_floorOf wsX3_floorOf) := goodIn_app (goodIn_of _ (by decide +kernel)) ggX3_side_X3_floorOf
set_option maxRecDepth 20000 in
theorem ggX3_side_X3_nearestDoor : GoodIn wsX3_side wsX3_nearestDoor := goodIn_r _ [20, 1, 21, 22, 4, 23, 24, 25, 26, 49, 50, 51, 52, 53, 54, 55, 56, 57, 58, 59, 60, 61] (by decide +kernel) (by decide +kernel)
set_option maxRecDepth 20000 in
theorem gX3_side_X3_nearestDoor : GoodIn wsX3_side (wsV RX3 134 RX3 yX3_nearestDoor wsX3_nearestDoor) := goodIn_app (goodIn_of _ (by decide +kernel)) ggX3_side_X3_nearestDoor
set_option maxRecDepth 20000 in
theorem ggX3_side_X3_weight : GoodIn wsX3_side wsX3_weight := goodIn_r _ [29, 30, 31, 4, 32, 33, 34, 35, 36, 37, 38, 39, 40, 41, 42, 43, 44] (by decide +kernel) (by decide +kernel)
set_option maxRecDepth 20000 in
theorem gX3_side_X3_weight : GoodIn wsX3_side (va_wsS RX3 65 yX3_weight wsX3_weight) := goodIn_app (goodIn_of _ (by decide +kernel)) ggX3_side_X3_weight
set_option maxRecDepth 20000 in
theorem ggX3_side_X3_onSide : GoodIn wsX3_side wsX3_onSide := goodIn_r _ [48, 1, 30, 31, 4, 32, 49, 50, 51, 52, 53, 54, 55, 56, 57, 58, 59, 60, 61] (by decide +kernel) (by decide +kernel)
set_option maxRecDepth 20000 in
theorem gX3_side_X3_onSide : GoodIn wsX3_side (wsV RX3 137 RX3 yX3_onSide wsX3_onSide) := goodIn_app (goodIn_of _ (by decide +kernel)) ggX3_side_X3_onSide
set_option maxRecDepth 20000 in
theorem ggX3_side_X3_sized : GoodIn wsX3_side wsX3_sized := goodIn_r _ [26] (by decide +kernel) (by decide +kernel)
set_option maxRecDepth 20000 in
theorem gX3_side_X3_sized : GoodIn wsX3_side (va_wsS RX3 75 yX3_sized wsX3_sized) := goodIn_app (goodIn_of _ (by decide +kernel)) ggX3_side_X3_sized
theorem dX3_side_0 : decode cX3_side 0 = .ok (.iload_n 1, 1) := by decide +kernel
theorem dX3_side_1 : decode cX3_side 1 = .ok (.invokestatic 115, 3) := by decide +kernel
theorem dX3_side_4 : decode cX3_side 4 = .ok (.ifCond .ne 9, 3) := by decide +kernel
theorem dX3_side_7 : decode cX3_side 7 = .ok (.aload_n 0, 1) := by decide +kernel
theorem dX3_side_8 : decode cX3_side 8 = .ok (.iconst (-1), 1) := by decide +kernel
theorem dX3_side_9 : decode cX3_side 9 = .ok (.invokevirtual 36, 3) := by decide +kernel
theorem dX3_side_12 : decode cX3_side 12 = .ok (.ireturn, 1) := by decide +kernel
theorem dX3_side_13 : decode cX3_side 13 = .ok (.aload_n 0, 1) := by decide +kernel
theorem dX3_side_14 : decode cX3_side 14 = .ok (.getfield 9, 3) := by decide +kernel
theorem dX3_side_17 : decode cX3_side 17 = .ok (.iload_n 1, 1) := by decide +kernel
theorem dX3_side_18 : decode cX3_side 18 = .ok (.invokestatic 68, 3) := by decide +kernel
theorem dX3_side_21 : decode cX3_side 21 = .ok (.istore_n 3, 1) := by decide +kernel
theorem dX3_side_22 : decode cX3_side 22 = .ok (.aload_n 0, 1) := by decide +kernel
theorem dX3_side_23 : decode cX3_side 23 = .ok (.iload_n 3, 1) := by decide +kernel
theorem dX3_side_24 : decode cX3_side 24 = .ok (.invokevirtual 134, 3) := by decide +kernel
theorem dX3_side_27 : decode cX3_side 27 = .ok (.istore 4, 2) := by decide +kernel
theorem dX3_side_29 : decode cX3_side 29 = .ok (.iload_n 2, 1) := by decide +kernel
theorem dX3_side_30 : decode cX3_side 30 = .ok (.tableswitch 85 0 5 #[38, 40, 49, 58, 64, 67], 38) := by decide +kernel
theorem dX3_side_68 : decode cX3_side 68 = .ok (.iload_n 3, 1) := by decide +kernel
theorem dX3_side_69 : decode cX3_side 69 = .ok (.ireturn, 1) := by decide +kernel
theorem dX3_side_70 : decode cX3_side 70 = .ok (.aload_n 0, 1) := by decide +kernel
theorem dX3_side_71 : decode cX3_side 71 = .ok (.getfield 9, 3) := by decide +kernel
theorem dX3_side_74 : decode cX3_side 74 = .ok (.iconst 4, 1) := by decide +kernel
theorem dX3_side_75 : decode cX3_side 75 = .ok (.iload_n 1, 1) := by decide +kernel
theorem dX3_side_76 : decode cX3_side 76 = .ok (.iadd, 1) := by decide +kernel
theorem dX3_side_77 : decode cX3_side 77 = .ok (.iaload, 1) := by decide +kernel
theorem dX3_side_78 : decode cX3_side 78 = .ok (.ireturn, 1) := by decide +kernel
theorem dX3_side_79 : decode cX3_side 79 = .ok (.aload_n 0, 1) := by decide +kernel
theorem dX3_side_80 : decode cX3_side 80 = .ok (.getfield 9, 3) := by decide +kernel
theorem dX3_side_83 : decode cX3_side 83 = .ok (.iload_n 1, 1) := by decide +kernel
theorem dX3_side_84 : decode cX3_side 84 = .ok (.invokestatic 65, 3) := by decide +kernel
theorem dX3_side_87 : decode cX3_side 87 = .ok (.ireturn, 1) := by decide +kernel
theorem dX3_side_88 : decode cX3_side 88 = .ok (.aload_n 0, 1) := by decide +kernel
theorem dX3_side_89 : decode cX3_side 89 = .ok (.iload_n 1, 1) := by decide +kernel
theorem dX3_side_90 : decode cX3_side 90 = .ok (.invokevirtual 137, 3) := by decide +kernel
theorem dX3_side_93 : decode cX3_side 93 = .ok (.ireturn, 1) := by decide +kernel
theorem dX3_side_94 : decode cX3_side 94 = .ok (.iload 4, 2) := by decide +kernel
theorem dX3_side_96 : decode cX3_side 96 = .ok (.ireturn, 1) := by decide +kernel
theorem dX3_side_97 : decode cX3_side 97 = .ok (.iload 4, 2) := by decide +kernel
theorem dX3_side_99 : decode cX3_side 99 = .ok (.ifCond .ge 8, 3) := by decide +kernel
theorem dX3_side_102 : decode cX3_side 102 = .ok (.bipush (-9), 2) := by decide +kernel
theorem dX3_side_104 : decode cX3_side 104 = .ok (.goto 10, 3) := by decide +kernel
theorem dX3_side_107 : decode cX3_side 107 = .ok (.iload 4, 2) := by decide +kernel
theorem dX3_side_109 : decode cX3_side 109 = .ok (.iload_n 3, 1) := by decide +kernel
theorem dX3_side_110 : decode cX3_side 110 = .ok (.isub, 1) := by decide +kernel
theorem dX3_side_111 : decode cX3_side 111 = .ok (.invokestatic 75, 3) := by decide +kernel
theorem dX3_side_114 : decode cX3_side 114 = .ok (.ireturn, 1) := by decide +kernel
theorem dX3_side_115 : decode cX3_side 115 = .ok (.aload_n 0, 1) := by decide +kernel
theorem dX3_side_116 : decode cX3_side 116 = .ok (.bipush (-2), 2) := by decide +kernel
theorem dX3_side_118 : decode cX3_side 118 = .ok (.invokevirtual 36, 3) := by decide +kernel
theorem dX3_side_121 : decode cX3_side 121 = .ok (.ireturn, 1) := by decide +kernel
set_option maxRecDepth 20000 in
theorem ggX3_hangs_X3_isThing : GoodIn wsX3_hangs wsX3_isThing := goodIn_r _ [6, 1, 7, 8, 5, 9, 21, 22, 23, 24, 25, 26, 27, 28, 29, 30, 31, 32, 33] (by decide +kernel) (by decide +kernel)
set_option maxRecDepth 20000 in
theorem gX3_hangs_X3_isThing : GoodIn wsX3_hangs (wsV RX3 111 RX3 yX3_isThing wsX3_isThing) := goodIn_app (goodIn_of _ (by decide +kernel)) ggX3_hangs_X3_isThing
set_option maxRecDepth 20000 in
theorem ggX3_hangs_X3_no : GoodIn wsX3_hangs wsX3_no := goodIn_r _ [13, 14, 21, 22, 23, 24, 25, 26, 27, 28, 29, 30, 31, 32, 33] (by decide +kernel) (by decide +kernel)
set_option maxRecDepth 20000 in
theorem gX3_hangs_X3_no : GoodIn wsX3_hangs (wsV RX3 36 RX3 yX3_no wsX3_no) := goodIn_app (goodIn_of _ (by decide +kernel)) ggX3_hangs_X3_no
set_option maxRecDepth 20000 in
theorem ggX3_hangs_X3_isIn : GoodIn wsX3_hangs wsX3_isIn := goodIn_r _ [9] (by decide +kernel) (by decide +kernel)
set_option maxRecDepth 20000 in
theorem gX3_hangs_X3_isIn : GoodIn wsX3_hangs (va_wsS RX3 42 yX3_isIn wsX3_isIn) := goodIn_app (goodIn_of _ (by decide +kernel)) ggX3_hangs_X3_isIn
set_option maxRecDepth 20000 in
theorem ggX3_hangs_X3_of : GoodIn wsX3_hangs wsX3_of := goodIn_r _ [17] (by decide +kernel) (by decide +kernel)
set_option maxRecDepth 20000 in
theorem gX3_hangs_X3_of : GoodIn wsX3_hangs (va_wsS RX3 50 yX3_of wsX3_of) := goodIn_app (goodIn_of _ (by decide +kernel)) ggX3_hangs_X3_of
set_option maxRecDepth 20000 in
theorem ggX3_hangs_X3_hangsIn : GoodIn wsX3_hangs wsX3_hangsIn := goodIn_r _ [20, 15, 16, 5, 17] (by decide +kernel) (by decide +kernel)
set_option maxRecDepth 20000 in
theorem gX3_hangs_X3_hangsIn : GoodIn wsX3_hangs (va_wsS RX3 107 yX3_hangsIn wsX3_hangsIn) := goodIn_app (goodIn_of _ (by decide +kernel)) ggX3_hangs_X3_hangsIn
theorem dX3_hangs_0 : decode cX3_hangs 0 = .ok (.aload_n 0, 1) := by decide +kernel
theorem dX3_hangs_1 : decode cX3_hangs 1 = .ok (.iload_n 1, 1) := by decide +kernel
theorem dX3_hangs_2 : decode cX3_hangs 2 = .ok (.invokevirtual 111, 3) := by decide +kernel
theorem dX3_hangs_5 : decode cX3_hangs 5 = .ok (.ifCond .ne 9, 3) := by decide +kernel
theorem dX3_hangs_8 : decode cX3_hangs 8 = .ok (.aload_n 0, 1) := by decide +kernel
theorem dX3_hangs_9 : decode cX3_hangs 9 = .ok (.iconst (-1), 1) := by decide +kernel
theorem dX3_hangs_10 : decode cX3_hangs 10 = .ok (.invokevirtual 36, 3) := by decide +kernel
theorem dX3_hangs_13 : decode cX3_hangs 13 = .ok (.ireturn, 1) := by decide +kernel
theorem dX3_hangs_14 : decode cX3_hangs 14 = .ok (.iload_n 2, 1) := by decide +kernel
theorem dX3_hangs_15 : decode cX3_hangs 15 = .ok (.iconst 0, 1) := by decide +kernel
theorem dX3_hangs_16 : decode cX3_hangs 16 = .ok (.iconst 2, 1) := by decide +kernel
theorem dX3_hangs_17 : decode cX3_hangs 17 = .ok (.invokestatic 42, 3) := by decide +kernel
theorem dX3_hangs_20 : decode cX3_hangs 20 = .ok (.ifCond .ne 10, 3) := by decide +kernel
theorem dX3_hangs_23 : decode cX3_hangs 23 = .ok (.aload_n 0, 1) := by decide +kernel
theorem dX3_hangs_24 : decode cX3_hangs 24 = .ok (.bipush (-2), 2) := by decide +kernel
theorem dX3_hangs_26 : decode cX3_hangs 26 = .ok (.invokevirtual 36, 3) := by decide +kernel
theorem dX3_hangs_29 : decode cX3_hangs 29 = .ok (.ireturn, 1) := by decide +kernel
theorem dX3_hangs_30 : decode cX3_hangs 30 = .ok (.aload_n 0, 1) := by decide +kernel
theorem dX3_hangs_31 : decode cX3_hangs 31 = .ok (.getfield 9, 3) := by decide +kernel
theorem dX3_hangs_34 : decode cX3_hangs 34 = .ok (.iload_n 1, 1) := by decide +kernel
theorem dX3_hangs_35 : decode cX3_hangs 35 = .ok (.iconst 2, 1) := by decide +kernel
theorem dX3_hangs_36 : decode cX3_hangs 36 = .ok (.invokestatic 50, 3) := by decide +kernel
theorem dX3_hangs_39 : decode cX3_hangs 39 = .ok (.iaload, 1) := by decide +kernel
theorem dX3_hangs_40 : decode cX3_hangs 40 = .ok (.istore_n 3, 1) := by decide +kernel
theorem dX3_hangs_41 : decode cX3_hangs 41 = .ok (.aload_n 0, 1) := by decide +kernel
theorem dX3_hangs_42 : decode cX3_hangs 42 = .ok (.getfield 9, 3) := by decide +kernel
theorem dX3_hangs_45 : decode cX3_hangs 45 = .ok (.iload_n 1, 1) := by decide +kernel
theorem dX3_hangs_46 : decode cX3_hangs 46 = .ok (.iload_n 2, 1) := by decide +kernel
theorem dX3_hangs_47 : decode cX3_hangs 47 = .ok (.invokestatic 107, 3) := by decide +kernel
theorem dX3_hangs_50 : decode cX3_hangs 50 = .ok (.iload_n 3, 1) := by decide +kernel
theorem dX3_hangs_51 : decode cX3_hangs 51 = .ok (.ireturn, 1) := by decide +kernel
theorem dX3_wrongBy_0 : decode cX3_wrongBy 0 = .ok (.iload_n 0, 1) := by decide +kernel
theorem dX3_wrongBy_1 : decode cX3_wrongBy 1 = .ok (.iload_n 1, 1) := by decide +kernel
theorem dX3_wrongBy_2 : decode cX3_wrongBy 2 = .ok (.if_icmp .ge 8, 3) := by decide +kernel
theorem dX3_wrongBy_5 : decode cX3_wrongBy 5 = .ok (.bipush (-4), 2) := by decide +kernel
theorem dX3_wrongBy_7 : decode cX3_wrongBy 7 = .ok (.goto 14, 3) := by decide +kernel
theorem dX3_wrongBy_10 : decode cX3_wrongBy 10 = .ok (.iload_n 0, 1) := by decide +kernel
theorem dX3_wrongBy_11 : decode cX3_wrongBy 11 = .ok (.iload_n 2, 1) := by decide +kernel
theorem dX3_wrongBy_12 : decode cX3_wrongBy 12 = .ok (.if_icmp .le 8, 3) := by decide +kernel
theorem dX3_wrongBy_15 : decode cX3_wrongBy 15 = .ok (.bipush (-6), 2) := by decide +kernel
theorem dX3_wrongBy_17 : decode cX3_wrongBy 17 = .ok (.goto 4, 3) := by decide +kernel
theorem dX3_wrongBy_20 : decode cX3_wrongBy 20 = .ok (.iconst 0, 1) := by decide +kernel
theorem dX3_wrongBy_21 : decode cX3_wrongBy 21 = .ok (.ireturn, 1) := by decide +kernel
theorem dX3_sets_0 : decode cX3_sets 0 = .ok (.aload_n 0, 1) := by decide +kernel
theorem dX3_sets_1 : decode cX3_sets 1 = .ok (.getfield 9, 3) := by decide +kernel
theorem dX3_sets_4 : decode cX3_sets 4 = .ok (.iload_n 1, 1) := by decide +kernel
theorem dX3_sets_5 : decode cX3_sets 5 = .ok (.iaload, 1) := by decide +kernel
theorem dX3_sets_6 : decode cX3_sets 6 = .ok (.istore_n 3, 1) := by decide +kernel
theorem dX3_sets_7 : decode cX3_sets 7 = .ok (.aload_n 0, 1) := by decide +kernel
theorem dX3_sets_8 : decode cX3_sets 8 = .ok (.getfield 9, 3) := by decide +kernel
theorem dX3_sets_11 : decode cX3_sets 11 = .ok (.iload_n 1, 1) := by decide +kernel
theorem dX3_sets_12 : decode cX3_sets 12 = .ok (.iload_n 2, 1) := by decide +kernel
theorem dX3_sets_13 : decode cX3_sets 13 = .ok (.iastore, 1) := by decide +kernel
theorem dX3_sets_14 : decode cX3_sets 14 = .ok (.iload_n 3, 1) := by decide +kernel
theorem dX3_sets_15 : decode cX3_sets 15 = .ok (.ireturn, 1) := by decide +kernel
set_option maxRecDepth 20000 in
theorem ggX3_loads_X3_isSide : GoodIn wsX3_loads wsX3_isSide := goodIn_r _ [4, 5, 6, 3, 7] (by decide +kernel) (by decide +kernel)
set_option maxRecDepth 20000 in
theorem gX3_loads_X3_isSide : GoodIn wsX3_loads (va_wsS RX3 115 yX3_isSide wsX3_isSide) := goodIn_app (goodIn_of _ (by decide +kernel)) ggX3_loads_X3_isSide
set_option maxRecDepth 20000 in
theorem ggX3_loads_X3_wrongBy : GoodIn wsX3_loads wsX3_wrongBy := goodIn_r _ [10] (by decide +kernel) (by decide +kernel)
set_option maxRecDepth 20000 in
theorem gX3_loads_X3_wrongBy : GoodIn wsX3_loads (va_wsS RX3 140 yX3_wrongBy wsX3_wrongBy) := goodIn_app (goodIn_of _ (by decide +kernel)) ggX3_loads_X3_wrongBy
set_option maxRecDepth 20000 in
theorem ggX3_loads_X3_no : GoodIn wsX3_loads wsX3_no := goodIn_r _ [14, 15, 21, 22, 23, 24, 25, 26, 27, 28, 29, 30, 31, 32, 33] (by decide +kernel) (by decide +kernel)
set_option maxRecDepth 20000 in
theorem gX3_loads_X3_no : GoodIn wsX3_loads (wsV RX3 36 RX3 yX3_no wsX3_no) := goodIn_app (goodIn_of _ (by decide +kernel)) ggX3_loads_X3_no
set_option maxRecDepth 20000 in
theorem ggX3_loads_X3_sets : GoodIn wsX3_loads wsX3_sets := goodIn_r _ [19, 20, 21, 22, 23, 24, 25, 26, 27, 28, 29, 30, 31, 32, 33] (by decide +kernel) (by decide +kernel)
set_option maxRecDepth 20000 in
theorem gX3_loads_X3_sets : GoodIn wsX3_loads (wsV RX3 144 RX3 yX3_sets wsX3_sets) := goodIn_app (goodIn_of _ (by decide +kernel)) ggX3_loads_X3_sets
theorem dX3_loads_0 : decode cX3_loads 0 = .ok (.iload_n 1, 1) := by decide +kernel
theorem dX3_loads_1 : decode cX3_loads 1 = .ok (.invokestatic 115, 3) := by decide +kernel
theorem dX3_loads_4 : decode cX3_loads 4 = .ok (.ifCond .eq 13, 3) := by decide +kernel
theorem dX3_loads_7 : decode cX3_loads 7 = .ok (.iload_n 2, 1) := by decide +kernel
theorem dX3_loads_8 : decode cX3_loads 8 = .ok (.iconst 0, 1) := by decide +kernel
theorem dX3_loads_9 : decode cX3_loads 9 = .ok (.bipush 50, 2) := by decide +kernel
theorem dX3_loads_11 : decode cX3_loads 11 = .ok (.invokestatic 140, 3) := by decide +kernel
theorem dX3_loads_14 : decode cX3_loads 14 = .ok (.goto 4, 3) := by decide +kernel
theorem dX3_loads_17 : decode cX3_loads 17 = .ok (.iconst (-1), 1) := by decide +kernel
theorem dX3_loads_18 : decode cX3_loads 18 = .ok (.istore_n 3, 1) := by decide +kernel
theorem dX3_loads_19 : decode cX3_loads 19 = .ok (.iload_n 3, 1) := by decide +kernel
theorem dX3_loads_20 : decode cX3_loads 20 = .ok (.ifCond .eq 11, 3) := by decide +kernel
theorem dX3_loads_23 : decode cX3_loads 23 = .ok (.aload_n 0, 1) := by decide +kernel
theorem dX3_loads_24 : decode cX3_loads 24 = .ok (.iload_n 3, 1) := by decide +kernel
theorem dX3_loads_25 : decode cX3_loads 25 = .ok (.invokevirtual 36, 3) := by decide +kernel
theorem dX3_loads_28 : decode cX3_loads 28 = .ok (.goto 11, 3) := by decide +kernel
theorem dX3_loads_31 : decode cX3_loads 31 = .ok (.aload_n 0, 1) := by decide +kernel
theorem dX3_loads_32 : decode cX3_loads 32 = .ok (.iconst 4, 1) := by decide +kernel
theorem dX3_loads_33 : decode cX3_loads 33 = .ok (.iload_n 1, 1) := by decide +kernel
theorem dX3_loads_34 : decode cX3_loads 34 = .ok (.iadd, 1) := by decide +kernel
theorem dX3_loads_35 : decode cX3_loads 35 = .ok (.iload_n 2, 1) := by decide +kernel
theorem dX3_loads_36 : decode cX3_loads 36 = .ok (.invokevirtual 144, 3) := by decide +kernel
theorem dX3_loads_39 : decode cX3_loads 39 = .ok (.ireturn, 1) := by decide +kernel
set_option maxRecDepth 20000 in
theorem ggX3_lifts_X3_isFloor : GoodIn wsX3_lifts wsX3_isFloor := goodIn_r _ [4, 5, 6, 3, 7] (by decide +kernel) (by decide +kernel)
set_option maxRecDepth 20000 in
theorem gX3_lifts_X3_isFloor : GoodIn wsX3_lifts (va_wsS RX3 118 yX3_isFloor wsX3_isFloor) := goodIn_app (goodIn_of _ (by decide +kernel)) ggX3_lifts_X3_isFloor
set_option maxRecDepth 20000 in
theorem ggX3_lifts_X3_sets : GoodIn wsX3_lifts wsX3_sets := goodIn_r _ [11, 12, 18, 19, 20, 21, 22, 23, 24, 25, 26, 27, 28, 29, 30] (by decide +kernel) (by decide +kernel)
set_option maxRecDepth 20000 in
theorem gX3_lifts_X3_sets : GoodIn wsX3_lifts (wsV RX3 144 RX3 yX3_sets wsX3_sets) := goodIn_app (goodIn_of _ (by decide +kernel)) ggX3_lifts_X3_sets
set_option maxRecDepth 20000 in
theorem ggX3_lifts_X3_no : GoodIn wsX3_lifts wsX3_no := goodIn_r _ [16, 17, 18, 19, 20, 21, 22, 23, 24, 25, 26, 27, 28, 29, 30] (by decide +kernel) (by decide +kernel)
set_option maxRecDepth 20000 in
theorem gX3_lifts_X3_no : GoodIn wsX3_lifts (wsV RX3 36 RX3 yX3_no wsX3_no) := goodIn_app (goodIn_of _ (by decide +kernel)) ggX3_lifts_X3_no
theorem dX3_lifts_0 : decode cX3_lifts 0 = .ok (.iload_n 1, 1) := by decide +kernel
theorem dX3_lifts_1 : decode cX3_lifts 1 = .ok (.invokestatic 118, 3) := by decide +kernel
theorem dX3_lifts_4 : decode cX3_lifts 4 = .ok (.ifCond .eq 12, 3) := by decide +kernel
theorem dX3_lifts_7 : decode cX3_lifts 7 = .ok (.aload_n 0, 1) := by decide +kernel
theorem dX3_lifts_8 : decode cX3_lifts 8 = .ok (.iconst 2, 1) := by decide +kernel
theorem dX3_lifts_9 : decode cX3_lifts 9 = .ok (.iload_n 1, 1) := by decide +kernel
theorem dX3_lifts_10 : decode cX3_lifts 10 = .ok (.invokevirtual 144, 3) := by decide +kernel
theorem dX3_lifts_13 : decode cX3_lifts 13 = .ok (.goto 8, 3) := by decide +kernel
theorem dX3_lifts_16 : decode cX3_lifts 16 = .ok (.aload_n 0, 1) := by decide +kernel
theorem dX3_lifts_17 : decode cX3_lifts 17 = .ok (.iconst (-1), 1) := by decide +kernel
theorem dX3_lifts_18 : decode cX3_lifts 18 = .ok (.invokevirtual 36, 3) := by decide +kernel
theorem dX3_lifts_21 : decode cX3_lifts 21 = .ok (.ireturn, 1) := by decide +kernel
set_option maxRecDepth 20000 in
theorem ggX3_doors_X3_isFloor : GoodIn wsX3_doors wsX3_isFloor := goodIn_r _ [5, 6, 7, 4, 8] (by decide +kernel) (by decide +kernel)
set_option maxRecDepth 20000 in
theorem gX3_doors_X3_isFloor : GoodIn wsX3_doors (va_wsS RX3 118 yX3_isFloor wsX3_isFloor) := goodIn_app (goodIn_of _ (by decide +kernel)) ggX3_doors_X3_isFloor
set_option maxRecDepth 20000 in
theorem ggX3_doors_X3_no : GoodIn wsX3_doors wsX3_no := goodIn_r _ [12, 13, 14, 15, 16, 17, 18, 19, 20, 21, 22, 23, 24, 25, 26] (by decide +kernel) (by decide +kernel)
set_option maxRecDepth 20000 in
theorem gX3_doors_X3_no : GoodIn wsX3_doors (wsV RX3 36 RX3 yX3_no wsX3_no) := goodIn_app (goodIn_of _ (by decide +kernel)) ggX3_doors_X3_no
theorem dX3_doors_0 : decode cX3_doors 0 = .ok (.iload_n 1, 1) := by decide +kernel
theorem dX3_doors_1 : decode cX3_doors 1 = .ok (.invokestatic 118, 3) := by decide +kernel
theorem dX3_doors_4 : decode cX3_doors 4 = .ok (.ifCond .ne 9, 3) := by decide +kernel
theorem dX3_doors_7 : decode cX3_doors 7 = .ok (.aload_n 0, 1) := by decide +kernel
theorem dX3_doors_8 : decode cX3_doors 8 = .ok (.iconst (-1), 1) := by decide +kernel
theorem dX3_doors_9 : decode cX3_doors 9 = .ok (.invokevirtual 36, 3) := by decide +kernel
theorem dX3_doors_12 : decode cX3_doors 12 = .ok (.ireturn, 1) := by decide +kernel
theorem dX3_doors_13 : decode cX3_doors 13 = .ok (.aload_n 0, 1) := by decide +kernel
theorem dX3_doors_14 : decode cX3_doors 14 = .ok (.getfield 9, 3) := by decide +kernel
theorem dX3_doors_17 : decode cX3_doors 17 = .ok (.iconst 3, 1) := by decide +kernel
theorem dX3_doors_18 : decode cX3_doors 18 = .ok (.dup2, 1) := by decide +kernel
theorem dX3_doors_19 : decode cX3_doors 19 = .ok (.iaload, 1) := by decide +kernel
theorem dX3_doors_20 : decode cX3_doors 20 = .ok (.iconst 1, 1) := by decide +kernel
theorem dX3_doors_21 : decode cX3_doors 21 = .ok (.iload_n 1, 1) := by decide +kernel
theorem dX3_doors_22 : decode cX3_doors 22 = .ok (.ishl, 1) := by decide +kernel
theorem dX3_doors_23 : decode cX3_doors 23 = .ok (.ixor, 1) := by decide +kernel
theorem dX3_doors_24 : decode cX3_doors 24 = .ok (.iastore, 1) := by decide +kernel
theorem dX3_doors_25 : decode cX3_doors 25 = .ok (.aload_n 0, 1) := by decide +kernel
theorem dX3_doors_26 : decode cX3_doors 26 = .ok (.getfield 9, 3) := by decide +kernel
theorem dX3_doors_29 : decode cX3_doors 29 = .ok (.iconst 3, 1) := by decide +kernel
theorem dX3_doors_30 : decode cX3_doors 30 = .ok (.iaload, 1) := by decide +kernel
theorem dX3_doors_31 : decode cX3_doors 31 = .ok (.iload_n 1, 1) := by decide +kernel
theorem dX3_doors_32 : decode cX3_doors 32 = .ok (.ishr, 1) := by decide +kernel
theorem dX3_doors_33 : decode cX3_doors 33 = .ok (.iconst 1, 1) := by decide +kernel
theorem dX3_doors_34 : decode cX3_doors 34 = .ok (.iand, 1) := by decide +kernel
theorem dX3_doors_35 : decode cX3_doors 35 = .ok (.ireturn, 1) := by decide +kernel
set_option maxRecDepth 20000 in
theorem ggX3_turn_X3_isThing : GoodIn wsX3_turn wsX3_isThing := goodIn_r _ [6, 1, 7, 8, 5, 9, 21, 22, 23, 24, 25, 26, 27, 28, 29, 30, 31, 32, 33] (by decide +kernel) (by decide +kernel)
set_option maxRecDepth 20000 in
theorem gX3_turn_X3_isThing : GoodIn wsX3_turn (wsV RX3 111 RX3 yX3_isThing wsX3_isThing) := goodIn_app (goodIn_of _ (by decide +kernel)) ggX3_turn_X3_isThing
set_option maxRecDepth 20000 in
theorem ggX3_turn_X3_isIn : GoodIn wsX3_turn wsX3_isIn := goodIn_r _ [9] (by decide +kernel) (by decide +kernel)
set_option maxRecDepth 20000 in
theorem gX3_turn_X3_isIn : GoodIn wsX3_turn (va_wsS RX3 42 yX3_isIn wsX3_isIn) := goodIn_app (goodIn_of _ (by decide +kernel)) ggX3_turn_X3_isIn
set_option maxRecDepth 20000 in
theorem ggX3_turn_X3_wrongBy : GoodIn wsX3_turn wsX3_wrongBy := goodIn_r _ [12] (by decide +kernel) (by decide +kernel)
set_option maxRecDepth 20000 in
theorem gX3_turn_X3_wrongBy : GoodIn wsX3_turn (va_wsS RX3 140 yX3_wrongBy wsX3_wrongBy) := goodIn_app (goodIn_of _ (by decide +kernel)) ggX3_turn_X3_wrongBy
set_option maxRecDepth 20000 in
theorem ggX3_turn_X3_no : GoodIn wsX3_turn wsX3_no := goodIn_r _ [16, 17, 21, 22, 23, 24, 25, 26, 27, 28, 29, 30, 31, 32, 33] (by decide +kernel) (by decide +kernel)
set_option maxRecDepth 20000 in
theorem gX3_turn_X3_no : GoodIn wsX3_turn (wsV RX3 36 RX3 yX3_no wsX3_no) := goodIn_app (goodIn_of _ (by decide +kernel)) ggX3_turn_X3_no
set_option maxRecDepth 20000 in
theorem ggX3_turn_X3_of : GoodIn wsX3_turn wsX3_of := goodIn_r _ [20] (by decide +kernel) (by decide +kernel)
set_option maxRecDepth 20000 in
theorem gX3_turn_X3_of : GoodIn wsX3_turn (va_wsS RX3 50 yX3_of wsX3_of) := goodIn_app (goodIn_of _ (by decide +kernel)) ggX3_turn_X3_of
theorem dX3_turn_0 : decode cX3_turn 0 = .ok (.aload_n 0, 1) := by decide +kernel
theorem dX3_turn_1 : decode cX3_turn 1 = .ok (.iload_n 1, 1) := by decide +kernel
theorem dX3_turn_2 : decode cX3_turn 2 = .ok (.invokevirtual 111, 3) := by decide +kernel
theorem dX3_turn_5 : decode cX3_turn 5 = .ok (.ifCond .ne 7, 3) := by decide +kernel
theorem dX3_turn_8 : decode cX3_turn 8 = .ok (.iconst (-1), 1) := by decide +kernel
theorem dX3_turn_9 : decode cX3_turn 9 = .ok (.goto 24, 3) := by decide +kernel
theorem dX3_turn_12 : decode cX3_turn 12 = .ok (.iload_n 2, 1) := by decide +kernel
theorem dX3_turn_13 : decode cX3_turn 13 = .ok (.iconst 0, 1) := by decide +kernel
theorem dX3_turn_14 : decode cX3_turn 14 = .ok (.iconst 5, 1) := by decide +kernel
theorem dX3_turn_15 : decode cX3_turn 15 = .ok (.invokestatic 42, 3) := by decide +kernel
theorem dX3_turn_18 : decode cX3_turn 18 = .ok (.ifCond .ne 8, 3) := by decide +kernel
theorem dX3_turn_21 : decode cX3_turn 21 = .ok (.bipush (-2), 2) := by decide +kernel
theorem dX3_turn_23 : decode cX3_turn 23 = .ok (.goto 10, 3) := by decide +kernel
theorem dX3_turn_26 : decode cX3_turn 26 = .ok (.iload_n 3, 1) := by decide +kernel
theorem dX3_turn_27 : decode cX3_turn 27 = .ok (.iconst 0, 1) := by decide +kernel
theorem dX3_turn_28 : decode cX3_turn 28 = .ok (.bipush 9, 2) := by decide +kernel
theorem dX3_turn_30 : decode cX3_turn 30 = .ok (.invokestatic 140, 3) := by decide +kernel
theorem dX3_turn_33 : decode cX3_turn 33 = .ok (.istore 4, 2) := by decide +kernel
theorem dX3_turn_35 : decode cX3_turn 35 = .ok (.iload 4, 2) := by decide +kernel
theorem dX3_turn_37 : decode cX3_turn 37 = .ok (.ifCond .eq 10, 3) := by decide +kernel
theorem dX3_turn_40 : decode cX3_turn 40 = .ok (.aload_n 0, 1) := by decide +kernel
theorem dX3_turn_41 : decode cX3_turn 41 = .ok (.iload 4, 2) := by decide +kernel
theorem dX3_turn_43 : decode cX3_turn 43 = .ok (.invokevirtual 36, 3) := by decide +kernel
theorem dX3_turn_46 : decode cX3_turn 46 = .ok (.ireturn, 1) := by decide +kernel
theorem dX3_turn_47 : decode cX3_turn 47 = .ok (.bipush 10, 2) := by decide +kernel
theorem dX3_turn_49 : decode cX3_turn 49 = .ok (.aload_n 0, 1) := by decide +kernel
theorem dX3_turn_50 : decode cX3_turn 50 = .ok (.getfield 9, 3) := by decide +kernel
theorem dX3_turn_53 : decode cX3_turn 53 = .ok (.iload_n 1, 1) := by decide +kernel
theorem dX3_turn_54 : decode cX3_turn 54 = .ok (.iconst 0, 1) := by decide +kernel
theorem dX3_turn_55 : decode cX3_turn 55 = .ok (.invokestatic 50, 3) := by decide +kernel
theorem dX3_turn_58 : decode cX3_turn 58 = .ok (.iaload, 1) := by decide +kernel
theorem dX3_turn_59 : decode cX3_turn 59 = .ok (.imul, 1) := by decide +kernel
theorem dX3_turn_60 : decode cX3_turn 60 = .ok (.aload_n 0, 1) := by decide +kernel
theorem dX3_turn_61 : decode cX3_turn 61 = .ok (.getfield 9, 3) := by decide +kernel
theorem dX3_turn_64 : decode cX3_turn 64 = .ok (.iload_n 1, 1) := by decide +kernel
theorem dX3_turn_65 : decode cX3_turn 65 = .ok (.iconst 1, 1) := by decide +kernel
theorem dX3_turn_66 : decode cX3_turn 66 = .ok (.invokestatic 50, 3) := by decide +kernel
theorem dX3_turn_69 : decode cX3_turn 69 = .ok (.iaload, 1) := by decide +kernel
theorem dX3_turn_70 : decode cX3_turn 70 = .ok (.iadd, 1) := by decide +kernel
theorem dX3_turn_71 : decode cX3_turn 71 = .ok (.istore 5, 2) := by decide +kernel
theorem dX3_turn_73 : decode cX3_turn 73 = .ok (.aload_n 0, 1) := by decide +kernel
theorem dX3_turn_74 : decode cX3_turn 74 = .ok (.getfield 9, 3) := by decide +kernel
theorem dX3_turn_77 : decode cX3_turn 77 = .ok (.iload_n 1, 1) := by decide +kernel
theorem dX3_turn_78 : decode cX3_turn 78 = .ok (.iconst 0, 1) := by decide +kernel
theorem dX3_turn_79 : decode cX3_turn 79 = .ok (.invokestatic 50, 3) := by decide +kernel
theorem dX3_turn_82 : decode cX3_turn 82 = .ok (.iload_n 2, 1) := by decide +kernel
theorem dX3_turn_83 : decode cX3_turn 83 = .ok (.iastore, 1) := by decide +kernel
theorem dX3_turn_84 : decode cX3_turn 84 = .ok (.aload_n 0, 1) := by decide +kernel
theorem dX3_turn_85 : decode cX3_turn 85 = .ok (.getfield 9, 3) := by decide +kernel
theorem dX3_turn_88 : decode cX3_turn 88 = .ok (.iload_n 1, 1) := by decide +kernel
theorem dX3_turn_89 : decode cX3_turn 89 = .ok (.iconst 1, 1) := by decide +kernel
theorem dX3_turn_90 : decode cX3_turn 90 = .ok (.invokestatic 50, 3) := by decide +kernel
theorem dX3_turn_93 : decode cX3_turn 93 = .ok (.iload_n 3, 1) := by decide +kernel
theorem dX3_turn_94 : decode cX3_turn 94 = .ok (.iastore, 1) := by decide +kernel
theorem dX3_turn_95 : decode cX3_turn 95 = .ok (.iload 5, 2) := by decide +kernel
theorem dX3_turn_97 : decode cX3_turn 97 = .ok (.ireturn, 1) := by decide +kernel
set_option maxRecDepth 20000 in
theorem ggX3_days_X3_no : GoodIn wsX3_days wsX3_no := goodIn_r _ [6, 7, 38, 39, 40, 41, 42, 43, 44, 45, 46, 47, 48, 49, 50] (by decide +kernel) (by decide +kernel)
set_option maxRecDepth 20000 in
theorem gX3_days_X3_no : GoodIn wsX3_days (wsV RX3 36 RX3 yX3_no wsX3_no) := goodIn_app (goodIn_of _ (by decide +kernel)) ggX3_days_X3_no
set_option maxRecDepth 20000 in
theorem ggX3_days_X3_daysOn : GoodIn wsX3_days wsX3_daysOn := goodIn_r _ [10, 11, 12, 5, 13, 14, 15, 16, 17, 18, 19, 20, 21, 22, 23, 24, 25, 26, 27, 28, 29, 30, 31, 32, 33, 34, 35, 36, 37] (by decide +kernel) (by decide +kernel)
set_option maxRecDepth 20000 in
theorem gX3_days_X3_daysOn : GoodIn wsX3_days (va_wsS RX3 121 yX3_daysOn wsX3_daysOn) := goodIn_app (goodIn_of _ (by decide +kernel)) ggX3_days_X3_daysOn
theorem dX3_days_0 : decode cX3_days 0 = .ok (.iload_n 1, 1) := by decide +kernel
theorem dX3_days_1 : decode cX3_days 1 = .ok (.iconst 1, 1) := by decide +kernel
theorem dX3_days_2 : decode cX3_days 2 = .ok (.if_icmp .ge 10, 3) := by decide +kernel
theorem dX3_days_5 : decode cX3_days 5 = .ok (.aload_n 0, 1) := by decide +kernel
theorem dX3_days_6 : decode cX3_days 6 = .ok (.bipush (-4), 2) := by decide +kernel
theorem dX3_days_8 : decode cX3_days 8 = .ok (.invokevirtual 36, 3) := by decide +kernel
theorem dX3_days_11 : decode cX3_days 11 = .ok (.ireturn, 1) := by decide +kernel
theorem dX3_days_12 : decode cX3_days 12 = .ok (.iload_n 1, 1) := by decide +kernel
theorem dX3_days_13 : decode cX3_days 13 = .ok (.bipush 60, 2) := by decide +kernel
theorem dX3_days_15 : decode cX3_days 15 = .ok (.if_icmp .gt 17, 3) := by decide +kernel
theorem dX3_days_18 : decode cX3_days 18 = .ok (.aload_n 0, 1) := by decide +kernel
theorem dX3_days_19 : decode cX3_days 19 = .ok (.getfield 9, 3) := by decide +kernel
theorem dX3_days_22 : decode cX3_days 22 = .ok (.iconst 1, 1) := by decide +kernel
theorem dX3_days_23 : decode cX3_days 23 = .ok (.iaload, 1) := by decide +kernel
theorem dX3_days_24 : decode cX3_days 24 = .ok (.iload_n 1, 1) := by decide +kernel
theorem dX3_days_25 : decode cX3_days 25 = .ok (.iadd, 1) := by decide +kernel
theorem dX3_days_26 : decode cX3_days 26 = .ok (.sipush 999, 3) := by decide +kernel
theorem dX3_days_29 : decode cX3_days 29 = .ok (.if_icmp .le 10, 3) := by decide +kernel
theorem dX3_days_32 : decode cX3_days 32 = .ok (.aload_n 0, 1) := by decide +kernel
theorem dX3_days_33 : decode cX3_days 33 = .ok (.bipush (-6), 2) := by decide +kernel
theorem dX3_days_35 : decode cX3_days 35 = .ok (.invokevirtual 36, 3) := by decide +kernel
theorem dX3_days_38 : decode cX3_days 38 = .ok (.ireturn, 1) := by decide +kernel
theorem dX3_days_39 : decode cX3_days 39 = .ok (.aload_n 0, 1) := by decide +kernel
theorem dX3_days_40 : decode cX3_days 40 = .ok (.getfield 9, 3) := by decide +kernel
theorem dX3_days_43 : decode cX3_days 43 = .ok (.iload_n 1, 1) := by decide +kernel
theorem dX3_days_44 : decode cX3_days 44 = .ok (.invokestatic 121, 3) := by decide +kernel
theorem dX3_days_47 : decode cX3_days 47 = .ok (.aload_n 0, 1) := by decide +kernel
theorem dX3_days_48 : decode cX3_days 48 = .ok (.getfield 9, 3) := by decide +kernel
theorem dX3_days_51 : decode cX3_days 51 = .ok (.iconst 2, 1) := by decide +kernel
theorem dX3_days_52 : decode cX3_days 52 = .ok (.iaload, 1) := by decide +kernel
theorem dX3_days_53 : decode cX3_days 53 = .ok (.ireturn, 1) := by decide +kernel
set_option maxRecDepth 20000 in
theorem ggX3_takes_X3_copies : GoodIn wsX3_takes wsX3_copies := goodIn_r _ [6] (by decide +kernel) (by decide +kernel)
set_option maxRecDepth 20000 in
theorem gX3_takes_X3_copies : GoodIn wsX3_takes (va_wsS RX3 127 yX3_copies wsX3_copies) := goodIn_app (goodIn_of _ (by decide +kernel)) ggX3_takes_X3_copies
set_option maxRecDepth 20000 in
theorem ggX3_takes_X3_daysOn : GoodIn wsX3_takes wsX3_daysOn := goodIn_r _ [9, 10, 11, 5, 12, 13, 14, 15, 16, 17, 18, 19, 20, 21, 22, 23, 24, 25, 26, 27, 28, 29, 30, 31, 32, 33, 34, 35, 36] (by decide +kernel) (by decide +kernel)
set_option maxRecDepth 20000 in
theorem gX3_takes_X3_daysOn : GoodIn wsX3_takes (va_wsS RX3 121 yX3_daysOn wsX3_daysOn) := goodIn_app (goodIn_of _ (by decide +kernel)) ggX3_takes_X3_daysOn
theorem dX3_takes_0 : decode cX3_takes 0 = .ok (.aload_n 0, 1) := by decide +kernel
theorem dX3_takes_1 : decode cX3_takes 1 = .ok (.getfield 9, 3) := by decide +kernel
theorem dX3_takes_4 : decode cX3_takes 4 = .ok (.aload_n 0, 1) := by decide +kernel
theorem dX3_takes_5 : decode cX3_takes 5 = .ok (.getfield 13, 3) := by decide +kernel
theorem dX3_takes_8 : decode cX3_takes 8 = .ok (.invokestatic 127, 3) := by decide +kernel
theorem dX3_takes_11 : decode cX3_takes 11 = .ok (.aload_n 0, 1) := by decide +kernel
theorem dX3_takes_12 : decode cX3_takes 12 = .ok (.getfield 13, 3) := by decide +kernel
theorem dX3_takes_15 : decode cX3_takes 15 = .ok (.iload_n 1, 1) := by decide +kernel
theorem dX3_takes_16 : decode cX3_takes 16 = .ok (.invokestatic 121, 3) := by decide +kernel
theorem dX3_takes_19 : decode cX3_takes 19 = .ok (.return_, 1) := by decide +kernel
set_option maxRecDepth 20000 in
theorem ggX3_floorThen_X3_isSide : GoodIn wsX3_floorThen wsX3_isSide := goodIn_r _ [5, 6, 7, 4, 8] (by decide +kernel) (by decide +kernel)
set_option maxRecDepth 20000 in
theorem gX3_floorThen_X3_isSide : GoodIn wsX3_floorThen (va_wsS RX3 115 yX3_isSide wsX3_isSide) := goodIn_app (goodIn_of _ (by decide +kernel)) ggX3_floorThen_X3_isSide
set_option maxRecDepth 20000 in
theorem ggX3_floorThen_X3_wrongBy : GoodIn wsX3_floorThen wsX3_wrongBy := goodIn_r _ [11] (by decide +kernel) (by decide +kernel)
set_option maxRecDepth 20000 in
theorem gX3_floorThen_X3_wrongBy : GoodIn wsX3_floorThen (va_wsS RX3 140 yX3_wrongBy wsX3_wrongBy) := goodIn_app (goodIn_of _ (by decide +kernel)) ggX3_floorThen_X3_wrongBy
set_option maxRecDepth 20000 in
theorem ggX3_floorThen_X3_no : GoodIn wsX3_floorThen wsX3_no := goodIn_r _ [15, 16, 58, 59, 60, 61, 62, 63, 64, 65, 66, 67, 68, 69, 70] (by decide +kernel) (by decide +kernel)
set_option maxRecDepth 20000 in
theorem gX3_floorThen_X3_no : GoodIn wsX3_floorThen (wsV RX3 36 RX3 yX3_no wsX3_no) := goodIn_app (goodIn_of _ (by decide +kernel)) ggX3_floorThen_X3_no
set_option maxRecDepth 20000 in
theorem ggX3_floorThen_X3_takes : GoodIn wsX3_floorThen wsX3_takes := goodIn_r _ [20, 21, 1, 22, 23, 4, 24, 25, 26, 27, 28, 29, 30, 31, 32, 33, 34, 35, 36, 37, 38, 39, 40, 41, 42, 43, 44, 45, 46, 47, 48, 49, 50, 51, 52, 53, 54, 58, 59, 60, 61, 62, 63, 64, 65, 66, 67, 68, 69, 70] (by decide +kernel) (by decide +kernel)
set_option maxRecDepth 20000 in
theorem gX3_floorThen_X3_takes : GoodIn wsX3_floorThen (wsV RX3 147 RX3 yX3_takes wsX3_takes) := goodIn_app (goodIn_of _ (by decide +kernel)) ggX3_floorThen_X3_takes
set_option maxRecDepth 20000 in
theorem ggX3_floorThen_X3_floorOf : GoodIn wsX3_floorThen wsX3_floorOf := goodIn_r _ [57] (by decide +kernel) (by decide +kernel)
set_option maxRecDepth 20000 in
theorem gX3_floorThen_X3_floorOf : GoodIn wsX3_floorThen (va_wsS RX3 68 yX3_floorOf wsX3_floorOf) := goodIn_app (goodIn_of _ (by decide +kernel)) ggX3_floorThen_X3_floorOf
theorem dX3_floorThen_0 : decode cX3_floorThen 0 = .ok (.iload_n 1, 1) := by decide +kernel
theorem dX3_floorThen_1 : decode cX3_floorThen 1 = .ok (.invokestatic 115, 3) := by decide +kernel
theorem dX3_floorThen_4 : decode cX3_floorThen 4 = .ok (.ifCond .eq 13, 3) := by decide +kernel
theorem dX3_floorThen_7 : decode cX3_floorThen 7 = .ok (.iload_n 2, 1) := by decide +kernel
theorem dX3_floorThen_8 : decode cX3_floorThen 8 = .ok (.iconst 0, 1) := by decide +kernel
theorem dX3_floorThen_9 : decode cX3_floorThen 9 = .ok (.bipush 60, 2) := by decide +kernel
theorem dX3_floorThen_11 : decode cX3_floorThen 11 = .ok (.invokestatic 140, 3) := by decide +kernel
theorem dX3_floorThen_14 : decode cX3_floorThen 14 = .ok (.goto 4, 3) := by decide +kernel
theorem dX3_floorThen_17 : decode cX3_floorThen 17 = .ok (.iconst (-1), 1) := by decide +kernel
theorem dX3_floorThen_18 : decode cX3_floorThen 18 = .ok (.istore_n 3, 1) := by decide +kernel
theorem dX3_floorThen_19 : decode cX3_floorThen 19 = .ok (.iload_n 3, 1) := by decide +kernel
theorem dX3_floorThen_20 : decode cX3_floorThen 20 = .ok (.ifCond .eq 9, 3) := by decide +kernel
theorem dX3_floorThen_23 : decode cX3_floorThen 23 = .ok (.aload_n 0, 1) := by decide +kernel
theorem dX3_floorThen_24 : decode cX3_floorThen 24 = .ok (.iload_n 3, 1) := by decide +kernel
theorem dX3_floorThen_25 : decode cX3_floorThen 25 = .ok (.invokevirtual 36, 3) := by decide +kernel
theorem dX3_floorThen_28 : decode cX3_floorThen 28 = .ok (.ireturn, 1) := by decide +kernel
theorem dX3_floorThen_29 : decode cX3_floorThen 29 = .ok (.aload_n 0, 1) := by decide +kernel
theorem dX3_floorThen_30 : decode cX3_floorThen 30 = .ok (.iload_n 2, 1) := by decide +kernel
theorem dX3_floorThen_31 : decode cX3_floorThen 31 = .ok (.invokevirtual 147, 3) := by decide +kernel
theorem dX3_floorThen_34 : decode cX3_floorThen 34 = .ok (.aload_n 0, 1) := by decide +kernel
theorem dX3_floorThen_35 : decode cX3_floorThen 35 = .ok (.getfield 13, 3) := by decide +kernel
theorem dX3_floorThen_38 : decode cX3_floorThen 38 = .ok (.iload_n 1, 1) := by decide +kernel
theorem dX3_floorThen_39 : decode cX3_floorThen 39 = .ok (.invokestatic 68, 3) := by decide +kernel
theorem dX3_floorThen_42 : decode cX3_floorThen 42 = .ok (.ireturn, 1) := by decide +kernel
set_option maxRecDepth 20000 in
theorem ggX3_weighsThen_X3_isThing : GoodIn wsX3_weighsThen wsX3_isThing := goodIn_r _ [6, 1, 7, 8, 5, 9, 30, 31, 32, 33, 34, 35, 36, 37, 38, 39, 40, 41, 42] (by decide +kernel) (by decide +kernel)
set_option maxRecDepth 20000 in
theorem gX3_weighsThen_X3_isThing : GoodIn wsX3_weighsThen (wsV RX3 111 RX3 yX3_isThing wsX3_isThing) := goodIn_app (goodIn_of _ (by decide +kernel)) ggX3_weighsThen_X3_isThing
set_option maxRecDepth 20000 in
theorem ggX3_weighsThen_X3_wrongBy : GoodIn wsX3_weighsThen wsX3_wrongBy := goodIn_r _ [12] (by decide +kernel) (by decide +kernel)
set_option maxRecDepth 20000 in
theorem gX3_weighsThen_X3_wrongBy : GoodIn wsX3_weighsThen (va_wsS RX3 140 yX3_wrongBy wsX3_wrongBy) := goodIn_app (goodIn_of _ (by decide +kernel)) ggX3_weighsThen_X3_wrongBy
set_option maxRecDepth 20000 in
theorem ggX3_weighsThen_X3_no : GoodIn wsX3_weighsThen wsX3_no := goodIn_r _ [16, 17, 30, 31, 32, 33, 34, 35, 36, 37, 38, 39, 40, 41, 42] (by decide +kernel) (by decide +kernel)
set_option maxRecDepth 20000 in
theorem gX3_weighsThen_X3_no : GoodIn wsX3_weighsThen (wsV RX3 36 RX3 yX3_no wsX3_no) := goodIn_app (goodIn_of _ (by decide +kernel)) ggX3_weighsThen_X3_no
set_option maxRecDepth 20000 in
theorem ggX3_weighsThen_X3_weighsOn : GoodIn wsX3_weighsThen wsX3_weighsOn := goodIn_r _ [20, 21, 22, 5, 23, 24, 25, 26, 27, 28, 29] (by decide +kernel) (by decide +kernel)
set_option maxRecDepth 20000 in
theorem gX3_weighsThen_X3_weighsOn : GoodIn wsX3_weighsThen (va_wsS RX3 57 yX3_weighsOn wsX3_weighsOn) := goodIn_app (goodIn_of _ (by decide +kernel)) ggX3_weighsThen_X3_weighsOn
theorem dX3_weighsThen_0 : decode cX3_weighsThen 0 = .ok (.aload_n 0, 1) := by decide +kernel
theorem dX3_weighsThen_1 : decode cX3_weighsThen 1 = .ok (.iload_n 1, 1) := by decide +kernel
theorem dX3_weighsThen_2 : decode cX3_weighsThen 2 = .ok (.invokevirtual 111, 3) := by decide +kernel
theorem dX3_weighsThen_5 : decode cX3_weighsThen 5 = .ok (.ifCond .eq 13, 3) := by decide +kernel
theorem dX3_weighsThen_8 : decode cX3_weighsThen 8 = .ok (.iload_n 2, 1) := by decide +kernel
theorem dX3_weighsThen_9 : decode cX3_weighsThen 9 = .ok (.iconst 0, 1) := by decide +kernel
theorem dX3_weighsThen_10 : decode cX3_weighsThen 10 = .ok (.bipush 60, 2) := by decide +kernel
theorem dX3_weighsThen_12 : decode cX3_weighsThen 12 = .ok (.invokestatic 140, 3) := by decide +kernel
theorem dX3_weighsThen_15 : decode cX3_weighsThen 15 = .ok (.goto 4, 3) := by decide +kernel
theorem dX3_weighsThen_18 : decode cX3_weighsThen 18 = .ok (.iconst (-1), 1) := by decide +kernel
theorem dX3_weighsThen_19 : decode cX3_weighsThen 19 = .ok (.istore_n 3, 1) := by decide +kernel
theorem dX3_weighsThen_20 : decode cX3_weighsThen 20 = .ok (.iload_n 3, 1) := by decide +kernel
theorem dX3_weighsThen_21 : decode cX3_weighsThen 21 = .ok (.ifCond .eq 11, 3) := by decide +kernel
theorem dX3_weighsThen_24 : decode cX3_weighsThen 24 = .ok (.aload_n 0, 1) := by decide +kernel
theorem dX3_weighsThen_25 : decode cX3_weighsThen 25 = .ok (.iload_n 3, 1) := by decide +kernel
theorem dX3_weighsThen_26 : decode cX3_weighsThen 26 = .ok (.invokevirtual 36, 3) := by decide +kernel
theorem dX3_weighsThen_29 : decode cX3_weighsThen 29 = .ok (.goto 19, 3) := by decide +kernel
theorem dX3_weighsThen_32 : decode cX3_weighsThen 32 = .ok (.aload_n 0, 1) := by decide +kernel
theorem dX3_weighsThen_33 : decode cX3_weighsThen 33 = .ok (.getfield 9, 3) := by decide +kernel
theorem dX3_weighsThen_36 : decode cX3_weighsThen 36 = .ok (.iload_n 1, 1) := by decide +kernel
theorem dX3_weighsThen_37 : decode cX3_weighsThen 37 = .ok (.aload_n 0, 1) := by decide +kernel
theorem dX3_weighsThen_38 : decode cX3_weighsThen 38 = .ok (.getfield 9, 3) := by decide +kernel
theorem dX3_weighsThen_41 : decode cX3_weighsThen 41 = .ok (.iconst 1, 1) := by decide +kernel
theorem dX3_weighsThen_42 : decode cX3_weighsThen 42 = .ok (.iaload, 1) := by decide +kernel
theorem dX3_weighsThen_43 : decode cX3_weighsThen 43 = .ok (.iload_n 2, 1) := by decide +kernel
theorem dX3_weighsThen_44 : decode cX3_weighsThen 44 = .ok (.iadd, 1) := by decide +kernel
theorem dX3_weighsThen_45 : decode cX3_weighsThen 45 = .ok (.invokestatic 57, 3) := by decide +kernel
theorem dX3_weighsThen_48 : decode cX3_weighsThen 48 = .ok (.ireturn, 1) := by decide +kernel
set_option maxRecDepth 20000 in
theorem ggX3_pull_X3_wrongBy : GoodIn wsX3_pull wsX3_wrongBy := goodIn_r _ [5] (by decide +kernel) (by decide +kernel)
set_option maxRecDepth 20000 in
theorem gX3_pull_X3_wrongBy : GoodIn wsX3_pull (va_wsS RX3 140 yX3_wrongBy wsX3_wrongBy) := goodIn_app (goodIn_of _ (by decide +kernel)) ggX3_pull_X3_wrongBy
set_option maxRecDepth 20000 in
theorem ggX3_pull_X3_noFar : GoodIn wsX3_pull wsX3_noFar := goodIn_r _ [9, 10, 11, 12, 13, 4, 14, 15, 54, 55, 56, 57, 58, 59, 60, 61, 62, 63, 64, 65, 66] (by decide +kernel) (by decide +kernel)
set_option maxRecDepth 20000 in
theorem gX3_pull_X3_noFar : GoodIn wsX3_pull (wsV RX3 151 RX3 yX3_noFar wsX3_noFar) := goodIn_app (goodIn_of _ (by decide +kernel)) ggX3_pull_X3_noFar
set_option maxRecDepth 20000 in
theorem ggX3_pull_X3_takes : GoodIn wsX3_pull wsX3_takes := goodIn_r _ [19, 20, 1, 21, 22, 4, 23, 24, 25, 26, 27, 28, 29, 30, 31, 32, 33, 34, 35, 36, 37, 38, 39, 40, 41, 42, 43, 44, 45, 46, 47, 48, 49, 50, 51, 52, 53, 54, 55, 56, 57, 58, 59, 60, 61, 62, 63, 64, 65, 66] (by decide +kernel) (by decide +kernel)
set_option maxRecDepth 20000 in
theorem gX3_pull_X3_takes : GoodIn wsX3_pull (wsV RX3 147 RX3 yX3_takes wsX3_takes) := goodIn_app (goodIn_of _ (by decide +kernel)) ggX3_pull_X3_takes
set_option maxRecDepth 20000 in
theorem ggX3_pull_X3_pullIn : GoodIn wsX3_pull wsX3_pullIn := goodIn_r _ [32, 33, 34, 4, 35, 36, 37, 38, 39, 40, 41, 42, 43, 44, 45, 46, 47, 48, 49, 50] (by decide +kernel) (by decide +kernel)
set_option maxRecDepth 20000 in
theorem gX3_pull_X3_pullIn : GoodIn wsX3_pull (va_wsS RX3 78 yX3_pullIn wsX3_pullIn) := goodIn_app (goodIn_of _ (by decide +kernel)) ggX3_pull_X3_pullIn
theorem dX3_pull_0 : decode cX3_pull 0 = .ok (.iload_n 1, 1) := by decide +kernel
theorem dX3_pull_1 : decode cX3_pull 1 = .ok (.iconst 0, 1) := by decide +kernel
theorem dX3_pull_2 : decode cX3_pull 2 = .ok (.bipush 60, 2) := by decide +kernel
theorem dX3_pull_4 : decode cX3_pull 4 = .ok (.invokestatic 140, 3) := by decide +kernel
theorem dX3_pull_7 : decode cX3_pull 7 = .ok (.istore_n 2, 1) := by decide +kernel
theorem dX3_pull_8 : decode cX3_pull 8 = .ok (.iload_n 2, 1) := by decide +kernel
theorem dX3_pull_9 : decode cX3_pull 9 = .ok (.ifCond .eq 9, 3) := by decide +kernel
theorem dX3_pull_12 : decode cX3_pull 12 = .ok (.aload_n 0, 1) := by decide +kernel
theorem dX3_pull_13 : decode cX3_pull 13 = .ok (.iload_n 2, 1) := by decide +kernel
theorem dX3_pull_14 : decode cX3_pull 14 = .ok (.invokevirtual 151, 3) := by decide +kernel
theorem dX3_pull_17 : decode cX3_pull 17 = .ok (.ireturn, 1) := by decide +kernel
theorem dX3_pull_18 : decode cX3_pull 18 = .ok (.aload_n 0, 1) := by decide +kernel
theorem dX3_pull_19 : decode cX3_pull 19 = .ok (.iload_n 1, 1) := by decide +kernel
theorem dX3_pull_20 : decode cX3_pull 20 = .ok (.invokevirtual 147, 3) := by decide +kernel
theorem dX3_pull_23 : decode cX3_pull 23 = .ok (.aload_n 0, 1) := by decide +kernel
theorem dX3_pull_24 : decode cX3_pull 24 = .ok (.getfield 13, 3) := by decide +kernel
theorem dX3_pull_27 : decode cX3_pull 27 = .ok (.invokestatic 78, 3) := by decide +kernel
theorem dX3_pull_30 : decode cX3_pull 30 = .ok (.ireturn, 1) := by decide +kernel
set_option maxRecDepth 20000 in
theorem ggX3_whenAt_X3_copies : GoodIn wsX3_whenAt wsX3_copies := goodIn_r _ [6] (by decide +kernel) (by decide +kernel)
set_option maxRecDepth 20000 in
theorem gX3_whenAt_X3_copies : GoodIn wsX3_whenAt (va_wsS RX3 127 yX3_copies wsX3_copies) := goodIn_app (goodIn_of _ (by decide +kernel)) ggX3_whenAt_X3_copies
set_option maxRecDepth 20000 in
theorem ggX3_whenAt_X3_floorOf : GoodIn wsX3_whenAt wsX3_floorOf := goodIn_r _ [9] (by decide +kernel) (by decide +kernel)
set_option maxRecDepth 20000 in
theorem gX3_whenAt_X3_floorOf : GoodIn wsX3_whenAt (va_wsS RX3 68 yX3_floorOf wsX3_floorOf) := goodIn_app (goodIn_of _ (by decide +kernel)) ggX3_whenAt_X3_floorOf
set_option maxRecDepth 20000 in
theorem ggX3_whenAt_X3_has : GoodIn wsX3_whenAt wsX3_has := goodIn_r _ [12] (by decide +kernel) (by decide +kernel)
set_option maxRecDepth 20000 in
theorem gX3_whenAt_X3_has : GoodIn wsX3_whenAt (va_wsS RX3 71 yX3_has wsX3_has) := goodIn_app (goodIn_of _ (by decide +kernel)) ggX3_whenAt_X3_has
set_option maxRecDepth 20000 in
theorem ggX3_whenAt_X3_day : GoodIn wsX3_whenAt wsX3_day := goodIn_r _ [15, 16, 17, 5, 18, 19, 20, 21, 22, 23, 24, 25, 26, 27, 28, 29, 30, 31, 32, 33, 34, 35, 36, 37, 38, 39] (by decide +kernel) (by decide +kernel)
set_option maxRecDepth 20000 in
theorem gX3_whenAt_X3_day : GoodIn wsX3_whenAt (va_wsS RX3 82 yX3_day wsX3_day) := goodIn_app (goodIn_of _ (by decide +kernel)) ggX3_whenAt_X3_day
theorem dX3_whenAt_0 : decode cX3_whenAt 0 = .ok (.aload_n 0, 1) := by decide +kernel
theorem dX3_whenAt_1 : decode cX3_whenAt 1 = .ok (.getfield 9, 3) := by decide +kernel
theorem dX3_whenAt_4 : decode cX3_whenAt 4 = .ok (.aload_n 0, 1) := by decide +kernel
theorem dX3_whenAt_5 : decode cX3_whenAt 5 = .ok (.getfield 13, 3) := by decide +kernel
theorem dX3_whenAt_8 : decode cX3_whenAt 8 = .ok (.invokestatic 127, 3) := by decide +kernel
theorem dX3_whenAt_11 : decode cX3_whenAt 11 = .ok (.iconst 0, 1) := by decide +kernel
theorem dX3_whenAt_12 : decode cX3_whenAt 12 = .ok (.istore_n 3, 1) := by decide +kernel
theorem dX3_whenAt_13 : decode cX3_whenAt 13 = .ok (.iload_n 3, 1) := by decide +kernel
theorem dX3_whenAt_14 : decode cX3_whenAt 14 = .ok (.bipush 60, 2) := by decide +kernel
theorem dX3_whenAt_16 : decode cX3_whenAt 16 = .ok (.if_icmp .gt 34, 3) := by decide +kernel
theorem dX3_whenAt_19 : decode cX3_whenAt 19 = .ok (.iload_n 2, 1) := by decide +kernel
theorem dX3_whenAt_20 : decode cX3_whenAt 20 = .ok (.aload_n 0, 1) := by decide +kernel
theorem dX3_whenAt_21 : decode cX3_whenAt 21 = .ok (.getfield 13, 3) := by decide +kernel
theorem dX3_whenAt_24 : decode cX3_whenAt 24 = .ok (.iload_n 1, 1) := by decide +kernel
theorem dX3_whenAt_25 : decode cX3_whenAt 25 = .ok (.invokestatic 68, 3) := by decide +kernel
theorem dX3_whenAt_28 : decode cX3_whenAt 28 = .ok (.invokestatic 71, 3) := by decide +kernel
theorem dX3_whenAt_31 : decode cX3_whenAt 31 = .ok (.ifCond .eq 5, 3) := by decide +kernel
theorem dX3_whenAt_34 : decode cX3_whenAt 34 = .ok (.iload_n 3, 1) := by decide +kernel
theorem dX3_whenAt_35 : decode cX3_whenAt 35 = .ok (.ireturn, 1) := by decide +kernel
theorem dX3_whenAt_36 : decode cX3_whenAt 36 = .ok (.aload_n 0, 1) := by decide +kernel
theorem dX3_whenAt_37 : decode cX3_whenAt 37 = .ok (.getfield 13, 3) := by decide +kernel
theorem dX3_whenAt_40 : decode cX3_whenAt 40 = .ok (.iconst 0, 1) := by decide +kernel
theorem dX3_whenAt_41 : decode cX3_whenAt 41 = .ok (.invokestatic 82, 3) := by decide +kernel
theorem dX3_whenAt_44 : decode cX3_whenAt 44 = .ok (.iinc 3 1, 3) := by decide +kernel
theorem dX3_whenAt_47 : decode cX3_whenAt 47 = .ok (.goto (-34), 3) := by decide +kernel
theorem dX3_whenAt_50 : decode cX3_whenAt 50 = .ok (.bipush (-9), 2) := by decide +kernel
theorem dX3_whenAt_52 : decode cX3_whenAt 52 = .ok (.ireturn, 1) := by decide +kernel
set_option maxRecDepth 20000 in
theorem ggX3_meets_X3_whenAt : GoodIn wsX3_meets wsX3_whenAt := goodIn_r _ [5, 6, 7, 8, 9, 4, 10, 11, 12, 13, 14, 15, 16, 17, 18, 19, 20, 21, 22, 23, 24, 25, 26, 27, 28, 29, 30, 31, 32, 33, 34, 35, 36, 37, 38, 39, 40, 41, 42, 43, 44, 45, 46, 47, 48, 49, 50, 51, 52, 53, 54, 55, 56] (by decide +kernel) (by decide +kernel)
set_option maxRecDepth 20000 in
theorem gX3_meets_X3_whenAt : GoodIn wsX3_meets (wsV RX3 154 RX3 yX3_whenAt wsX3_whenAt) := goodIn_app (goodIn_of _ (by decide +kernel)) ggX3_meets_X3_whenAt
theorem dX3_meets_0 : decode cX3_meets 0 = .ok (.aload_n 0, 1) := by decide +kernel
theorem dX3_meets_1 : decode cX3_meets 1 = .ok (.iconst 0, 1) := by decide +kernel
theorem dX3_meets_2 : decode cX3_meets 2 = .ok (.sipush 1024, 3) := by decide +kernel
theorem dX3_meets_5 : decode cX3_meets 5 = .ok (.invokevirtual 154, 3) := by decide +kernel
theorem dX3_meets_8 : decode cX3_meets 8 = .ok (.ireturn, 1) := by decide +kernel
set_option maxRecDepth 20000 in
theorem ggX3_comes_X3_isSide : GoodIn wsX3_comes wsX3_isSide := goodIn_r _ [4, 5, 6, 3, 7] (by decide +kernel) (by decide +kernel)
set_option maxRecDepth 20000 in
theorem gX3_comes_X3_isSide : GoodIn wsX3_comes (va_wsS RX3 115 yX3_isSide wsX3_isSide) := goodIn_app (goodIn_of _ (by decide +kernel)) ggX3_comes_X3_isSide
set_option maxRecDepth 20000 in
theorem ggX3_comes_X3_isFloor : GoodIn wsX3_comes wsX3_isFloor := goodIn_r _ [10, 5, 6, 3, 7] (by decide +kernel) (by decide +kernel)
set_option maxRecDepth 20000 in
theorem gX3_comes_X3_isFloor : GoodIn wsX3_comes (va_wsS RX3 118 yX3_isFloor wsX3_isFloor) := goodIn_app (goodIn_of _ (by decide +kernel)) ggX3_comes_X3_isFloor
set_option maxRecDepth 20000 in
theorem ggX3_comes_X3_whenAt : GoodIn wsX3_comes wsX3_whenAt := goodIn_r _ [14, 15, 16, 17, 18, 3, 19, 20, 21, 22, 23, 24, 25, 26, 27, 28, 29, 30, 31, 32, 33, 34, 35, 36, 37, 38, 39, 40, 41, 42, 43, 44, 45, 46, 47, 48, 49, 50, 51, 52, 58, 59, 60, 61, 62, 63, 64, 65, 66, 67, 68, 69, 70] (by decide +kernel) (by decide +kernel)
set_option maxRecDepth 20000 in
theorem gX3_comes_X3_whenAt : GoodIn wsX3_comes (wsV RX3 154 RX3 yX3_whenAt wsX3_whenAt) := goodIn_app (goodIn_of _ (by decide +kernel)) ggX3_comes_X3_whenAt
set_option maxRecDepth 20000 in
theorem ggX3_comes_X3_no : GoodIn wsX3_comes wsX3_no := goodIn_r _ [56, 57, 58, 59, 60, 61, 62, 63, 64, 65, 66, 67, 68, 69, 70] (by decide +kernel) (by decide +kernel)
set_option maxRecDepth 20000 in
theorem gX3_comes_X3_no : GoodIn wsX3_comes (wsV RX3 36 RX3 yX3_no wsX3_no) := goodIn_app (goodIn_of _ (by decide +kernel)) ggX3_comes_X3_no
theorem dX3_comes_0 : decode cX3_comes 0 = .ok (.iload_n 1, 1) := by decide +kernel
theorem dX3_comes_1 : decode cX3_comes 1 = .ok (.invokestatic 115, 3) := by decide +kernel
theorem dX3_comes_4 : decode cX3_comes 4 = .ok (.ifCond .eq 21, 3) := by decide +kernel
theorem dX3_comes_7 : decode cX3_comes 7 = .ok (.iload_n 2, 1) := by decide +kernel
theorem dX3_comes_8 : decode cX3_comes 8 = .ok (.invokestatic 118, 3) := by decide +kernel
theorem dX3_comes_11 : decode cX3_comes 11 = .ok (.ifCond .eq 14, 3) := by decide +kernel
theorem dX3_comes_14 : decode cX3_comes 14 = .ok (.aload_n 0, 1) := by decide +kernel
theorem dX3_comes_15 : decode cX3_comes 15 = .ok (.iload_n 1, 1) := by decide +kernel
theorem dX3_comes_16 : decode cX3_comes 16 = .ok (.iconst 1, 1) := by decide +kernel
theorem dX3_comes_17 : decode cX3_comes 17 = .ok (.iload_n 2, 1) := by decide +kernel
theorem dX3_comes_18 : decode cX3_comes 18 = .ok (.ishl, 1) := by decide +kernel
theorem dX3_comes_19 : decode cX3_comes 19 = .ok (.invokevirtual 154, 3) := by decide +kernel
theorem dX3_comes_22 : decode cX3_comes 22 = .ok (.goto 8, 3) := by decide +kernel
theorem dX3_comes_25 : decode cX3_comes 25 = .ok (.aload_n 0, 1) := by decide +kernel
theorem dX3_comes_26 : decode cX3_comes 26 = .ok (.iconst (-1), 1) := by decide +kernel
theorem dX3_comes_27 : decode cX3_comes 27 = .ok (.invokevirtual 36, 3) := by decide +kernel
theorem dX3_comes_30 : decode cX3_comes 30 = .ok (.ireturn, 1) := by decide +kernel
set_option maxRecDepth 20000 in
theorem ggX3_still_X3_copies : GoodIn wsX3_still wsX3_copies := goodIn_r _ [6] (by decide +kernel) (by decide +kernel)
set_option maxRecDepth 20000 in
theorem gX3_still_X3_copies : GoodIn wsX3_still (va_wsS RX3 127 yX3_copies wsX3_copies) := goodIn_app (goodIn_of _ (by decide +kernel)) ggX3_still_X3_copies
set_option maxRecDepth 20000 in
theorem ggX3_still_X3_day : GoodIn wsX3_still wsX3_day := goodIn_r _ [9, 10, 11, 5, 12, 13, 14, 15, 16, 17, 18, 19, 20, 21, 22, 23, 24, 25, 26, 27, 28, 29, 30, 31, 32, 33] (by decide +kernel) (by decide +kernel)
set_option maxRecDepth 20000 in
theorem gX3_still_X3_day : GoodIn wsX3_still (va_wsS RX3 82 yX3_day wsX3_day) := goodIn_app (goodIn_of _ (by decide +kernel)) ggX3_still_X3_day
theorem dX3_still_0 : decode cX3_still 0 = .ok (.aload_n 0, 1) := by decide +kernel
theorem dX3_still_1 : decode cX3_still 1 = .ok (.getfield 9, 3) := by decide +kernel
theorem dX3_still_4 : decode cX3_still 4 = .ok (.aload_n 0, 1) := by decide +kernel
theorem dX3_still_5 : decode cX3_still 5 = .ok (.getfield 13, 3) := by decide +kernel
theorem dX3_still_8 : decode cX3_still 8 = .ok (.invokestatic 127, 3) := by decide +kernel
theorem dX3_still_11 : decode cX3_still 11 = .ok (.iconst 0, 1) := by decide +kernel
theorem dX3_still_12 : decode cX3_still 12 = .ok (.istore_n 1, 1) := by decide +kernel
theorem dX3_still_13 : decode cX3_still 13 = .ok (.iconst 0, 1) := by decide +kernel
theorem dX3_still_14 : decode cX3_still 14 = .ok (.istore_n 2, 1) := by decide +kernel
theorem dX3_still_15 : decode cX3_still 15 = .ok (.iload_n 2, 1) := by decide +kernel
theorem dX3_still_16 : decode cX3_still 16 = .ok (.bipush 70, 2) := by decide +kernel
theorem dX3_still_18 : decode cX3_still 18 = .ok (.if_icmp .ge 53, 3) := by decide +kernel
theorem dX3_still_21 : decode cX3_still 21 = .ok (.aload_n 0, 1) := by decide +kernel
theorem dX3_still_22 : decode cX3_still 22 = .ok (.getfield 13, 3) := by decide +kernel
theorem dX3_still_25 : decode cX3_still 25 = .ok (.iconst 2, 1) := by decide +kernel
theorem dX3_still_26 : decode cX3_still 26 = .ok (.iaload, 1) := by decide +kernel
theorem dX3_still_27 : decode cX3_still 27 = .ok (.istore_n 3, 1) := by decide +kernel
theorem dX3_still_28 : decode cX3_still 28 = .ok (.aload_n 0, 1) := by decide +kernel
theorem dX3_still_29 : decode cX3_still 29 = .ok (.getfield 13, 3) := by decide +kernel
theorem dX3_still_32 : decode cX3_still 32 = .ok (.iconst 0, 1) := by decide +kernel
theorem dX3_still_33 : decode cX3_still 33 = .ok (.invokestatic 82, 3) := by decide +kernel
theorem dX3_still_36 : decode cX3_still 36 = .ok (.aload_n 0, 1) := by decide +kernel
theorem dX3_still_37 : decode cX3_still 37 = .ok (.getfield 13, 3) := by decide +kernel
theorem dX3_still_40 : decode cX3_still 40 = .ok (.iconst 2, 1) := by decide +kernel
theorem dX3_still_41 : decode cX3_still 41 = .ok (.iaload, 1) := by decide +kernel
theorem dX3_still_42 : decode cX3_still 42 = .ok (.iload_n 3, 1) := by decide +kernel
theorem dX3_still_43 : decode cX3_still 43 = .ok (.if_icmp .ne 9, 3) := by decide +kernel
theorem dX3_still_46 : decode cX3_still 46 = .ok (.iload_n 1, 1) := by decide +kernel
theorem dX3_still_47 : decode cX3_still 47 = .ok (.iconst 1, 1) := by decide +kernel
theorem dX3_still_48 : decode cX3_still 48 = .ok (.iadd, 1) := by decide +kernel
theorem dX3_still_49 : decode cX3_still 49 = .ok (.goto 4, 3) := by decide +kernel
theorem dX3_still_52 : decode cX3_still 52 = .ok (.iconst 0, 1) := by decide +kernel
theorem dX3_still_53 : decode cX3_still 53 = .ok (.istore_n 1, 1) := by decide +kernel
theorem dX3_still_54 : decode cX3_still 54 = .ok (.iload_n 1, 1) := by decide +kernel
theorem dX3_still_55 : decode cX3_still 55 = .ok (.bipush 10, 2) := by decide +kernel
theorem dX3_still_57 : decode cX3_still 57 = .ok (.if_icmp .ne 8, 3) := by decide +kernel
theorem dX3_still_60 : decode cX3_still 60 = .ok (.iload_n 2, 1) := by decide +kernel
theorem dX3_still_61 : decode cX3_still 61 = .ok (.bipush 9, 2) := by decide +kernel
theorem dX3_still_63 : decode cX3_still 63 = .ok (.isub, 1) := by decide +kernel
theorem dX3_still_64 : decode cX3_still 64 = .ok (.ireturn, 1) := by decide +kernel
theorem dX3_still_65 : decode cX3_still 65 = .ok (.iinc 2 1, 3) := by decide +kernel
theorem dX3_still_68 : decode cX3_still 68 = .ok (.goto (-53), 3) := by decide +kernel
theorem dX3_still_71 : decode cX3_still 71 = .ok (.bipush (-9), 2) := by decide +kernel
theorem dX3_still_73 : decode cX3_still 73 = .ok (.ireturn, 1) := by decide +kernel
set_option maxRecDepth 20000 in
theorem ggX3_strikes_X3_whenAt : GoodIn wsX3_strikes wsX3_whenAt := goodIn_r _ [6, 7, 8, 9, 10, 5, 11, 12, 13, 14, 15, 16, 17, 18, 19, 20, 21, 22, 23, 24, 25, 26, 27, 28, 29, 30, 31, 32, 33, 34, 35, 36, 37, 38, 39, 40, 41, 42, 43, 44, 54, 55, 56, 57, 58, 59, 60, 61, 62, 63, 64, 65, 66] (by decide +kernel) (by decide +kernel)
set_option maxRecDepth 20000 in
theorem gX3_strikes_X3_whenAt : GoodIn wsX3_strikes (wsV RX3 154 RX3 yX3_whenAt wsX3_whenAt) := goodIn_app (goodIn_of _ (by decide +kernel)) ggX3_strikes_X3_whenAt
set_option maxRecDepth 20000 in
theorem ggX3_strikes_X3_still : GoodIn wsX3_strikes wsX3_still := goodIn_r _ [48, 7, 8, 9, 10, 5, 11, 18, 19, 20, 21, 22, 23, 24, 25, 26, 27, 28, 29, 30, 31, 32, 33, 34, 35, 36, 37, 38, 39, 40, 41, 42, 43, 44, 54, 55, 56, 57, 58, 59, 60, 61, 62, 63, 64, 65, 66] (by decide +kernel) (by decide +kernel)
set_option maxRecDepth 20000 in
theorem gX3_strikes_X3_still : GoodIn wsX3_strikes (wsV RX3 158 RX3 yX3_still wsX3_still) := goodIn_app (goodIn_of _ (by decide +kernel)) ggX3_strikes_X3_still
set_option maxRecDepth 20000 in
theorem ggX3_strikes_X3_no : GoodIn wsX3_strikes wsX3_no := goodIn_r _ [52, 53, 54, 55, 56, 57, 58, 59, 60, 61, 62, 63, 64, 65, 66] (by decide +kernel) (by decide +kernel)
set_option maxRecDepth 20000 in
theorem gX3_strikes_X3_no : GoodIn wsX3_strikes (wsV RX3 36 RX3 yX3_no wsX3_no) := goodIn_app (goodIn_of _ (by decide +kernel)) ggX3_strikes_X3_no
theorem dX3_strikes_0 : decode cX3_strikes 0 = .ok (.iload_n 1, 1) := by decide +kernel
theorem dX3_strikes_1 : decode cX3_strikes 1 = .ok (.ifCond .ne 13, 3) := by decide +kernel
theorem dX3_strikes_4 : decode cX3_strikes 4 = .ok (.aload_n 0, 1) := by decide +kernel
theorem dX3_strikes_5 : decode cX3_strikes 5 = .ok (.iconst 0, 1) := by decide +kernel
theorem dX3_strikes_6 : decode cX3_strikes 6 = .ok (.ldc 157, 2) := by decide +kernel
theorem dX3_strikes_8 : decode cX3_strikes 8 = .ok (.invokevirtual 154, 3) := by decide +kernel
theorem dX3_strikes_11 : decode cX3_strikes 11 = .ok (.goto 21, 3) := by decide +kernel
theorem dX3_strikes_14 : decode cX3_strikes 14 = .ok (.iload_n 1, 1) := by decide +kernel
theorem dX3_strikes_15 : decode cX3_strikes 15 = .ok (.iconst 1, 1) := by decide +kernel
theorem dX3_strikes_16 : decode cX3_strikes 16 = .ok (.if_icmp .ne 10, 3) := by decide +kernel
theorem dX3_strikes_19 : decode cX3_strikes 19 = .ok (.aload_n 0, 1) := by decide +kernel
theorem dX3_strikes_20 : decode cX3_strikes 20 = .ok (.invokevirtual 158, 3) := by decide +kernel
theorem dX3_strikes_23 : decode cX3_strikes 23 = .ok (.goto 9, 3) := by decide +kernel
theorem dX3_strikes_26 : decode cX3_strikes 26 = .ok (.aload_n 0, 1) := by decide +kernel
theorem dX3_strikes_27 : decode cX3_strikes 27 = .ok (.bipush (-2), 2) := by decide +kernel
theorem dX3_strikes_29 : decode cX3_strikes 29 = .ok (.invokevirtual 36, 3) := by decide +kernel
theorem dX3_strikes_32 : decode cX3_strikes 32 = .ok (.ireturn, 1) := by decide +kernel
set_option maxRecDepth 20000 in
theorem ggX3_door_X3_isSide : GoodIn wsX3_door wsX3_isSide := goodIn_r _ [5, 6, 7, 4, 8] (by decide +kernel) (by decide +kernel)
set_option maxRecDepth 20000 in
theorem gX3_door_X3_isSide : GoodIn wsX3_door (va_wsS RX3 115 yX3_isSide wsX3_isSide) := goodIn_app (goodIn_of _ (by decide +kernel)) ggX3_door_X3_isSide
set_option maxRecDepth 20000 in
theorem ggX3_door_X3_whenAt : GoodIn wsX3_door wsX3_whenAt := goodIn_r _ [12, 1, 13, 14, 15, 4, 16, 17, 18, 19, 20, 21, 22, 23, 24, 25, 26, 27, 28, 29, 30, 31, 32, 33, 34, 35, 36, 37, 38, 39, 40, 41, 42, 43, 44, 45, 46, 47, 48, 49, 55, 56, 57, 58, 59, 60, 61, 62, 63, 64, 65, 66, 67] (by decide +kernel) (by decide +kernel)
set_option maxRecDepth 20000 in
theorem gX3_door_X3_whenAt : GoodIn wsX3_door (wsV RX3 154 RX3 yX3_whenAt wsX3_whenAt) := goodIn_app (goodIn_of _ (by decide +kernel)) ggX3_door_X3_whenAt
set_option maxRecDepth 20000 in
theorem ggX3_door_X3_no : GoodIn wsX3_door wsX3_no := goodIn_r _ [53, 54, 55, 56, 57, 58, 59, 60, 61, 62, 63, 64, 65, 66, 67] (by decide +kernel) (by decide +kernel)
set_option maxRecDepth 20000 in
theorem gX3_door_X3_no : GoodIn wsX3_door (wsV RX3 36 RX3 yX3_no wsX3_no) := goodIn_app (goodIn_of _ (by decide +kernel)) ggX3_door_X3_no
theorem dX3_door_0 : decode cX3_door 0 = .ok (.iload_n 1, 1) := by decide +kernel
theorem dX3_door_1 : decode cX3_door 1 = .ok (.invokestatic 115, 3) := by decide +kernel
theorem dX3_door_4 : decode cX3_door 4 = .ok (.ifCond .eq 17, 3) := by decide +kernel
theorem dX3_door_7 : decode cX3_door 7 = .ok (.aload_n 0, 1) := by decide +kernel
theorem dX3_door_8 : decode cX3_door 8 = .ok (.iload_n 1, 1) := by decide +kernel
theorem dX3_door_9 : decode cX3_door 9 = .ok (.aload_n 0, 1) := by decide +kernel
theorem dX3_door_10 : decode cX3_door 10 = .ok (.getfield 9, 3) := by decide +kernel
theorem dX3_door_13 : decode cX3_door 13 = .ok (.iconst 3, 1) := by decide +kernel
theorem dX3_door_14 : decode cX3_door 14 = .ok (.iaload, 1) := by decide +kernel
theorem dX3_door_15 : decode cX3_door 15 = .ok (.invokevirtual 154, 3) := by decide +kernel
theorem dX3_door_18 : decode cX3_door 18 = .ok (.goto 8, 3) := by decide +kernel
theorem dX3_door_21 : decode cX3_door 21 = .ok (.aload_n 0, 1) := by decide +kernel
theorem dX3_door_22 : decode cX3_door 22 = .ok (.iconst (-1), 1) := by decide +kernel
theorem dX3_door_23 : decode cX3_door 23 = .ok (.invokevirtual 36, 3) := by decide +kernel
theorem dX3_door_26 : decode cX3_door 26 = .ok (.ireturn, 1) := by decide +kernel
set_option maxRecDepth 20000 in
theorem ggX3_level_X3_wrongBy : GoodIn wsX3_level wsX3_wrongBy := goodIn_r _ [6] (by decide +kernel) (by decide +kernel)
set_option maxRecDepth 20000 in
theorem gX3_level_X3_wrongBy : GoodIn wsX3_level (va_wsS RX3 140 yX3_wrongBy wsX3_wrongBy) := goodIn_app (goodIn_of _ (by decide +kernel)) ggX3_level_X3_wrongBy
set_option maxRecDepth 20000 in
theorem ggX3_level_X3_no : GoodIn wsX3_level wsX3_no := goodIn_r _ [10, 11, 42, 43, 44, 45, 46, 47, 48, 49, 50, 51, 52, 53, 54] (by decide +kernel) (by decide +kernel)
set_option maxRecDepth 20000 in
theorem gX3_level_X3_no : GoodIn wsX3_level (wsV RX3 36 RX3 yX3_no wsX3_no) := goodIn_app (goodIn_of _ (by decide +kernel)) ggX3_level_X3_no
set_option maxRecDepth 20000 in
theorem ggX3_level_X3_copies : GoodIn wsX3_level wsX3_copies := goodIn_r _ [14] (by decide +kernel) (by decide +kernel)
set_option maxRecDepth 20000 in
theorem gX3_level_X3_copies : GoodIn wsX3_level (va_wsS RX3 127 yX3_copies wsX3_copies) := goodIn_app (goodIn_of _ (by decide +kernel)) ggX3_level_X3_copies
set_option maxRecDepth 20000 in
theorem ggX3_level_X3_day : GoodIn wsX3_level wsX3_day := goodIn_r _ [17, 18, 19, 5, 20, 21, 22, 23, 24, 25, 26, 27, 28, 29, 30, 31, 32, 33, 34, 35, 36, 37, 38, 39, 40, 41] (by decide +kernel) (by decide +kernel)
set_option maxRecDepth 20000 in
theorem gX3_level_X3_day : GoodIn wsX3_level (va_wsS RX3 82 yX3_day wsX3_day) := goodIn_app (goodIn_of _ (by decide +kernel)) ggX3_level_X3_day
theorem dX3_level_0 : decode cX3_level 0 = .ok (.iload_n 1, 1) := by decide +kernel
theorem dX3_level_1 : decode cX3_level 1 = .ok (.iconst 0, 1) := by decide +kernel
theorem dX3_level_2 : decode cX3_level 2 = .ok (.bipush 60, 2) := by decide +kernel
theorem dX3_level_4 : decode cX3_level 4 = .ok (.invokestatic 140, 3) := by decide +kernel
theorem dX3_level_7 : decode cX3_level 7 = .ok (.istore_n 2, 1) := by decide +kernel
theorem dX3_level_8 : decode cX3_level 8 = .ok (.iload_n 2, 1) := by decide +kernel
theorem dX3_level_9 : decode cX3_level 9 = .ok (.ifCond .eq 9, 3) := by decide +kernel
theorem dX3_level_12 : decode cX3_level 12 = .ok (.aload_n 0, 1) := by decide +kernel
