theorem dX0_init_27 : decode cX0_init 27 = .ok (.iconst 2, 1) := by decide +kernel
theorem dX0_init_28 : decode cX0_init 28 = .ok (.newarray .int, 2) := by decide +kernel
theorem dX0_init_30 : decode cX0_init 30 = .ok (.putfield 25, 3) := by decide +kernel
theorem dX0_init_33 : decode cX0_init 33 = .ok (.aload_n 0, 1) := by decide +kernel
theorem dX0_init_34 : decode cX0_init 34 = .ok (.getfield 25, 3) := by decide +kernel
theorem dX0_init_37 : decode cX0_init 37 = .ok (.iconst 0, 1) := by decide +kernel
theorem dX0_init_38 : decode cX0_init 38 = .ok (.bipush 10, 2) := by decide +kernel
theorem dX0_init_40 : decode cX0_init 40 = .ok (.iastore, 1) := by decide +kernel
theorem dX0_init_41 : decode cX0_init 41 = .ok (.aload_n 0, 1) := by decide +kernel
theorem dX0_init_42 : decode cX0_init 42 = .ok (.getfield 25, 3) := by decide +kernel
theorem dX0_init_45 : decode cX0_init 45 = .ok (.iconst 1, 1) := by decide +kernel
theorem dX0_init_46 : decode cX0_init 46 = .ok (.bipush 10, 2) := by decide +kernel
theorem dX0_init_48 : decode cX0_init 48 = .ok (.iastore, 1) := by decide +kernel
theorem dX0_init_49 : decode cX0_init 49 = .ok (.aload_n 0, 1) := by decide +kernel
theorem dX0_init_50 : decode cX0_init 50 = .ok (.bipush 8, 2) := by decide +kernel
theorem dX0_init_52 : decode cX0_init 52 = .ok (.newarray .int, 2) := by decide +kernel
theorem dX0_init_54 : decode cX0_init 54 = .ok (.putfield 29, 3) := by decide +kernel
theorem dX0_init_57 : decode cX0_init 57 = .ok (.aload_n 0, 1) := by decide +kernel
theorem dX0_init_58 : decode cX0_init 58 = .ok (.bipush 8, 2) := by decide +kernel
theorem dX0_init_60 : decode cX0_init 60 = .ok (.newarray .int, 2) := by decide +kernel
theorem dX0_init_62 : decode cX0_init 62 = .ok (.putfield 32, 3) := by decide +kernel
theorem dX0_init_65 : decode cX0_init 65 = .ok (.aload_n 0, 1) := by decide +kernel
theorem dX0_init_66 : decode cX0_init 66 = .ok (.bipush 8, 2) := by decide +kernel
theorem dX0_init_68 : decode cX0_init 68 = .ok (.newarray .int, 2) := by decide +kernel
theorem dX0_init_70 : decode cX0_init 70 = .ok (.putfield 35, 3) := by decide +kernel
theorem dX0_init_73 : decode cX0_init 73 = .ok (.aload_n 0, 1) := by decide +kernel
theorem dX0_init_74 : decode cX0_init 74 = .ok (.bipush 8, 2) := by decide +kernel
theorem dX0_init_76 : decode cX0_init 76 = .ok (.newarray .int, 2) := by decide +kernel
theorem dX0_init_78 : decode cX0_init 78 = .ok (.putfield 38, 3) := by decide +kernel
theorem dX0_init_81 : decode cX0_init 81 = .ok (.return_, 1) := by decide +kernel
theorem dX0_copy_0 : decode cX0_copy 0 = .ok (.aload_n 0, 1) := by decide +kernel
theorem dX0_copy_1 : decode cX0_copy 1 = .ok (.aload_n 1, 1) := by decide +kernel
theorem dX0_copy_2 : decode cX0_copy 2 = .ok (.getfield 11, 3) := by decide +kernel
theorem dX0_copy_5 : decode cX0_copy 5 = .ok (.putfield 11, 3) := by decide +kernel
theorem dX0_copy_8 : decode cX0_copy 8 = .ok (.aload_n 0, 1) := by decide +kernel
theorem dX0_copy_9 : decode cX0_copy 9 = .ok (.aload_n 1, 1) := by decide +kernel
theorem dX0_copy_10 : decode cX0_copy 10 = .ok (.getfield 16, 3) := by decide +kernel
theorem dX0_copy_13 : decode cX0_copy 13 = .ok (.putfield 16, 3) := by decide +kernel
theorem dX0_copy_16 : decode cX0_copy 16 = .ok (.aload_n 0, 1) := by decide +kernel
theorem dX0_copy_17 : decode cX0_copy 17 = .ok (.aload_n 1, 1) := by decide +kernel
theorem dX0_copy_18 : decode cX0_copy 18 = .ok (.getfield 19, 3) := by decide +kernel
theorem dX0_copy_21 : decode cX0_copy 21 = .ok (.putfield 19, 3) := by decide +kernel
theorem dX0_copy_24 : decode cX0_copy 24 = .ok (.aload_n 0, 1) := by decide +kernel
theorem dX0_copy_25 : decode cX0_copy 25 = .ok (.aload_n 1, 1) := by decide +kernel
theorem dX0_copy_26 : decode cX0_copy 26 = .ok (.getfield 22, 3) := by decide +kernel
theorem dX0_copy_29 : decode cX0_copy 29 = .ok (.putfield 22, 3) := by decide +kernel
theorem dX0_copy_32 : decode cX0_copy 32 = .ok (.iconst 0, 1) := by decide +kernel
theorem dX0_copy_33 : decode cX0_copy 33 = .ok (.istore_n 2, 1) := by decide +kernel
theorem dX0_copy_34 : decode cX0_copy 34 = .ok (.iload_n 2, 1) := by decide +kernel
theorem dX0_copy_35 : decode cX0_copy 35 = .ok (.iconst 2, 1) := by decide +kernel
theorem dX0_copy_36 : decode cX0_copy 36 = .ok (.if_icmp .ge 21, 3) := by decide +kernel
theorem dX0_copy_39 : decode cX0_copy 39 = .ok (.aload_n 0, 1) := by decide +kernel
theorem dX0_copy_40 : decode cX0_copy 40 = .ok (.getfield 25, 3) := by decide +kernel
theorem dX0_copy_43 : decode cX0_copy 43 = .ok (.iload_n 2, 1) := by decide +kernel
theorem dX0_copy_44 : decode cX0_copy 44 = .ok (.aload_n 1, 1) := by decide +kernel
theorem dX0_copy_45 : decode cX0_copy 45 = .ok (.getfield 25, 3) := by decide +kernel
theorem dX0_copy_48 : decode cX0_copy 48 = .ok (.iload_n 2, 1) := by decide +kernel
theorem dX0_copy_49 : decode cX0_copy 49 = .ok (.iaload, 1) := by decide +kernel
theorem dX0_copy_50 : decode cX0_copy 50 = .ok (.iastore, 1) := by decide +kernel
theorem dX0_copy_51 : decode cX0_copy 51 = .ok (.iinc 2 1, 3) := by decide +kernel
theorem dX0_copy_54 : decode cX0_copy 54 = .ok (.goto (-20), 3) := by decide +kernel
theorem dX0_copy_57 : decode cX0_copy 57 = .ok (.iconst 0, 1) := by decide +kernel
theorem dX0_copy_58 : decode cX0_copy 58 = .ok (.istore_n 2, 1) := by decide +kernel
theorem dX0_copy_59 : decode cX0_copy 59 = .ok (.iload_n 2, 1) := by decide +kernel
theorem dX0_copy_60 : decode cX0_copy 60 = .ok (.bipush 8, 2) := by decide +kernel
theorem dX0_copy_62 : decode cX0_copy 62 = .ok (.if_icmp .ge 57, 3) := by decide +kernel
theorem dX0_copy_65 : decode cX0_copy 65 = .ok (.aload_n 0, 1) := by decide +kernel
theorem dX0_copy_66 : decode cX0_copy 66 = .ok (.getfield 29, 3) := by decide +kernel
theorem dX0_copy_69 : decode cX0_copy 69 = .ok (.iload_n 2, 1) := by decide +kernel
theorem dX0_copy_70 : decode cX0_copy 70 = .ok (.aload_n 1, 1) := by decide +kernel
theorem dX0_copy_71 : decode cX0_copy 71 = .ok (.getfield 29, 3) := by decide +kernel
theorem dX0_copy_74 : decode cX0_copy 74 = .ok (.iload_n 2, 1) := by decide +kernel
theorem dX0_copy_75 : decode cX0_copy 75 = .ok (.iaload, 1) := by decide +kernel
theorem dX0_copy_76 : decode cX0_copy 76 = .ok (.iastore, 1) := by decide +kernel
theorem dX0_copy_77 : decode cX0_copy 77 = .ok (.aload_n 0, 1) := by decide +kernel
theorem dX0_copy_78 : decode cX0_copy 78 = .ok (.getfield 32, 3) := by decide +kernel
theorem dX0_copy_81 : decode cX0_copy 81 = .ok (.iload_n 2, 1) := by decide +kernel
theorem dX0_copy_82 : decode cX0_copy 82 = .ok (.aload_n 1, 1) := by decide +kernel
theorem dX0_copy_83 : decode cX0_copy 83 = .ok (.getfield 32, 3) := by decide +kernel
theorem dX0_copy_86 : decode cX0_copy 86 = .ok (.iload_n 2, 1) := by decide +kernel
theorem dX0_copy_87 : decode cX0_copy 87 = .ok (.iaload, 1) := by decide +kernel
theorem dX0_copy_88 : decode cX0_copy 88 = .ok (.iastore, 1) := by decide +kernel
theorem dX0_copy_89 : decode cX0_copy 89 = .ok (.aload_n 0, 1) := by decide +kernel
theorem dX0_copy_90 : decode cX0_copy 90 = .ok (.getfield 35, 3) := by decide +kernel
theorem dX0_copy_93 : decode cX0_copy 93 = .ok (.iload_n 2, 1) := by decide +kernel
theorem dX0_copy_94 : decode cX0_copy 94 = .ok (.aload_n 1, 1) := by decide +kernel
theorem dX0_copy_95 : decode cX0_copy 95 = .ok (.getfield 35, 3) := by decide +kernel
theorem dX0_copy_98 : decode cX0_copy 98 = .ok (.iload_n 2, 1) := by decide +kernel
theorem dX0_copy_99 : decode cX0_copy 99 = .ok (.iaload, 1) := by decide +kernel
theorem dX0_copy_100 : decode cX0_copy 100 = .ok (.iastore, 1) := by decide +kernel
theorem dX0_copy_101 : decode cX0_copy 101 = .ok (.aload_n 0, 1) := by decide +kernel
theorem dX0_copy_102 : decode cX0_copy 102 = .ok (.getfield 38, 3) := by decide +kernel
theorem dX0_copy_105 : decode cX0_copy 105 = .ok (.iload_n 2, 1) := by decide +kernel
theorem dX0_copy_106 : decode cX0_copy 106 = .ok (.aload_n 1, 1) := by decide +kernel
theorem dX0_copy_107 : decode cX0_copy 107 = .ok (.getfield 38, 3) := by decide +kernel
theorem dX0_copy_110 : decode cX0_copy 110 = .ok (.iload_n 2, 1) := by decide +kernel
theorem dX0_copy_111 : decode cX0_copy 111 = .ok (.iaload, 1) := by decide +kernel
theorem dX0_copy_112 : decode cX0_copy 112 = .ok (.iastore, 1) := by decide +kernel
theorem dX0_copy_113 : decode cX0_copy 113 = .ok (.iinc 2 1, 3) := by decide +kernel
theorem dX0_copy_116 : decode cX0_copy 116 = .ok (.goto (-57), 3) := by decide +kernel
theorem dX0_copy_119 : decode cX0_copy 119 = .ok (.return_, 1) := by decide +kernel
theorem dX0_isSide_0 : decode cX0_isSide 0 = .ok (.iload_n 0, 1) := by decide +kernel
theorem dX0_isSide_1 : decode cX0_isSide 1 = .ok (.ifCond .lt 12, 3) := by decide +kernel
theorem dX0_isSide_4 : decode cX0_isSide 4 = .ok (.iload_n 0, 1) := by decide +kernel
theorem dX0_isSide_5 : decode cX0_isSide 5 = .ok (.iconst 2, 1) := by decide +kernel
theorem dX0_isSide_6 : decode cX0_isSide 6 = .ok (.if_icmp .ge 7, 3) := by decide +kernel
theorem dX0_isSide_9 : decode cX0_isSide 9 = .ok (.iconst 1, 1) := by decide +kernel
theorem dX0_isSide_10 : decode cX0_isSide 10 = .ok (.goto 4, 3) := by decide +kernel
theorem dX0_isSide_13 : decode cX0_isSide 13 = .ok (.iconst 0, 1) := by decide +kernel
theorem dX0_isSide_14 : decode cX0_isSide 14 = .ok (.ireturn, 1) := by decide +kernel
theorem dX0_isFloor_0 : decode cX0_isFloor 0 = .ok (.iload_n 0, 1) := by decide +kernel
theorem dX0_isFloor_1 : decode cX0_isFloor 1 = .ok (.ifCond .lt 13, 3) := by decide +kernel
theorem dX0_isFloor_4 : decode cX0_isFloor 4 = .ok (.iload_n 0, 1) := by decide +kernel
theorem dX0_isFloor_5 : decode cX0_isFloor 5 = .ok (.bipush 20, 2) := by decide +kernel
theorem dX0_isFloor_7 : decode cX0_isFloor 7 = .ok (.if_icmp .gt 7, 3) := by decide +kernel
theorem dX0_isFloor_10 : decode cX0_isFloor 10 = .ok (.iconst 1, 1) := by decide +kernel
theorem dX0_isFloor_11 : decode cX0_isFloor 11 = .ok (.goto 4, 3) := by decide +kernel
theorem dX0_isFloor_14 : decode cX0_isFloor 14 = .ok (.iconst 0, 1) := by decide +kernel
theorem dX0_isFloor_15 : decode cX0_isFloor 15 = .ok (.ireturn, 1) := by decide +kernel
theorem dX0_isPlace_0 : decode cX0_isPlace 0 = .ok (.iload_n 0, 1) := by decide +kernel
theorem dX0_isPlace_1 : decode cX0_isPlace 1 = .ok (.ifCond .lt 12, 3) := by decide +kernel
theorem dX0_isPlace_4 : decode cX0_isPlace 4 = .ok (.iload_n 0, 1) := by decide +kernel
theorem dX0_isPlace_5 : decode cX0_isPlace 5 = .ok (.iconst 3, 1) := by decide +kernel
theorem dX0_isPlace_6 : decode cX0_isPlace 6 = .ok (.if_icmp .ge 7, 3) := by decide +kernel
theorem dX0_isPlace_9 : decode cX0_isPlace 9 = .ok (.iconst 1, 1) := by decide +kernel
theorem dX0_isPlace_10 : decode cX0_isPlace 10 = .ok (.goto 4, 3) := by decide +kernel
theorem dX0_isPlace_13 : decode cX0_isPlace 13 = .ok (.iconst 0, 1) := by decide +kernel
theorem dX0_isPlace_14 : decode cX0_isPlace 14 = .ok (.ireturn, 1) := by decide +kernel
theorem dX0_isKind_0 : decode cX0_isKind 0 = .ok (.iload_n 0, 1) := by decide +kernel
theorem dX0_isKind_1 : decode cX0_isKind 1 = .ok (.ifCond .lt 13, 3) := by decide +kernel
theorem dX0_isKind_4 : decode cX0_isKind 4 = .ok (.iload_n 0, 1) := by decide +kernel
theorem dX0_isKind_5 : decode cX0_isKind 5 = .ok (.bipush 6, 2) := by decide +kernel
theorem dX0_isKind_7 : decode cX0_isKind 7 = .ok (.if_icmp .ge 7, 3) := by decide +kernel
theorem dX0_isKind_10 : decode cX0_isKind 10 = .ok (.iconst 1, 1) := by decide +kernel
theorem dX0_isKind_11 : decode cX0_isKind 11 = .ok (.goto 4, 3) := by decide +kernel
theorem dX0_isKind_14 : decode cX0_isKind 14 = .ok (.iconst 0, 1) := by decide +kernel
theorem dX0_isKind_15 : decode cX0_isKind 15 = .ok (.ireturn, 1) := by decide +kernel
theorem dX0_has_0 : decode cX0_has 0 = .ok (.iload_n 1, 1) := by decide +kernel
theorem dX0_has_1 : decode cX0_has 1 = .ok (.ifCond .lt 21, 3) := by decide +kernel
theorem dX0_has_4 : decode cX0_has 4 = .ok (.iload_n 1, 1) := by decide +kernel
theorem dX0_has_5 : decode cX0_has 5 = .ok (.aload_n 0, 1) := by decide +kernel
theorem dX0_has_6 : decode cX0_has 6 = .ok (.getfield 22, 3) := by decide +kernel
theorem dX0_has_9 : decode cX0_has 9 = .ok (.if_icmp .ge 13, 3) := by decide +kernel
theorem dX0_has_12 : decode cX0_has 12 = .ok (.iload_n 1, 1) := by decide +kernel
theorem dX0_has_13 : decode cX0_has 13 = .ok (.bipush 8, 2) := by decide +kernel
theorem dX0_has_15 : decode cX0_has 15 = .ok (.if_icmp .ge 7, 3) := by decide +kernel
theorem dX0_has_18 : decode cX0_has 18 = .ok (.iconst 1, 1) := by decide +kernel
theorem dX0_has_19 : decode cX0_has 19 = .ok (.goto 4, 3) := by decide +kernel
theorem dX0_has_22 : decode cX0_has 22 = .ok (.iconst 0, 1) := by decide +kernel
theorem dX0_has_23 : decode cX0_has 23 = .ok (.ireturn, 1) := by decide +kernel
set_option maxRecDepth 20000 in
theorem ggX0_kindOf_X0_has : GoodIn wsX0_kindOf wsX0_has := goodIn_r _ [6, 7, 8, 9, 10, 11, 12, 13, 14, 15, 16] (by decide +kernel) (by decide +kernel)
set_option maxRecDepth 20000 in
theorem gX0_kindOf_X0_has : GoodIn wsX0_kindOf (wsV RX0 41 RX0 yX0_has wsX0_has) := goodIn_app (goodIn_of _ (by decide +kernel)) ggX0_kindOf_X0_has
theorem dX0_kindOf_0 : decode cX0_kindOf 0 = .ok (.aload_n 0, 1) := by decide +kernel
theorem dX0_kindOf_1 : decode cX0_kindOf 1 = .ok (.iload_n 1, 1) := by decide +kernel
theorem dX0_kindOf_2 : decode cX0_kindOf 2 = .ok (.invokevirtual 41, 3) := by decide +kernel
theorem dX0_kindOf_5 : decode cX0_kindOf 5 = .ok (.ifCond .eq 12, 3) := by decide +kernel
theorem dX0_kindOf_8 : decode cX0_kindOf 8 = .ok (.aload_n 0, 1) := by decide +kernel
theorem dX0_kindOf_9 : decode cX0_kindOf 9 = .ok (.getfield 29, 3) := by decide +kernel
theorem dX0_kindOf_12 : decode cX0_kindOf 12 = .ok (.iload_n 1, 1) := by decide +kernel
theorem dX0_kindOf_13 : decode cX0_kindOf 13 = .ok (.iaload, 1) := by decide +kernel
theorem dX0_kindOf_14 : decode cX0_kindOf 14 = .ok (.goto 4, 3) := by decide +kernel
theorem dX0_kindOf_17 : decode cX0_kindOf 17 = .ok (.iconst 0, 1) := by decide +kernel
theorem dX0_kindOf_18 : decode cX0_kindOf 18 = .ok (.ireturn, 1) := by decide +kernel
set_option maxRecDepth 20000 in
theorem ggX0_figureOf_X0_has : GoodIn wsX0_figureOf wsX0_has := goodIn_r _ [6, 7, 8, 9, 10, 11, 12, 13, 14, 15, 16] (by decide +kernel) (by decide +kernel)
set_option maxRecDepth 20000 in
theorem gX0_figureOf_X0_has : GoodIn wsX0_figureOf (wsV RX0 41 RX0 yX0_has wsX0_has) := goodIn_app (goodIn_of _ (by decide +kernel)) ggX0_figureOf_X0_has
theorem dX0_figureOf_0 : decode cX0_figureOf 0 = .ok (.aload_n 0, 1) := by decide +kernel
theorem dX0_figureOf_1 : decode cX0_figureOf 1 = .ok (.iload_n 1, 1) := by decide +kernel
theorem dX0_figureOf_2 : decode cX0_figureOf 2 = .ok (.invokevirtual 41, 3) := by decide +kernel
theorem dX0_figureOf_5 : decode cX0_figureOf 5 = .ok (.ifCond .eq 12, 3) := by decide +kernel
theorem dX0_figureOf_8 : decode cX0_figureOf 8 = .ok (.aload_n 0, 1) := by decide +kernel
theorem dX0_figureOf_9 : decode cX0_figureOf 9 = .ok (.getfield 32, 3) := by decide +kernel
theorem dX0_figureOf_12 : decode cX0_figureOf 12 = .ok (.iload_n 1, 1) := by decide +kernel
theorem dX0_figureOf_13 : decode cX0_figureOf 13 = .ok (.iaload, 1) := by decide +kernel
theorem dX0_figureOf_14 : decode cX0_figureOf 14 = .ok (.goto 4, 3) := by decide +kernel
theorem dX0_figureOf_17 : decode cX0_figureOf 17 = .ok (.iconst 0, 1) := by decide +kernel
theorem dX0_figureOf_18 : decode cX0_figureOf 18 = .ok (.ireturn, 1) := by decide +kernel
set_option maxRecDepth 20000 in
theorem ggX0_placeOf_X0_has : GoodIn wsX0_placeOf wsX0_has := goodIn_r _ [6, 7, 8, 9, 10, 11, 12, 13, 14, 15, 16] (by decide +kernel) (by decide +kernel)
set_option maxRecDepth 20000 in
theorem gX0_placeOf_X0_has : GoodIn wsX0_placeOf (wsV RX0 41 RX0 yX0_has wsX0_has) := goodIn_app (goodIn_of _ (by decide +kernel)) ggX0_placeOf_X0_has
theorem dX0_placeOf_0 : decode cX0_placeOf 0 = .ok (.aload_n 0, 1) := by decide +kernel
theorem dX0_placeOf_1 : decode cX0_placeOf 1 = .ok (.iload_n 1, 1) := by decide +kernel
theorem dX0_placeOf_2 : decode cX0_placeOf 2 = .ok (.invokevirtual 41, 3) := by decide +kernel
theorem dX0_placeOf_5 : decode cX0_placeOf 5 = .ok (.ifCond .eq 12, 3) := by decide +kernel
theorem dX0_placeOf_8 : decode cX0_placeOf 8 = .ok (.aload_n 0, 1) := by decide +kernel
theorem dX0_placeOf_9 : decode cX0_placeOf 9 = .ok (.getfield 35, 3) := by decide +kernel
theorem dX0_placeOf_12 : decode cX0_placeOf 12 = .ok (.iload_n 1, 1) := by decide +kernel
theorem dX0_placeOf_13 : decode cX0_placeOf 13 = .ok (.iaload, 1) := by decide +kernel
theorem dX0_placeOf_14 : decode cX0_placeOf 14 = .ok (.goto 4, 3) := by decide +kernel
theorem dX0_placeOf_17 : decode cX0_placeOf 17 = .ok (.iconst 2, 1) := by decide +kernel
theorem dX0_placeOf_18 : decode cX0_placeOf 18 = .ok (.ireturn, 1) := by decide +kernel
set_option maxRecDepth 20000 in
theorem ggX0_sinceOf_X0_has : GoodIn wsX0_sinceOf wsX0_has := goodIn_r _ [6, 7, 8, 9, 10, 11, 12, 13, 14, 15, 16] (by decide +kernel) (by decide +kernel)
set_option maxRecDepth 20000 in
theorem gX0_sinceOf_X0_has : GoodIn wsX0_sinceOf (wsV RX0 41 RX0 yX0_has wsX0_has) := goodIn_app (goodIn_of _ (by decide +kernel)) ggX0_sinceOf_X0_has
theorem dX0_sinceOf_0 : decode cX0_sinceOf 0 = .ok (.aload_n 0, 1) := by decide +kernel
theorem dX0_sinceOf_1 : decode cX0_sinceOf 1 = .ok (.iload_n 1, 1) := by decide +kernel
theorem dX0_sinceOf_2 : decode cX0_sinceOf 2 = .ok (.invokevirtual 41, 3) := by decide +kernel
theorem dX0_sinceOf_5 : decode cX0_sinceOf 5 = .ok (.ifCond .eq 12, 3) := by decide +kernel
theorem dX0_sinceOf_8 : decode cX0_sinceOf 8 = .ok (.aload_n 0, 1) := by decide +kernel
theorem dX0_sinceOf_9 : decode cX0_sinceOf 9 = .ok (.getfield 38, 3) := by decide +kernel
theorem dX0_sinceOf_12 : decode cX0_sinceOf 12 = .ok (.iload_n 1, 1) := by decide +kernel
theorem dX0_sinceOf_13 : decode cX0_sinceOf 13 = .ok (.iaload, 1) := by decide +kernel
theorem dX0_sinceOf_14 : decode cX0_sinceOf 14 = .ok (.goto 4, 3) := by decide +kernel
theorem dX0_sinceOf_17 : decode cX0_sinceOf 17 = .ok (.iconst 0, 1) := by decide +kernel
theorem dX0_sinceOf_18 : decode cX0_sinceOf 18 = .ok (.ireturn, 1) := by decide +kernel
set_option maxRecDepth 20000 in
theorem ggX0_ballastOf_X0_isSide : GoodIn wsX0_ballastOf wsX0_isSide := goodIn_r _ [5] (by decide +kernel) (by decide +kernel)
set_option maxRecDepth 20000 in
theorem gX0_ballastOf_X0_isSide : GoodIn wsX0_ballastOf (va_wsS RX0 45 yX0_isSide wsX0_isSide) := goodIn_app (goodIn_of _ (by decide +kernel)) ggX0_ballastOf_X0_isSide
theorem dX0_ballastOf_0 : decode cX0_ballastOf 0 = .ok (.iload_n 1, 1) := by decide +kernel
theorem dX0_ballastOf_1 : decode cX0_ballastOf 1 = .ok (.invokestatic 45, 3) := by decide +kernel
theorem dX0_ballastOf_4 : decode cX0_ballastOf 4 = .ok (.ifCond .eq 12, 3) := by decide +kernel
theorem dX0_ballastOf_7 : decode cX0_ballastOf 7 = .ok (.aload_n 0, 1) := by decide +kernel
theorem dX0_ballastOf_8 : decode cX0_ballastOf 8 = .ok (.getfield 25, 3) := by decide +kernel
theorem dX0_ballastOf_11 : decode cX0_ballastOf 11 = .ok (.iload_n 1, 1) := by decide +kernel
theorem dX0_ballastOf_12 : decode cX0_ballastOf 12 = .ok (.iaload, 1) := by decide +kernel
theorem dX0_ballastOf_13 : decode cX0_ballastOf 13 = .ok (.goto 4, 3) := by decide +kernel
theorem dX0_ballastOf_16 : decode cX0_ballastOf 16 = .ok (.iconst 0, 1) := by decide +kernel
theorem dX0_ballastOf_17 : decode cX0_ballastOf 17 = .ok (.ireturn, 1) := by decide +kernel
set_option maxRecDepth 20000 in
theorem ggX0_add_X0_isPlace : GoodIn wsX0_add wsX0_isPlace := goodIn_r _ [5] (by decide +kernel) (by decide +kernel)
set_option maxRecDepth 20000 in
theorem gX0_add_X0_isPlace : GoodIn wsX0_add (va_wsS RX0 48 yX0_isPlace wsX0_isPlace) := goodIn_app (goodIn_of _ (by decide +kernel)) ggX0_add_X0_isPlace
set_option maxRecDepth 20000 in
theorem ggX0_add_X0_become : GoodIn wsX0_add wsX0_become := goodIn_r _ [9, 10, 11, 12, 13, 14, 4, 15, 1, 23, 24, 25, 26, 27, 28, 29, 30, 31] (by decide +kernel) (by decide +kernel)
set_option maxRecDepth 20000 in
theorem gX0_add_X0_become : GoodIn wsX0_add (wsV RX0 51 RX0 yX0_become wsX0_become) := goodIn_app (goodIn_of _ (by decide +kernel)) ggX0_add_X0_become
set_option maxRecDepth 20000 in
theorem ggX0_add_X0_put : GoodIn wsX0_add wsX0_put := goodIn_r _ [19, 20, 21, 22, 12, 13, 14, 4, 15, 1, 2, 3, 5, 23, 24, 25, 26, 27, 28, 29, 30, 31] (by decide +kernel) (by decide +kernel)
set_option maxRecDepth 20000 in
theorem gX0_add_X0_put : GoodIn wsX0_add (wsV RX0 55 RX0 yX0_put wsX0_put) := goodIn_app (goodIn_of _ (by decide +kernel)) ggX0_add_X0_put
theorem dX0_add_0 : decode cX0_add 0 = .ok (.aload_n 0, 1) := by decide +kernel
theorem dX0_add_1 : decode cX0_add 1 = .ok (.getfield 22, 3) := by decide +kernel
theorem dX0_add_4 : decode cX0_add 4 = .ok (.bipush 8, 2) := by decide +kernel
theorem dX0_add_6 : decode cX0_add 6 = .ok (.if_icmp .ge 10, 3) := by decide +kernel
theorem dX0_add_9 : decode cX0_add 9 = .ok (.iload_n 3, 1) := by decide +kernel
theorem dX0_add_10 : decode cX0_add 10 = .ok (.invokestatic 48, 3) := by decide +kernel
theorem dX0_add_13 : decode cX0_add 13 = .ok (.ifCond .ne 5, 3) := by decide +kernel
theorem dX0_add_16 : decode cX0_add 16 = .ok (.iconst 0, 1) := by decide +kernel
theorem dX0_add_17 : decode cX0_add 17 = .ok (.ireturn, 1) := by decide +kernel
theorem dX0_add_18 : decode cX0_add 18 = .ok (.aload_n 0, 1) := by decide +kernel
theorem dX0_add_19 : decode cX0_add 19 = .ok (.dup, 1) := by decide +kernel
theorem dX0_add_20 : decode cX0_add 20 = .ok (.getfield 22, 3) := by decide +kernel
theorem dX0_add_23 : decode cX0_add 23 = .ok (.iconst 1, 1) := by decide +kernel
theorem dX0_add_24 : decode cX0_add 24 = .ok (.iadd, 1) := by decide +kernel
theorem dX0_add_25 : decode cX0_add 25 = .ok (.putfield 22, 3) := by decide +kernel
theorem dX0_add_28 : decode cX0_add 28 = .ok (.aload_n 0, 1) := by decide +kernel
theorem dX0_add_29 : decode cX0_add 29 = .ok (.aload_n 0, 1) := by decide +kernel
theorem dX0_add_30 : decode cX0_add 30 = .ok (.getfield 22, 3) := by decide +kernel
theorem dX0_add_33 : decode cX0_add 33 = .ok (.iconst 1, 1) := by decide +kernel
theorem dX0_add_34 : decode cX0_add 34 = .ok (.isub, 1) := by decide +kernel
theorem dX0_add_35 : decode cX0_add 35 = .ok (.iload_n 1, 1) := by decide +kernel
theorem dX0_add_36 : decode cX0_add 36 = .ok (.iload_n 2, 1) := by decide +kernel
theorem dX0_add_37 : decode cX0_add 37 = .ok (.invokevirtual 51, 3) := by decide +kernel
theorem dX0_add_40 : decode cX0_add 40 = .ok (.aload_n 0, 1) := by decide +kernel
theorem dX0_add_41 : decode cX0_add 41 = .ok (.aload_n 0, 1) := by decide +kernel
theorem dX0_add_42 : decode cX0_add 42 = .ok (.getfield 22, 3) := by decide +kernel
theorem dX0_add_45 : decode cX0_add 45 = .ok (.iconst 1, 1) := by decide +kernel
theorem dX0_add_46 : decode cX0_add 46 = .ok (.isub, 1) := by decide +kernel
theorem dX0_add_47 : decode cX0_add 47 = .ok (.iload_n 3, 1) := by decide +kernel
theorem dX0_add_48 : decode cX0_add 48 = .ok (.invokevirtual 55, 3) := by decide +kernel
theorem dX0_add_51 : decode cX0_add 51 = .ok (.ireturn, 1) := by decide +kernel
set_option maxRecDepth 20000 in
theorem ggX0_put_X0_has : GoodIn wsX0_put wsX0_has := goodIn_r _ [8, 9, 13, 14, 15, 16, 17, 18, 19, 20, 21] (by decide +kernel) (by decide +kernel)
set_option maxRecDepth 20000 in
theorem gX0_put_X0_has : GoodIn wsX0_put (wsV RX0 41 RX0 yX0_has wsX0_has) := goodIn_app (goodIn_of _ (by decide +kernel)) ggX0_put_X0_has
set_option maxRecDepth 20000 in
theorem ggX0_put_X0_isPlace : GoodIn wsX0_put wsX0_isPlace := goodIn_r _ [12] (by decide +kernel) (by decide +kernel)
set_option maxRecDepth 20000 in
theorem gX0_put_X0_isPlace : GoodIn wsX0_put (va_wsS RX0 48 yX0_isPlace wsX0_isPlace) := goodIn_app (goodIn_of _ (by decide +kernel)) ggX0_put_X0_isPlace
theorem dX0_put_0 : decode cX0_put 0 = .ok (.aload_n 0, 1) := by decide +kernel
theorem dX0_put_1 : decode cX0_put 1 = .ok (.iload_n 1, 1) := by decide +kernel
theorem dX0_put_2 : decode cX0_put 2 = .ok (.invokevirtual 41, 3) := by decide +kernel
theorem dX0_put_5 : decode cX0_put 5 = .ok (.ifCond .eq 10, 3) := by decide +kernel
theorem dX0_put_8 : decode cX0_put 8 = .ok (.iload_n 2, 1) := by decide +kernel
theorem dX0_put_9 : decode cX0_put 9 = .ok (.invokestatic 48, 3) := by decide +kernel
theorem dX0_put_12 : decode cX0_put 12 = .ok (.ifCond .ne 5, 3) := by decide +kernel
theorem dX0_put_15 : decode cX0_put 15 = .ok (.iconst 0, 1) := by decide +kernel
theorem dX0_put_16 : decode cX0_put 16 = .ok (.ireturn, 1) := by decide +kernel
theorem dX0_put_17 : decode cX0_put 17 = .ok (.aload_n 0, 1) := by decide +kernel
theorem dX0_put_18 : decode cX0_put 18 = .ok (.getfield 35, 3) := by decide +kernel
theorem dX0_put_21 : decode cX0_put 21 = .ok (.iload_n 1, 1) := by decide +kernel
theorem dX0_put_22 : decode cX0_put 22 = .ok (.iload_n 2, 1) := by decide +kernel
theorem dX0_put_23 : decode cX0_put 23 = .ok (.iastore, 1) := by decide +kernel
theorem dX0_put_24 : decode cX0_put 24 = .ok (.aload_n 0, 1) := by decide +kernel
theorem dX0_put_25 : decode cX0_put 25 = .ok (.getfield 38, 3) := by decide +kernel
theorem dX0_put_28 : decode cX0_put 28 = .ok (.iload_n 1, 1) := by decide +kernel
theorem dX0_put_29 : decode cX0_put 29 = .ok (.aload_n 0, 1) := by decide +kernel
theorem dX0_put_30 : decode cX0_put 30 = .ok (.getfield 19, 3) := by decide +kernel
theorem dX0_put_33 : decode cX0_put 33 = .ok (.iastore, 1) := by decide +kernel
theorem dX0_put_34 : decode cX0_put 34 = .ok (.iconst 1, 1) := by decide +kernel
theorem dX0_put_35 : decode cX0_put 35 = .ok (.ireturn, 1) := by decide +kernel
set_option maxRecDepth 20000 in
theorem ggX0_become_X0_has : GoodIn wsX0_become wsX0_has := goodIn_r _ [7, 8, 9, 10, 11, 12, 13, 14, 15, 16, 17] (by decide +kernel) (by decide +kernel)
set_option maxRecDepth 20000 in
theorem gX0_become_X0_has : GoodIn wsX0_become (wsV RX0 41 RX0 yX0_has wsX0_has) := goodIn_app (goodIn_of _ (by decide +kernel)) ggX0_become_X0_has
theorem dX0_become_0 : decode cX0_become 0 = .ok (.aload_n 0, 1) := by decide +kernel
theorem dX0_become_1 : decode cX0_become 1 = .ok (.iload_n 1, 1) := by decide +kernel
theorem dX0_become_2 : decode cX0_become 2 = .ok (.invokevirtual 41, 3) := by decide +kernel
theorem dX0_become_5 : decode cX0_become 5 = .ok (.ifCond .eq 17, 3) := by decide +kernel
theorem dX0_become_8 : decode cX0_become 8 = .ok (.aload_n 0, 1) := by decide +kernel
theorem dX0_become_9 : decode cX0_become 9 = .ok (.getfield 29, 3) := by decide +kernel
theorem dX0_become_12 : decode cX0_become 12 = .ok (.iload_n 1, 1) := by decide +kernel
theorem dX0_become_13 : decode cX0_become 13 = .ok (.iload_n 2, 1) := by decide +kernel
theorem dX0_become_14 : decode cX0_become 14 = .ok (.iastore, 1) := by decide +kernel
theorem dX0_become_15 : decode cX0_become 15 = .ok (.aload_n 0, 1) := by decide +kernel
theorem dX0_become_16 : decode cX0_become 16 = .ok (.getfield 32, 3) := by decide +kernel
theorem dX0_become_19 : decode cX0_become 19 = .ok (.iload_n 1, 1) := by decide +kernel
theorem dX0_become_20 : decode cX0_become 20 = .ok (.iload_n 3, 1) := by decide +kernel
theorem dX0_become_21 : decode cX0_become 21 = .ok (.iastore, 1) := by decide +kernel
theorem dX0_become_22 : decode cX0_become 22 = .ok (.return_, 1) := by decide +kernel
set_option maxRecDepth 20000 in
theorem ggX0_load_X0_isSide : GoodIn wsX0_load wsX0_isSide := goodIn_r _ [5] (by decide +kernel) (by decide +kernel)
set_option maxRecDepth 20000 in
theorem gX0_load_X0_isSide : GoodIn wsX0_load (va_wsS RX0 45 yX0_isSide wsX0_isSide) := goodIn_app (goodIn_of _ (by decide +kernel)) ggX0_load_X0_isSide
theorem dX0_load_0 : decode cX0_load 0 = .ok (.iload_n 1, 1) := by decide +kernel
theorem dX0_load_1 : decode cX0_load 1 = .ok (.invokestatic 45, 3) := by decide +kernel
theorem dX0_load_4 : decode cX0_load 4 = .ok (.ifCond .eq 13, 3) := by decide +kernel
theorem dX0_load_7 : decode cX0_load 7 = .ok (.iload_n 2, 1) := by decide +kernel
theorem dX0_load_8 : decode cX0_load 8 = .ok (.ifCond .lt 9, 3) := by decide +kernel
theorem dX0_load_11 : decode cX0_load 11 = .ok (.iload_n 2, 1) := by decide +kernel
theorem dX0_load_12 : decode cX0_load 12 = .ok (.bipush 50, 2) := by decide +kernel
theorem dX0_load_14 : decode cX0_load 14 = .ok (.if_icmp .le 5, 3) := by decide +kernel
theorem dX0_load_17 : decode cX0_load 17 = .ok (.iconst 0, 1) := by decide +kernel
theorem dX0_load_18 : decode cX0_load 18 = .ok (.ireturn, 1) := by decide +kernel
theorem dX0_load_19 : decode cX0_load 19 = .ok (.aload_n 0, 1) := by decide +kernel
theorem dX0_load_20 : decode cX0_load 20 = .ok (.getfield 25, 3) := by decide +kernel
theorem dX0_load_23 : decode cX0_load 23 = .ok (.iload_n 1, 1) := by decide +kernel
theorem dX0_load_24 : decode cX0_load 24 = .ok (.iload_n 2, 1) := by decide +kernel
theorem dX0_load_25 : decode cX0_load 25 = .ok (.iastore, 1) := by decide +kernel
theorem dX0_load_26 : decode cX0_load 26 = .ok (.iconst 1, 1) := by decide +kernel
theorem dX0_load_27 : decode cX0_load 27 = .ok (.ireturn, 1) := by decide +kernel
set_option maxRecDepth 20000 in
theorem ggX0_lift_X0_isFloor : GoodIn wsX0_lift wsX0_isFloor := goodIn_r _ [5] (by decide +kernel) (by decide +kernel)
set_option maxRecDepth 20000 in
theorem gX0_lift_X0_isFloor : GoodIn wsX0_lift (va_wsS RX0 59 yX0_isFloor wsX0_isFloor) := goodIn_app (goodIn_of _ (by decide +kernel)) ggX0_lift_X0_isFloor
theorem dX0_lift_0 : decode cX0_lift 0 = .ok (.iload_n 1, 1) := by decide +kernel
theorem dX0_lift_1 : decode cX0_lift 1 = .ok (.invokestatic 59, 3) := by decide +kernel
theorem dX0_lift_4 : decode cX0_lift 4 = .ok (.ifCond .ne 5, 3) := by decide +kernel
theorem dX0_lift_7 : decode cX0_lift 7 = .ok (.iconst 0, 1) := by decide +kernel
theorem dX0_lift_8 : decode cX0_lift 8 = .ok (.ireturn, 1) := by decide +kernel
theorem dX0_lift_9 : decode cX0_lift 9 = .ok (.aload_n 0, 1) := by decide +kernel
theorem dX0_lift_10 : decode cX0_lift 10 = .ok (.iload_n 1, 1) := by decide +kernel
theorem dX0_lift_11 : decode cX0_lift 11 = .ok (.putfield 11, 3) := by decide +kernel
theorem dX0_lift_14 : decode cX0_lift 14 = .ok (.iconst 1, 1) := by decide +kernel
theorem dX0_lift_15 : decode cX0_lift 15 = .ok (.ireturn, 1) := by decide +kernel
set_option maxRecDepth 20000 in
theorem ggX0_switchDoor_X0_isFloor : GoodIn wsX0_switchDoor wsX0_isFloor := goodIn_r _ [5] (by decide +kernel) (by decide +kernel)
set_option maxRecDepth 20000 in
theorem gX0_switchDoor_X0_isFloor : GoodIn wsX0_switchDoor (va_wsS RX0 59 yX0_isFloor wsX0_isFloor) := goodIn_app (goodIn_of _ (by decide +kernel)) ggX0_switchDoor_X0_isFloor
theorem dX0_switchDoor_0 : decode cX0_switchDoor 0 = .ok (.iload_n 1, 1) := by decide +kernel
theorem dX0_switchDoor_1 : decode cX0_switchDoor 1 = .ok (.invokestatic 59, 3) := by decide +kernel
theorem dX0_switchDoor_4 : decode cX0_switchDoor 4 = .ok (.ifCond .ne 5, 3) := by decide +kernel
theorem dX0_switchDoor_7 : decode cX0_switchDoor 7 = .ok (.iconst 0, 1) := by decide +kernel
theorem dX0_switchDoor_8 : decode cX0_switchDoor 8 = .ok (.ireturn, 1) := by decide +kernel
theorem dX0_switchDoor_9 : decode cX0_switchDoor 9 = .ok (.aload_n 0, 1) := by decide +kernel
theorem dX0_switchDoor_10 : decode cX0_switchDoor 10 = .ok (.dup, 1) := by decide +kernel
theorem dX0_switchDoor_11 : decode cX0_switchDoor 11 = .ok (.getfield 16, 3) := by decide +kernel
theorem dX0_switchDoor_14 : decode cX0_switchDoor 14 = .ok (.iconst 1, 1) := by decide +kernel
theorem dX0_switchDoor_15 : decode cX0_switchDoor 15 = .ok (.iload_n 1, 1) := by decide +kernel
theorem dX0_switchDoor_16 : decode cX0_switchDoor 16 = .ok (.ishl, 1) := by decide +kernel
theorem dX0_switchDoor_17 : decode cX0_switchDoor 17 = .ok (.ixor, 1) := by decide +kernel
theorem dX0_switchDoor_18 : decode cX0_switchDoor 18 = .ok (.putfield 16, 3) := by decide +kernel
theorem dX0_switchDoor_21 : decode cX0_switchDoor 21 = .ok (.iconst 1, 1) := by decide +kernel
theorem dX0_switchDoor_22 : decode cX0_switchDoor 22 = .ok (.ireturn, 1) := by decide +kernel
theorem dX0_hasDays_0 : decode cX0_hasDays 0 = .ok (.iload_n 1, 1) := by decide +kernel
theorem dX0_hasDays_1 : decode cX0_hasDays 1 = .ok (.iconst 1, 1) := by decide +kernel
theorem dX0_hasDays_2 : decode cX0_hasDays 2 = .ok (.if_icmp .lt 25, 3) := by decide +kernel
theorem dX0_hasDays_5 : decode cX0_hasDays 5 = .ok (.iload_n 1, 1) := by decide +kernel
theorem dX0_hasDays_6 : decode cX0_hasDays 6 = .ok (.bipush 60, 2) := by decide +kernel
theorem dX0_hasDays_8 : decode cX0_hasDays 8 = .ok (.if_icmp .gt 19, 3) := by decide +kernel
theorem dX0_hasDays_11 : decode cX0_hasDays 11 = .ok (.aload_n 0, 1) := by decide +kernel
theorem dX0_hasDays_12 : decode cX0_hasDays 12 = .ok (.getfield 19, 3) := by decide +kernel
theorem dX0_hasDays_15 : decode cX0_hasDays 15 = .ok (.iload_n 1, 1) := by decide +kernel
theorem dX0_hasDays_16 : decode cX0_hasDays 16 = .ok (.iadd, 1) := by decide +kernel
theorem dX0_hasDays_17 : decode cX0_hasDays 17 = .ok (.sipush 999, 3) := by decide +kernel
theorem dX0_hasDays_20 : decode cX0_hasDays 20 = .ok (.if_icmp .gt 7, 3) := by decide +kernel
theorem dX0_hasDays_23 : decode cX0_hasDays 23 = .ok (.iconst 1, 1) := by decide +kernel
theorem dX0_hasDays_24 : decode cX0_hasDays 24 = .ok (.goto 4, 3) := by decide +kernel
theorem dX0_hasDays_27 : decode cX0_hasDays 27 = .ok (.iconst 0, 1) := by decide +kernel
theorem dX0_hasDays_28 : decode cX0_hasDays 28 = .ok (.ireturn, 1) := by decide +kernel
set_option maxRecDepth 20000 in
theorem ggX0_pass_X0_hasDays : GoodIn wsX0_pass wsX0_hasDays := goodIn_r _ [7, 1, 42, 43, 44, 45, 46, 47, 48, 49, 50] (by decide +kernel) (by decide +kernel)
set_option maxRecDepth 20000 in
theorem gX0_pass_X0_hasDays : GoodIn wsX0_pass (wsV RX0 62 RX0 yX0_hasDays wsX0_hasDays) := goodIn_app (goodIn_of _ (by decide +kernel)) ggX0_pass_X0_hasDays
set_option maxRecDepth 20000 in
theorem ggX0_pass_X0_pullAfter : GoodIn wsX0_pass wsX0_pullAfter := goodIn_r _ [11, 12, 13, 14, 15, 16, 17, 6, 18, 1, 19, 20, 21, 22, 23, 24, 25, 26, 27, 28, 29, 30, 31, 32, 42, 43, 44, 45, 46, 47, 48, 49, 50] (by decide +kernel) (by decide +kernel)
set_option maxRecDepth 20000 in
theorem gX0_pass_X0_pullAfter : GoodIn wsX0_pass (wsV RX0 65 RX0 yX0_pullAfter wsX0_pullAfter) := goodIn_app (goodIn_of _ (by decide +kernel)) ggX0_pass_X0_pullAfter
set_option maxRecDepth 20000 in
theorem ggX0_pass_X0_moved : GoodIn wsX0_pass wsX0_moved := goodIn_r _ [35, 21, 22, 23, 24, 26, 27, 28, 36, 37, 6, 38, 39, 40, 41] (by decide +kernel) (by decide +kernel)
set_option maxRecDepth 20000 in
theorem gX0_pass_X0_moved : GoodIn wsX0_pass (va_wsS RX0 69 yX0_moved wsX0_moved) := goodIn_app (goodIn_of _ (by decide +kernel)) ggX0_pass_X0_moved
theorem dX0_pass_0 : decode cX0_pass 0 = .ok (.aload_n 0, 1) := by decide +kernel
theorem dX0_pass_1 : decode cX0_pass 1 = .ok (.iload_n 1, 1) := by decide +kernel
theorem dX0_pass_2 : decode cX0_pass 2 = .ok (.invokevirtual 62, 3) := by decide +kernel
theorem dX0_pass_5 : decode cX0_pass 5 = .ok (.ifCond .ne 5, 3) := by decide +kernel
theorem dX0_pass_8 : decode cX0_pass 8 = .ok (.iconst 0, 1) := by decide +kernel
theorem dX0_pass_9 : decode cX0_pass 9 = .ok (.ireturn, 1) := by decide +kernel
theorem dX0_pass_10 : decode cX0_pass 10 = .ok (.iconst 0, 1) := by decide +kernel
theorem dX0_pass_11 : decode cX0_pass 11 = .ok (.istore_n 2, 1) := by decide +kernel
theorem dX0_pass_12 : decode cX0_pass 12 = .ok (.iload_n 2, 1) := by decide +kernel
theorem dX0_pass_13 : decode cX0_pass 13 = .ok (.iload_n 1, 1) := by decide +kernel
theorem dX0_pass_14 : decode cX0_pass 14 = .ok (.if_icmp .ge 35, 3) := by decide +kernel
theorem dX0_pass_17 : decode cX0_pass 17 = .ok (.aload_n 0, 1) := by decide +kernel
theorem dX0_pass_18 : decode cX0_pass 18 = .ok (.dup, 1) := by decide +kernel
theorem dX0_pass_19 : decode cX0_pass 19 = .ok (.getfield 19, 3) := by decide +kernel
theorem dX0_pass_22 : decode cX0_pass 22 = .ok (.iconst 1, 1) := by decide +kernel
theorem dX0_pass_23 : decode cX0_pass 23 = .ok (.iadd, 1) := by decide +kernel
theorem dX0_pass_24 : decode cX0_pass 24 = .ok (.putfield 19, 3) := by decide +kernel
theorem dX0_pass_27 : decode cX0_pass 27 = .ok (.aload_n 0, 1) := by decide +kernel
theorem dX0_pass_28 : decode cX0_pass 28 = .ok (.aload_n 0, 1) := by decide +kernel
theorem dX0_pass_29 : decode cX0_pass 29 = .ok (.getfield 11, 3) := by decide +kernel
theorem dX0_pass_32 : decode cX0_pass 32 = .ok (.aload_n 0, 1) := by decide +kernel
theorem dX0_pass_33 : decode cX0_pass 33 = .ok (.iconst 0, 1) := by decide +kernel
theorem dX0_pass_34 : decode cX0_pass 34 = .ok (.invokevirtual 65, 3) := by decide +kernel
theorem dX0_pass_37 : decode cX0_pass 37 = .ok (.invokestatic 69, 3) := by decide +kernel
theorem dX0_pass_40 : decode cX0_pass 40 = .ok (.putfield 11, 3) := by decide +kernel
theorem dX0_pass_43 : decode cX0_pass 43 = .ok (.iinc 2 1, 3) := by decide +kernel
theorem dX0_pass_46 : decode cX0_pass 46 = .ok (.goto (-34), 3) := by decide +kernel
theorem dX0_pass_49 : decode cX0_pass 49 = .ok (.iconst 1, 1) := by decide +kernel
theorem dX0_pass_50 : decode cX0_pass 50 = .ok (.ireturn, 1) := by decide +kernel
set_option maxRecDepth 20000 in
theorem ggX0_weighs_X0_has : GoodIn wsX0_weighs wsX0_has := goodIn_r _ [16, 17, 18, 19, 20, 21, 22, 23, 24, 25, 26] (by decide +kernel) (by decide +kernel)
set_option maxRecDepth 20000 in
theorem gX0_weighs_X0_has : GoodIn wsX0_weighs (wsV RX0 41 RX0 yX0_has wsX0_has) := goodIn_app (goodIn_of _ (by decide +kernel)) ggX0_weighs_X0_has
theorem dX0_weighs_0 : decode cX0_weighs 0 = .ok (.aload_n 0, 1) := by decide +kernel
theorem dX0_weighs_1 : decode cX0_weighs 1 = .ok (.iload_n 1, 1) := by decide +kernel
theorem dX0_weighs_2 : decode cX0_weighs 2 = .ok (.invokevirtual 41, 3) := by decide +kernel
theorem dX0_weighs_5 : decode cX0_weighs 5 = .ok (.ifCond .ne 5, 3) := by decide +kernel
theorem dX0_weighs_8 : decode cX0_weighs 8 = .ok (.iconst 0, 1) := by decide +kernel
theorem dX0_weighs_9 : decode cX0_weighs 9 = .ok (.ireturn, 1) := by decide +kernel
theorem dX0_weighs_10 : decode cX0_weighs 10 = .ok (.aload_n 0, 1) := by decide +kernel
theorem dX0_weighs_11 : decode cX0_weighs 11 = .ok (.getfield 19, 3) := by decide +kernel
theorem dX0_weighs_14 : decode cX0_weighs 14 = .ok (.iload_n 2, 1) := by decide +kernel
theorem dX0_weighs_15 : decode cX0_weighs 15 = .ok (.iadd, 1) := by decide +kernel
theorem dX0_weighs_16 : decode cX0_weighs 16 = .ok (.istore_n 3, 1) := by decide +kernel
theorem dX0_weighs_17 : decode cX0_weighs 17 = .ok (.aload_n 0, 1) := by decide +kernel
theorem dX0_weighs_18 : decode cX0_weighs 18 = .ok (.getfield 32, 3) := by decide +kernel
theorem dX0_weighs_21 : decode cX0_weighs 21 = .ok (.iload_n 1, 1) := by decide +kernel
theorem dX0_weighs_22 : decode cX0_weighs 22 = .ok (.iaload, 1) := by decide +kernel
theorem dX0_weighs_23 : decode cX0_weighs 23 = .ok (.iconst 1, 1) := by decide +kernel
theorem dX0_weighs_24 : decode cX0_weighs 24 = .ok (.iadd, 1) := by decide +kernel
theorem dX0_weighs_25 : decode cX0_weighs 25 = .ok (.istore 4, 2) := by decide +kernel
theorem dX0_weighs_27 : decode cX0_weighs 27 = .ok (.iload 4, 2) := by decide +kernel
theorem dX0_weighs_29 : decode cX0_weighs 29 = .ok (.iload_n 3, 1) := by decide +kernel
theorem dX0_weighs_30 : decode cX0_weighs 30 = .ok (.aload_n 0, 1) := by decide +kernel
theorem dX0_weighs_31 : decode cX0_weighs 31 = .ok (.getfield 38, 3) := by decide +kernel
theorem dX0_weighs_34 : decode cX0_weighs 34 = .ok (.iload_n 1, 1) := by decide +kernel
theorem dX0_weighs_35 : decode cX0_weighs 35 = .ok (.iaload, 1) := by decide +kernel
theorem dX0_weighs_36 : decode cX0_weighs 36 = .ok (.isub, 1) := by decide +kernel
theorem dX0_weighs_37 : decode cX0_weighs 37 = .ok (.iconst 2, 1) := by decide +kernel
theorem dX0_weighs_38 : decode cX0_weighs 38 = .ok (.idiv, 1) := by decide +kernel
theorem dX0_weighs_39 : decode cX0_weighs 39 = .ok (.bipush 20, 2) := by decide +kernel
theorem dX0_weighs_41 : decode cX0_weighs 41 = .ok (.invokestatic 73, 3) := by decide +kernel
theorem dX0_weighs_44 : decode cX0_weighs 44 = .ok (.iadd, 1) := by decide +kernel
theorem dX0_weighs_45 : decode cX0_weighs 45 = .ok (.istore 5, 2) := by decide +kernel
theorem dX0_weighs_47 : decode cX0_weighs 47 = .ok (.aload_n 0, 1) := by decide +kernel
theorem dX0_weighs_48 : decode cX0_weighs 48 = .ok (.getfield 29, 3) := by decide +kernel
theorem dX0_weighs_51 : decode cX0_weighs 51 = .ok (.iload_n 1, 1) := by decide +kernel
theorem dX0_weighs_52 : decode cX0_weighs 52 = .ok (.iaload, 1) := by decide +kernel
theorem dX0_weighs_53 : decode cX0_weighs 53 = .ok (.tableswitch 78 1 5 #[35, 40, 43, 61, 68], 35) := by decide +kernel
theorem dX0_weighs_88 : decode cX0_weighs 88 = .ok (.iconst 2, 1) := by decide +kernel
theorem dX0_weighs_89 : decode cX0_weighs 89 = .ok (.iload 4, 2) := by decide +kernel
theorem dX0_weighs_91 : decode cX0_weighs 91 = .ok (.imul, 1) := by decide +kernel
theorem dX0_weighs_92 : decode cX0_weighs 92 = .ok (.ireturn, 1) := by decide +kernel
theorem dX0_weighs_93 : decode cX0_weighs 93 = .ok (.iload 5, 2) := by decide +kernel
theorem dX0_weighs_95 : decode cX0_weighs 95 = .ok (.ireturn, 1) := by decide +kernel
theorem dX0_weighs_96 : decode cX0_weighs 96 = .ok (.iload_n 3, 1) := by decide +kernel
theorem dX0_weighs_97 : decode cX0_weighs 97 = .ok (.bipush 10, 2) := by decide +kernel
theorem dX0_weighs_99 : decode cX0_weighs 99 = .ok (.irem, 1) := by decide +kernel
theorem dX0_weighs_100 : decode cX0_weighs 100 = .ok (.iconst 5, 1) := by decide +kernel
theorem dX0_weighs_101 : decode cX0_weighs 101 = .ok (.if_icmp .ge 8, 3) := by decide +kernel
theorem dX0_weighs_104 : decode cX0_weighs 104 = .ok (.iload 4, 2) := by decide +kernel
theorem dX0_weighs_106 : decode cX0_weighs 106 = .ok (.goto 7, 3) := by decide +kernel
theorem dX0_weighs_109 : decode cX0_weighs 109 = .ok (.iconst 3, 1) := by decide +kernel
theorem dX0_weighs_110 : decode cX0_weighs 110 = .ok (.iload 4, 2) := by decide +kernel
theorem dX0_weighs_112 : decode cX0_weighs 112 = .ok (.imul, 1) := by decide +kernel
theorem dX0_weighs_113 : decode cX0_weighs 113 = .ok (.ireturn, 1) := by decide +kernel
theorem dX0_weighs_114 : decode cX0_weighs 114 = .ok (.iconst 2, 1) := by decide +kernel
theorem dX0_weighs_115 : decode cX0_weighs 115 = .ok (.iload 4, 2) := by decide +kernel
theorem dX0_weighs_117 : decode cX0_weighs 117 = .ok (.imul, 1) := by decide +kernel
theorem dX0_weighs_118 : decode cX0_weighs 118 = .ok (.iconst 3, 1) := by decide +kernel
theorem dX0_weighs_119 : decode cX0_weighs 119 = .ok (.iadd, 1) := by decide +kernel
theorem dX0_weighs_120 : decode cX0_weighs 120 = .ok (.ireturn, 1) := by decide +kernel
theorem dX0_weighs_121 : decode cX0_weighs 121 = .ok (.bipush 30, 2) := by decide +kernel
theorem dX0_weighs_123 : decode cX0_weighs 123 = .ok (.iload 5, 2) := by decide +kernel
theorem dX0_weighs_125 : decode cX0_weighs 125 = .ok (.isub, 1) := by decide +kernel
theorem dX0_weighs_126 : decode cX0_weighs 126 = .ok (.iconst 0, 1) := by decide +kernel
theorem dX0_weighs_127 : decode cX0_weighs 127 = .ok (.invokestatic 78, 3) := by decide +kernel
theorem dX0_weighs_130 : decode cX0_weighs 130 = .ok (.ireturn, 1) := by decide +kernel
theorem dX0_weighs_131 : decode cX0_weighs 131 = .ok (.iload 4, 2) := by decide +kernel
theorem dX0_weighs_133 : decode cX0_weighs 133 = .ok (.ireturn, 1) := by decide +kernel
set_option maxRecDepth 20000 in
theorem ggX0_weighsAll_X0_weighs : GoodIn wsX0_weighsAll wsX0_weighs := goodIn_r _ [6, 7, 8, 9, 10, 11, 12, 13, 14, 15, 16, 17, 18, 19, 20, 5, 21, 1, 22, 23, 24, 25, 26, 27, 28, 29, 30] (by decide +kernel) (by decide +kernel)
set_option maxRecDepth 20000 in
theorem gX0_weighsAll_X0_weighs : GoodIn wsX0_weighsAll (wsV RX0 81 RX0 yX0_weighs wsX0_weighs) := goodIn_app (goodIn_of _ (by decide +kernel)) ggX0_weighsAll_X0_weighs
theorem dX0_weighsAll_0 : decode cX0_weighsAll 0 = .ok (.iconst 0, 1) := by decide +kernel
theorem dX0_weighsAll_1 : decode cX0_weighsAll 1 = .ok (.istore_n 1, 1) := by decide +kernel
theorem dX0_weighsAll_2 : decode cX0_weighsAll 2 = .ok (.iconst 0, 1) := by decide +kernel
theorem dX0_weighsAll_3 : decode cX0_weighsAll 3 = .ok (.istore_n 2, 1) := by decide +kernel
theorem dX0_weighsAll_4 : decode cX0_weighsAll 4 = .ok (.iload_n 2, 1) := by decide +kernel
theorem dX0_weighsAll_5 : decode cX0_weighsAll 5 = .ok (.aload_n 0, 1) := by decide +kernel
theorem dX0_weighsAll_6 : decode cX0_weighsAll 6 = .ok (.getfield 22, 3) := by decide +kernel
theorem dX0_weighsAll_9 : decode cX0_weighsAll 9 = .ok (.if_icmp .ge 18, 3) := by decide +kernel
theorem dX0_weighsAll_12 : decode cX0_weighsAll 12 = .ok (.iload_n 1, 1) := by decide +kernel
theorem dX0_weighsAll_13 : decode cX0_weighsAll 13 = .ok (.aload_n 0, 1) := by decide +kernel
theorem dX0_weighsAll_14 : decode cX0_weighsAll 14 = .ok (.iload_n 2, 1) := by decide +kernel
theorem dX0_weighsAll_15 : decode cX0_weighsAll 15 = .ok (.iconst 0, 1) := by decide +kernel
theorem dX0_weighsAll_16 : decode cX0_weighsAll 16 = .ok (.invokevirtual 81, 3) := by decide +kernel
theorem dX0_weighsAll_19 : decode cX0_weighsAll 19 = .ok (.iadd, 1) := by decide +kernel
theorem dX0_weighsAll_20 : decode cX0_weighsAll 20 = .ok (.istore_n 1, 1) := by decide +kernel
theorem dX0_weighsAll_21 : decode cX0_weighsAll 21 = .ok (.iinc 2 1, 3) := by decide +kernel
theorem dX0_weighsAll_24 : decode cX0_weighsAll 24 = .ok (.goto (-20), 3) := by decide +kernel
theorem dX0_weighsAll_27 : decode cX0_weighsAll 27 = .ok (.iload_n 1, 1) := by decide +kernel
theorem dX0_weighsAll_28 : decode cX0_weighsAll 28 = .ok (.ireturn, 1) := by decide +kernel
set_option maxRecDepth 20000 in
theorem ggX0_weightOf_X0_ballastOf : GoodIn wsX0_weightOf wsX0_ballastOf := goodIn_r _ [6, 7, 8, 9, 5, 10, 35, 36, 37, 38, 39, 40, 41, 42, 43] (by decide +kernel) (by decide +kernel)
set_option maxRecDepth 20000 in
theorem gX0_weightOf_X0_ballastOf : GoodIn wsX0_weightOf (wsV RX0 84 RX0 yX0_ballastOf wsX0_ballastOf) := goodIn_app (goodIn_of _ (by decide +kernel)) ggX0_weightOf_X0_ballastOf
set_option maxRecDepth 20000 in
theorem ggX0_weightOf_X0_placeOf : GoodIn wsX0_weightOf wsX0_placeOf := goodIn_r _ [14, 15, 16, 17, 18, 5, 19, 1, 35, 36, 37, 38, 39, 40, 41, 42, 43] (by decide +kernel) (by decide +kernel)
set_option maxRecDepth 20000 in
theorem gX0_weightOf_X0_placeOf : GoodIn wsX0_weightOf (wsV RX0 87 RX0 yX0_placeOf wsX0_placeOf) := goodIn_app (goodIn_of _ (by decide +kernel)) ggX0_weightOf_X0_placeOf
set_option maxRecDepth 20000 in
theorem ggX0_weightOf_X0_weighs : GoodIn wsX0_weightOf wsX0_weighs := goodIn_r _ [23, 24, 25, 26, 27, 28, 29, 30, 31, 32, 33, 34, 16, 17, 18, 5, 19, 1, 35, 36, 37, 38, 39, 40, 41, 42, 43] (by decide +kernel) (by decide +kernel)
set_option maxRecDepth 20000 in
theorem gX0_weightOf_X0_weighs : GoodIn wsX0_weightOf (wsV RX0 81 RX0 yX0_weighs wsX0_weighs) := goodIn_app (goodIn_of _ (by decide +kernel)) ggX0_weightOf_X0_weighs
theorem dX0_weightOf_0 : decode cX0_weightOf 0 = .ok (.aload_n 0, 1) := by decide +kernel
theorem dX0_weightOf_1 : decode cX0_weightOf 1 = .ok (.iload_n 1, 1) := by decide +kernel
theorem dX0_weightOf_2 : decode cX0_weightOf 2 = .ok (.invokevirtual 84, 3) := by decide +kernel
theorem dX0_weightOf_5 : decode cX0_weightOf 5 = .ok (.istore_n 2, 1) := by decide +kernel
theorem dX0_weightOf_6 : decode cX0_weightOf 6 = .ok (.iconst 0, 1) := by decide +kernel
theorem dX0_weightOf_7 : decode cX0_weightOf 7 = .ok (.istore_n 3, 1) := by decide +kernel
theorem dX0_weightOf_8 : decode cX0_weightOf 8 = .ok (.iload_n 3, 1) := by decide +kernel
theorem dX0_weightOf_9 : decode cX0_weightOf 9 = .ok (.aload_n 0, 1) := by decide +kernel
theorem dX0_weightOf_10 : decode cX0_weightOf 10 = .ok (.getfield 22, 3) := by decide +kernel
theorem dX0_weightOf_13 : decode cX0_weightOf 13 = .ok (.if_icmp .ge 27, 3) := by decide +kernel
theorem dX0_weightOf_16 : decode cX0_weightOf 16 = .ok (.aload_n 0, 1) := by decide +kernel
theorem dX0_weightOf_17 : decode cX0_weightOf 17 = .ok (.iload_n 3, 1) := by decide +kernel
theorem dX0_weightOf_18 : decode cX0_weightOf 18 = .ok (.invokevirtual 87, 3) := by decide +kernel
theorem dX0_weightOf_21 : decode cX0_weightOf 21 = .ok (.iload_n 1, 1) := by decide +kernel
theorem dX0_weightOf_22 : decode cX0_weightOf 22 = .ok (.if_icmp .ne 12, 3) := by decide +kernel
theorem dX0_weightOf_25 : decode cX0_weightOf 25 = .ok (.iload_n 2, 1) := by decide +kernel
theorem dX0_weightOf_26 : decode cX0_weightOf 26 = .ok (.aload_n 0, 1) := by decide +kernel
theorem dX0_weightOf_27 : decode cX0_weightOf 27 = .ok (.iload_n 3, 1) := by decide +kernel
theorem dX0_weightOf_28 : decode cX0_weightOf 28 = .ok (.iconst 0, 1) := by decide +kernel
theorem dX0_weightOf_29 : decode cX0_weightOf 29 = .ok (.invokevirtual 81, 3) := by decide +kernel
theorem dX0_weightOf_32 : decode cX0_weightOf 32 = .ok (.iadd, 1) := by decide +kernel
theorem dX0_weightOf_33 : decode cX0_weightOf 33 = .ok (.istore_n 2, 1) := by decide +kernel
theorem dX0_weightOf_34 : decode cX0_weightOf 34 = .ok (.iinc 3 1, 3) := by decide +kernel
theorem dX0_weightOf_37 : decode cX0_weightOf 37 = .ok (.goto (-29), 3) := by decide +kernel
theorem dX0_weightOf_40 : decode cX0_weightOf 40 = .ok (.iload_n 2, 1) := by decide +kernel
theorem dX0_weightOf_41 : decode cX0_weightOf 41 = .ok (.ireturn, 1) := by decide +kernel
set_option maxRecDepth 20000 in
theorem ggX0_bitsAt_X0_placeOf : GoodIn wsX0_bitsAt wsX0_placeOf := goodIn_r _ [6, 7, 8, 9, 10, 5, 11, 1, 12, 13, 14, 15, 16, 17, 18, 19, 20] (by decide +kernel) (by decide +kernel)
set_option maxRecDepth 20000 in
theorem gX0_bitsAt_X0_placeOf : GoodIn wsX0_bitsAt (wsV RX0 87 RX0 yX0_placeOf wsX0_placeOf) := goodIn_app (goodIn_of _ (by decide +kernel)) ggX0_bitsAt_X0_placeOf
theorem dX0_bitsAt_0 : decode cX0_bitsAt 0 = .ok (.iconst 0, 1) := by decide +kernel
theorem dX0_bitsAt_1 : decode cX0_bitsAt 1 = .ok (.istore_n 2, 1) := by decide +kernel
theorem dX0_bitsAt_2 : decode cX0_bitsAt 2 = .ok (.iconst 0, 1) := by decide +kernel
theorem dX0_bitsAt_3 : decode cX0_bitsAt 3 = .ok (.istore_n 3, 1) := by decide +kernel
theorem dX0_bitsAt_4 : decode cX0_bitsAt 4 = .ok (.iload_n 3, 1) := by decide +kernel
theorem dX0_bitsAt_5 : decode cX0_bitsAt 5 = .ok (.aload_n 0, 1) := by decide +kernel
theorem dX0_bitsAt_6 : decode cX0_bitsAt 6 = .ok (.getfield 22, 3) := by decide +kernel
theorem dX0_bitsAt_9 : decode cX0_bitsAt 9 = .ok (.if_icmp .ge 24, 3) := by decide +kernel
theorem dX0_bitsAt_12 : decode cX0_bitsAt 12 = .ok (.aload_n 0, 1) := by decide +kernel
theorem dX0_bitsAt_13 : decode cX0_bitsAt 13 = .ok (.iload_n 3, 1) := by decide +kernel
theorem dX0_bitsAt_14 : decode cX0_bitsAt 14 = .ok (.invokevirtual 87, 3) := by decide +kernel
theorem dX0_bitsAt_17 : decode cX0_bitsAt 17 = .ok (.iload_n 1, 1) := by decide +kernel
theorem dX0_bitsAt_18 : decode cX0_bitsAt 18 = .ok (.if_icmp .ne 9, 3) := by decide +kernel
theorem dX0_bitsAt_21 : decode cX0_bitsAt 21 = .ok (.iload_n 2, 1) := by decide +kernel
theorem dX0_bitsAt_22 : decode cX0_bitsAt 22 = .ok (.iconst 1, 1) := by decide +kernel
theorem dX0_bitsAt_23 : decode cX0_bitsAt 23 = .ok (.iload_n 3, 1) := by decide +kernel
theorem dX0_bitsAt_24 : decode cX0_bitsAt 24 = .ok (.ishl, 1) := by decide +kernel
theorem dX0_bitsAt_25 : decode cX0_bitsAt 25 = .ok (.ior, 1) := by decide +kernel
theorem dX0_bitsAt_26 : decode cX0_bitsAt 26 = .ok (.istore_n 2, 1) := by decide +kernel
theorem dX0_bitsAt_27 : decode cX0_bitsAt 27 = .ok (.iinc 3 1, 3) := by decide +kernel
theorem dX0_bitsAt_30 : decode cX0_bitsAt 30 = .ok (.goto (-26), 3) := by decide +kernel
theorem dX0_bitsAt_33 : decode cX0_bitsAt 33 = .ok (.iload_n 2, 1) := by decide +kernel
theorem dX0_bitsAt_34 : decode cX0_bitsAt 34 = .ok (.ireturn, 1) := by decide +kernel
set_option maxRecDepth 20000 in
theorem ggX0_pullAfter_X0_weighs : GoodIn wsX0_pullAfter wsX0_weighs := goodIn_r _ [8, 9, 10, 11, 12, 13, 14, 15, 16, 17, 18, 19, 20, 21, 22, 7, 23, 2, 24, 25, 26, 27, 28, 29, 30, 31, 32] (by decide +kernel) (by decide +kernel)
set_option maxRecDepth 20000 in
theorem gX0_pullAfter_X0_weighs : GoodIn wsX0_pullAfter (wsV RX0 81 RX0 yX0_weighs wsX0_weighs) := goodIn_app (goodIn_of _ (by decide +kernel)) ggX0_pullAfter_X0_weighs
theorem dX0_pullAfter_0 : decode cX0_pullAfter 0 = .ok (.aload_n 0, 1) := by decide +kernel
theorem dX0_pullAfter_1 : decode cX0_pullAfter 1 = .ok (.getfield 25, 3) := by decide +kernel
theorem dX0_pullAfter_4 : decode cX0_pullAfter 4 = .ok (.iconst 0, 1) := by decide +kernel
theorem dX0_pullAfter_5 : decode cX0_pullAfter 5 = .ok (.iaload, 1) := by decide +kernel
theorem dX0_pullAfter_6 : decode cX0_pullAfter 6 = .ok (.aload_n 0, 1) := by decide +kernel
theorem dX0_pullAfter_7 : decode cX0_pullAfter 7 = .ok (.getfield 25, 3) := by decide +kernel
theorem dX0_pullAfter_10 : decode cX0_pullAfter 10 = .ok (.iconst 1, 1) := by decide +kernel
theorem dX0_pullAfter_11 : decode cX0_pullAfter 11 = .ok (.iaload, 1) := by decide +kernel
theorem dX0_pullAfter_12 : decode cX0_pullAfter 12 = .ok (.isub, 1) := by decide +kernel
theorem dX0_pullAfter_13 : decode cX0_pullAfter 13 = .ok (.istore_n 2, 1) := by decide +kernel
theorem dX0_pullAfter_14 : decode cX0_pullAfter 14 = .ok (.iconst 0, 1) := by decide +kernel
theorem dX0_pullAfter_15 : decode cX0_pullAfter 15 = .ok (.istore_n 3, 1) := by decide +kernel
theorem dX0_pullAfter_16 : decode cX0_pullAfter 16 = .ok (.iload_n 3, 1) := by decide +kernel
theorem dX0_pullAfter_17 : decode cX0_pullAfter 17 = .ok (.aload_n 0, 1) := by decide +kernel
theorem dX0_pullAfter_18 : decode cX0_pullAfter 18 = .ok (.getfield 22, 3) := by decide +kernel
theorem dX0_pullAfter_21 : decode cX0_pullAfter 21 = .ok (.if_icmp .ge 55, 3) := by decide +kernel
theorem dX0_pullAfter_24 : decode cX0_pullAfter 24 = .ok (.iload_n 3, 1) := by decide +kernel
theorem dX0_pullAfter_25 : decode cX0_pullAfter 25 = .ok (.bipush 8, 2) := by decide +kernel
theorem dX0_pullAfter_27 : decode cX0_pullAfter 27 = .ok (.if_icmp .ge 49, 3) := by decide +kernel
theorem dX0_pullAfter_30 : decode cX0_pullAfter 30 = .ok (.aload_n 0, 1) := by decide +kernel
theorem dX0_pullAfter_31 : decode cX0_pullAfter 31 = .ok (.getfield 35, 3) := by decide +kernel
theorem dX0_pullAfter_34 : decode cX0_pullAfter 34 = .ok (.iload_n 3, 1) := by decide +kernel
theorem dX0_pullAfter_35 : decode cX0_pullAfter 35 = .ok (.iaload, 1) := by decide +kernel
theorem dX0_pullAfter_36 : decode cX0_pullAfter 36 = .ok (.ifCond .ne 15, 3) := by decide +kernel
theorem dX0_pullAfter_39 : decode cX0_pullAfter 39 = .ok (.iload_n 2, 1) := by decide +kernel
theorem dX0_pullAfter_40 : decode cX0_pullAfter 40 = .ok (.aload_n 0, 1) := by decide +kernel
theorem dX0_pullAfter_41 : decode cX0_pullAfter 41 = .ok (.iload_n 3, 1) := by decide +kernel
theorem dX0_pullAfter_42 : decode cX0_pullAfter 42 = .ok (.iload_n 1, 1) := by decide +kernel
theorem dX0_pullAfter_43 : decode cX0_pullAfter 43 = .ok (.invokevirtual 81, 3) := by decide +kernel
theorem dX0_pullAfter_46 : decode cX0_pullAfter 46 = .ok (.iadd, 1) := by decide +kernel
theorem dX0_pullAfter_47 : decode cX0_pullAfter 47 = .ok (.istore_n 2, 1) := by decide +kernel
theorem dX0_pullAfter_48 : decode cX0_pullAfter 48 = .ok (.goto 22, 3) := by decide +kernel
theorem dX0_pullAfter_51 : decode cX0_pullAfter 51 = .ok (.aload_n 0, 1) := by decide +kernel
theorem dX0_pullAfter_52 : decode cX0_pullAfter 52 = .ok (.getfield 35, 3) := by decide +kernel
theorem dX0_pullAfter_55 : decode cX0_pullAfter 55 = .ok (.iload_n 3, 1) := by decide +kernel
theorem dX0_pullAfter_56 : decode cX0_pullAfter 56 = .ok (.iaload, 1) := by decide +kernel
theorem dX0_pullAfter_57 : decode cX0_pullAfter 57 = .ok (.iconst 1, 1) := by decide +kernel
theorem dX0_pullAfter_58 : decode cX0_pullAfter 58 = .ok (.if_icmp .ne 12, 3) := by decide +kernel
theorem dX0_pullAfter_61 : decode cX0_pullAfter 61 = .ok (.iload_n 2, 1) := by decide +kernel
theorem dX0_pullAfter_62 : decode cX0_pullAfter 62 = .ok (.aload_n 0, 1) := by decide +kernel
theorem dX0_pullAfter_63 : decode cX0_pullAfter 63 = .ok (.iload_n 3, 1) := by decide +kernel
theorem dX0_pullAfter_64 : decode cX0_pullAfter 64 = .ok (.iload_n 1, 1) := by decide +kernel
theorem dX0_pullAfter_65 : decode cX0_pullAfter 65 = .ok (.invokevirtual 81, 3) := by decide +kernel
theorem dX0_pullAfter_68 : decode cX0_pullAfter 68 = .ok (.isub, 1) := by decide +kernel
theorem dX0_pullAfter_69 : decode cX0_pullAfter 69 = .ok (.istore_n 2, 1) := by decide +kernel
theorem dX0_pullAfter_70 : decode cX0_pullAfter 70 = .ok (.iinc 3 1, 3) := by decide +kernel
theorem dX0_pullAfter_73 : decode cX0_pullAfter 73 = .ok (.goto (-57), 3) := by decide +kernel
theorem dX0_pullAfter_76 : decode cX0_pullAfter 76 = .ok (.iload_n 2, 1) := by decide +kernel
theorem dX0_pullAfter_77 : decode cX0_pullAfter 77 = .ok (.ireturn, 1) := by decide +kernel
theorem dX0_speedBy_0 : decode cX0_speedBy 0 = .ok (.iload_n 0, 1) := by decide +kernel
theorem dX0_speedBy_1 : decode cX0_speedBy 1 = .ok (.invokestatic 90, 3) := by decide +kernel
theorem dX0_speedBy_4 : decode cX0_speedBy 4 = .ok (.iconst 4, 1) := by decide +kernel
theorem dX0_speedBy_5 : decode cX0_speedBy 5 = .ok (.idiv, 1) := by decide +kernel
theorem dX0_speedBy_6 : decode cX0_speedBy 6 = .ok (.iconst 3, 1) := by decide +kernel
theorem dX0_speedBy_7 : decode cX0_speedBy 7 = .ok (.invokestatic 73, 3) := by decide +kernel
theorem dX0_speedBy_10 : decode cX0_speedBy 10 = .ok (.ireturn, 1) := by decide +kernel
set_option maxRecDepth 20000 in
theorem ggX0_moved_X0_speedBy : GoodIn wsX0_moved wsX0_speedBy := goodIn_r _ [11, 12, 13, 3, 14, 1, 2, 4] (by decide +kernel) (by decide +kernel)
set_option maxRecDepth 20000 in
theorem gX0_moved_X0_speedBy : GoodIn wsX0_moved (va_wsS RX0 93 yX0_speedBy wsX0_speedBy) := goodIn_app (goodIn_of _ (by decide +kernel)) ggX0_moved_X0_speedBy
theorem dX0_moved_0 : decode cX0_moved 0 = .ok (.iload_n 1, 1) := by decide +kernel
theorem dX0_moved_1 : decode cX0_moved 1 = .ok (.ifCond .le 12, 3) := by decide +kernel
theorem dX0_moved_4 : decode cX0_moved 4 = .ok (.iload_n 0, 1) := by decide +kernel
theorem dX0_moved_5 : decode cX0_moved 5 = .ok (.iload_n 1, 1) := by decide +kernel
theorem dX0_moved_6 : decode cX0_moved 6 = .ok (.invokestatic 93, 3) := by decide +kernel
theorem dX0_moved_9 : decode cX0_moved 9 = .ok (.isub, 1) := by decide +kernel
theorem dX0_moved_10 : decode cX0_moved 10 = .ok (.goto 9, 3) := by decide +kernel
theorem dX0_moved_13 : decode cX0_moved 13 = .ok (.iload_n 0, 1) := by decide +kernel
theorem dX0_moved_14 : decode cX0_moved 14 = .ok (.iload_n 1, 1) := by decide +kernel
theorem dX0_moved_15 : decode cX0_moved 15 = .ok (.invokestatic 93, 3) := by decide +kernel
theorem dX0_moved_18 : decode cX0_moved 18 = .ok (.iadd, 1) := by decide +kernel
theorem dX0_moved_19 : decode cX0_moved 19 = .ok (.istore_n 2, 1) := by decide +kernel
theorem dX0_moved_20 : decode cX0_moved 20 = .ok (.iconst 0, 1) := by decide +kernel
theorem dX0_moved_21 : decode cX0_moved 21 = .ok (.bipush 20, 2) := by decide +kernel
theorem dX0_moved_23 : decode cX0_moved 23 = .ok (.iload_n 2, 1) := by decide +kernel
theorem dX0_moved_24 : decode cX0_moved 24 = .ok (.invokestatic 73, 3) := by decide +kernel
theorem dX0_moved_27 : decode cX0_moved 27 = .ok (.invokestatic 78, 3) := by decide +kernel
theorem dX0_moved_30 : decode cX0_moved 30 = .ok (.ireturn, 1) := by decide +kernel
set_option maxRecDepth 20000 in
theorem ggX0_floorAfter_X0_pullAfter : GoodIn wsX0_floorAfter wsX0_pullAfter := goodIn_r _ [6, 7, 8, 9, 10, 11, 12, 5, 13, 14, 15, 16, 17, 18, 19, 20, 21, 22, 23, 24, 25, 26, 27, 28, 38, 39, 40, 41, 42, 43, 44, 45, 46] (by decide +kernel) (by decide +kernel)
set_option maxRecDepth 20000 in
theorem gX0_floorAfter_X0_pullAfter : GoodIn wsX0_floorAfter (wsV RX0 65 RX0 yX0_pullAfter wsX0_pullAfter) := goodIn_app (goodIn_of _ (by decide +kernel)) ggX0_floorAfter_X0_pullAfter
set_option maxRecDepth 20000 in
theorem ggX0_floorAfter_X0_moved : GoodIn wsX0_floorAfter wsX0_moved := goodIn_r _ [31, 17, 18, 19, 20, 22, 23, 24, 32, 33, 5, 34, 35, 36, 37] (by decide +kernel) (by decide +kernel)
set_option maxRecDepth 20000 in
theorem gX0_floorAfter_X0_moved : GoodIn wsX0_floorAfter (va_wsS RX0 69 yX0_moved wsX0_moved) := goodIn_app (goodIn_of _ (by decide +kernel)) ggX0_floorAfter_X0_moved
theorem dX0_floorAfter_0 : decode cX0_floorAfter 0 = .ok (.aload_n 0, 1) := by decide +kernel
theorem dX0_floorAfter_1 : decode cX0_floorAfter 1 = .ok (.getfield 11, 3) := by decide +kernel
theorem dX0_floorAfter_4 : decode cX0_floorAfter 4 = .ok (.istore_n 2, 1) := by decide +kernel
theorem dX0_floorAfter_5 : decode cX0_floorAfter 5 = .ok (.iconst 1, 1) := by decide +kernel
theorem dX0_floorAfter_6 : decode cX0_floorAfter 6 = .ok (.istore_n 3, 1) := by decide +kernel
theorem dX0_floorAfter_7 : decode cX0_floorAfter 7 = .ok (.iload_n 3, 1) := by decide +kernel
theorem dX0_floorAfter_8 : decode cX0_floorAfter 8 = .ok (.iload_n 1, 1) := by decide +kernel
theorem dX0_floorAfter_9 : decode cX0_floorAfter 9 = .ok (.if_icmp .gt 19, 3) := by decide +kernel
theorem dX0_floorAfter_12 : decode cX0_floorAfter 12 = .ok (.iload_n 2, 1) := by decide +kernel
theorem dX0_floorAfter_13 : decode cX0_floorAfter 13 = .ok (.aload_n 0, 1) := by decide +kernel
theorem dX0_floorAfter_14 : decode cX0_floorAfter 14 = .ok (.iload_n 3, 1) := by decide +kernel
theorem dX0_floorAfter_15 : decode cX0_floorAfter 15 = .ok (.invokevirtual 65, 3) := by decide +kernel
theorem dX0_floorAfter_18 : decode cX0_floorAfter 18 = .ok (.invokestatic 69, 3) := by decide +kernel
theorem dX0_floorAfter_21 : decode cX0_floorAfter 21 = .ok (.istore_n 2, 1) := by decide +kernel
theorem dX0_floorAfter_22 : decode cX0_floorAfter 22 = .ok (.iinc 3 1, 3) := by decide +kernel
theorem dX0_floorAfter_25 : decode cX0_floorAfter 25 = .ok (.goto (-18), 3) := by decide +kernel
theorem dX0_floorAfter_28 : decode cX0_floorAfter 28 = .ok (.iload_n 2, 1) := by decide +kernel
theorem dX0_floorAfter_29 : decode cX0_floorAfter 29 = .ok (.ireturn, 1) := by decide +kernel
set_option maxRecDepth 20000 in
theorem ggX0_foresee_X0_pullAfter : GoodIn wsX0_foresee wsX0_pullAfter := goodIn_r _ [6, 7, 8, 9, 10, 11, 12, 5, 13, 14, 15, 16, 17, 18, 19, 20, 21, 22, 23, 24, 25, 26, 27, 28, 38, 39, 40, 41, 42, 43, 44, 45, 46] (by decide +kernel) (by decide +kernel)
set_option maxRecDepth 20000 in
theorem gX0_foresee_X0_pullAfter : GoodIn wsX0_foresee (wsV RX0 65 RX0 yX0_pullAfter wsX0_pullAfter) := goodIn_app (goodIn_of _ (by decide +kernel)) ggX0_foresee_X0_pullAfter
set_option maxRecDepth 20000 in
theorem ggX0_foresee_X0_moved : GoodIn wsX0_foresee wsX0_moved := goodIn_r _ [31, 17, 18, 19, 20, 22, 23, 24, 32, 33, 5, 34, 35, 36, 37] (by decide +kernel) (by decide +kernel)
set_option maxRecDepth 20000 in
theorem gX0_foresee_X0_moved : GoodIn wsX0_foresee (va_wsS RX0 69 yX0_moved wsX0_moved) := goodIn_app (goodIn_of _ (by decide +kernel)) ggX0_foresee_X0_moved
theorem dX0_foresee_0 : decode cX0_foresee 0 = .ok (.aload_n 0, 1) := by decide +kernel
theorem dX0_foresee_1 : decode cX0_foresee 1 = .ok (.getfield 11, 3) := by decide +kernel
theorem dX0_foresee_4 : decode cX0_foresee 4 = .ok (.istore_n 3, 1) := by decide +kernel
theorem dX0_foresee_5 : decode cX0_foresee 5 = .ok (.iconst 0, 1) := by decide +kernel
theorem dX0_foresee_6 : decode cX0_foresee 6 = .ok (.istore 4, 2) := by decide +kernel
theorem dX0_foresee_8 : decode cX0_foresee 8 = .ok (.iload 4, 2) := by decide +kernel
theorem dX0_foresee_10 : decode cX0_foresee 10 = .ok (.iload_n 2, 1) := by decide +kernel
theorem dX0_foresee_11 : decode cX0_foresee 11 = .ok (.if_icmp .gt 37, 3) := by decide +kernel
theorem dX0_foresee_14 : decode cX0_foresee 14 = .ok (.iload 4, 2) := by decide +kernel
theorem dX0_foresee_16 : decode cX0_foresee 16 = .ok (.aload_n 1, 1) := by decide +kernel
theorem dX0_foresee_17 : decode cX0_foresee 17 = .ok (.arraylength, 1) := by decide +kernel
theorem dX0_foresee_18 : decode cX0_foresee 18 = .ok (.if_icmp .ge 30, 3) := by decide +kernel
theorem dX0_foresee_21 : decode cX0_foresee 21 = .ok (.iload 4, 2) := by decide +kernel
theorem dX0_foresee_23 : decode cX0_foresee 23 = .ok (.ifCond .le 14, 3) := by decide +kernel
theorem dX0_foresee_26 : decode cX0_foresee 26 = .ok (.iload_n 3, 1) := by decide +kernel
theorem dX0_foresee_27 : decode cX0_foresee 27 = .ok (.aload_n 0, 1) := by decide +kernel
theorem dX0_foresee_28 : decode cX0_foresee 28 = .ok (.iload 4, 2) := by decide +kernel
theorem dX0_foresee_30 : decode cX0_foresee 30 = .ok (.invokevirtual 65, 3) := by decide +kernel
theorem dX0_foresee_33 : decode cX0_foresee 33 = .ok (.invokestatic 69, 3) := by decide +kernel
theorem dX0_foresee_36 : decode cX0_foresee 36 = .ok (.istore_n 3, 1) := by decide +kernel
theorem dX0_foresee_37 : decode cX0_foresee 37 = .ok (.aload_n 1, 1) := by decide +kernel
theorem dX0_foresee_38 : decode cX0_foresee 38 = .ok (.iload 4, 2) := by decide +kernel
theorem dX0_foresee_40 : decode cX0_foresee 40 = .ok (.iload_n 3, 1) := by decide +kernel
theorem dX0_foresee_41 : decode cX0_foresee 41 = .ok (.iastore, 1) := by decide +kernel
theorem dX0_foresee_42 : decode cX0_foresee 42 = .ok (.iinc 4 1, 3) := by decide +kernel
theorem dX0_foresee_45 : decode cX0_foresee 45 = .ok (.goto (-37), 3) := by decide +kernel
theorem dX0_foresee_48 : decode cX0_foresee 48 = .ok (.return_, 1) := by decide +kernel
theorem dX0_heightOf_0 : decode cX0_heightOf 0 = .ok (.iload_n 0, 1) := by decide +kernel
theorem dX0_heightOf_1 : decode cX0_heightOf 1 = .ok (.ifCond .ne 7, 3) := by decide +kernel
theorem dX0_heightOf_4 : decode cX0_heightOf 4 = .ok (.iload_n 1, 1) := by decide +kernel
theorem dX0_heightOf_5 : decode cX0_heightOf 5 = .ok (.goto 7, 3) := by decide +kernel
theorem dX0_heightOf_8 : decode cX0_heightOf 8 = .ok (.bipush 20, 2) := by decide +kernel
theorem dX0_heightOf_10 : decode cX0_heightOf 10 = .ok (.iload_n 1, 1) := by decide +kernel
theorem dX0_heightOf_11 : decode cX0_heightOf 11 = .ok (.isub, 1) := by decide +kernel
theorem dX0_heightOf_12 : decode cX0_heightOf 12 = .ok (.ireturn, 1) := by decide +kernel
theorem dX0_apartAt_0 : decode cX0_apartAt 0 = .ok (.bipush 20, 2) := by decide +kernel
theorem dX0_apartAt_2 : decode cX0_apartAt 2 = .ok (.iconst 2, 1) := by decide +kernel
theorem dX0_apartAt_3 : decode cX0_apartAt 3 = .ok (.iload_n 0, 1) := by decide +kernel
theorem dX0_apartAt_4 : decode cX0_apartAt 4 = .ok (.imul, 1) := by decide +kernel
theorem dX0_apartAt_5 : decode cX0_apartAt 5 = .ok (.isub, 1) := by decide +kernel
theorem dX0_apartAt_6 : decode cX0_apartAt 6 = .ok (.invokestatic 90, 3) := by decide +kernel
theorem dX0_apartAt_9 : decode cX0_apartAt 9 = .ok (.ireturn, 1) := by decide +kernel
set_option maxRecDepth 20000 in
theorem ggX0_apartAfter_X0_floorAfter : GoodIn wsX0_apartAfter wsX0_floorAfter := goodIn_r _ [5, 6, 7, 8, 9, 4, 10, 11, 12, 13, 14, 15, 16, 17, 18, 19, 20, 21, 22, 23, 24, 25, 26, 27, 28, 29, 30, 31, 32, 33, 34, 35, 36, 37, 38, 39, 40, 41, 45, 46, 47, 48, 49, 50, 51, 52, 53] (by decide +kernel) (by decide +kernel)
set_option maxRecDepth 20000 in
theorem gX0_apartAfter_X0_floorAfter : GoodIn wsX0_apartAfter (wsV RX0 96 RX0 yX0_floorAfter wsX0_floorAfter) := goodIn_app (goodIn_of _ (by decide +kernel)) ggX0_apartAfter_X0_floorAfter
set_option maxRecDepth 20000 in
theorem ggX0_apartAfter_X0_apartAt : GoodIn wsX0_apartAfter wsX0_apartAt := goodIn_r _ [44, 39, 40, 23, 41] (by decide +kernel) (by decide +kernel)
set_option maxRecDepth 20000 in
theorem gX0_apartAfter_X0_apartAt : GoodIn wsX0_apartAfter (va_wsS RX0 99 yX0_apartAt wsX0_apartAt) := goodIn_app (goodIn_of _ (by decide +kernel)) ggX0_apartAfter_X0_apartAt
theorem dX0_apartAfter_0 : decode cX0_apartAfter 0 = .ok (.aload_n 0, 1) := by decide +kernel
theorem dX0_apartAfter_1 : decode cX0_apartAfter 1 = .ok (.iload_n 1, 1) := by decide +kernel
theorem dX0_apartAfter_2 : decode cX0_apartAfter 2 = .ok (.invokevirtual 96, 3) := by decide +kernel
theorem dX0_apartAfter_5 : decode cX0_apartAfter 5 = .ok (.invokestatic 99, 3) := by decide +kernel
theorem dX0_apartAfter_8 : decode cX0_apartAfter 8 = .ok (.ireturn, 1) := by decide +kernel
set_option maxRecDepth 20000 in
theorem ggX0_isDoor_X0_isFloor : GoodIn wsX0_isDoor wsX0_isFloor := goodIn_r _ [5] (by decide +kernel) (by decide +kernel)
set_option maxRecDepth 20000 in
theorem gX0_isDoor_X0_isFloor : GoodIn wsX0_isDoor (va_wsS RX0 59 yX0_isFloor wsX0_isFloor) := goodIn_app (goodIn_of _ (by decide +kernel)) ggX0_isDoor_X0_isFloor
theorem dX0_isDoor_0 : decode cX0_isDoor 0 = .ok (.iload_n 1, 1) := by decide +kernel
theorem dX0_isDoor_1 : decode cX0_isDoor 1 = .ok (.invokestatic 59, 3) := by decide +kernel
theorem dX0_isDoor_4 : decode cX0_isDoor 4 = .ok (.ifCond .eq 19, 3) := by decide +kernel
theorem dX0_isDoor_7 : decode cX0_isDoor 7 = .ok (.aload_n 0, 1) := by decide +kernel
theorem dX0_isDoor_8 : decode cX0_isDoor 8 = .ok (.getfield 16, 3) := by decide +kernel
theorem dX0_isDoor_11 : decode cX0_isDoor 11 = .ok (.iload_n 1, 1) := by decide +kernel
theorem dX0_isDoor_12 : decode cX0_isDoor 12 = .ok (.ishr, 1) := by decide +kernel
theorem dX0_isDoor_13 : decode cX0_isDoor 13 = .ok (.iconst 1, 1) := by decide +kernel
theorem dX0_isDoor_14 : decode cX0_isDoor 14 = .ok (.iand, 1) := by decide +kernel
theorem dX0_isDoor_15 : decode cX0_isDoor 15 = .ok (.iconst 1, 1) := by decide +kernel
theorem dX0_isDoor_16 : decode cX0_isDoor 16 = .ok (.if_icmp .ne 7, 3) := by decide +kernel
theorem dX0_isDoor_19 : decode cX0_isDoor 19 = .ok (.iconst 1, 1) := by decide +kernel
theorem dX0_isDoor_20 : decode cX0_isDoor 20 = .ok (.goto 4, 3) := by decide +kernel
theorem dX0_isDoor_23 : decode cX0_isDoor 23 = .ok (.iconst 0, 1) := by decide +kernel
theorem dX0_isDoor_24 : decode cX0_isDoor 24 = .ok (.ireturn, 1) := by decide +kernel
set_option maxRecDepth 20000 in
theorem ggX0_openAt_X0_heightOf : GoodIn wsX0_openAt wsX0_heightOf := goodIn_r _ [4] (by decide +kernel) (by decide +kernel)
set_option maxRecDepth 20000 in
theorem gX0_openAt_X0_heightOf : GoodIn wsX0_openAt (va_wsS RX0 102 yX0_heightOf wsX0_heightOf) := goodIn_app (goodIn_of _ (by decide +kernel)) ggX0_openAt_X0_heightOf
set_option maxRecDepth 20000 in
theorem ggX0_openAt_X0_isDoor : GoodIn wsX0_openAt wsX0_isDoor := goodIn_r _ [8, 9, 10, 11, 3, 12, 13, 14, 15, 16, 17, 18, 19, 20, 21] (by decide +kernel) (by decide +kernel)
set_option maxRecDepth 20000 in
theorem gX0_openAt_X0_isDoor : GoodIn wsX0_openAt (wsV RX0 105 RX0 yX0_isDoor wsX0_isDoor) := goodIn_app (goodIn_of _ (by decide +kernel)) ggX0_openAt_X0_isDoor
theorem dX0_openAt_0 : decode cX0_openAt 0 = .ok (.iconst 0, 1) := by decide +kernel
theorem dX0_openAt_1 : decode cX0_openAt 1 = .ok (.istore_n 2, 1) := by decide +kernel
theorem dX0_openAt_2 : decode cX0_openAt 2 = .ok (.iconst 0, 1) := by decide +kernel
theorem dX0_openAt_3 : decode cX0_openAt 3 = .ok (.istore_n 3, 1) := by decide +kernel
theorem dX0_openAt_4 : decode cX0_openAt 4 = .ok (.iload_n 3, 1) := by decide +kernel
theorem dX0_openAt_5 : decode cX0_openAt 5 = .ok (.iconst 2, 1) := by decide +kernel
theorem dX0_openAt_6 : decode cX0_openAt 6 = .ok (.if_icmp .ge 27, 3) := by decide +kernel
theorem dX0_openAt_9 : decode cX0_openAt 9 = .ok (.aload_n 0, 1) := by decide +kernel
theorem dX0_openAt_10 : decode cX0_openAt 10 = .ok (.iload_n 3, 1) := by decide +kernel
theorem dX0_openAt_11 : decode cX0_openAt 11 = .ok (.iload_n 1, 1) := by decide +kernel
theorem dX0_openAt_12 : decode cX0_openAt 12 = .ok (.invokestatic 102, 3) := by decide +kernel
theorem dX0_openAt_15 : decode cX0_openAt 15 = .ok (.invokevirtual 105, 3) := by decide +kernel
theorem dX0_openAt_18 : decode cX0_openAt 18 = .ok (.ifCond .eq 9, 3) := by decide +kernel
theorem dX0_openAt_21 : decode cX0_openAt 21 = .ok (.iload_n 2, 1) := by decide +kernel
theorem dX0_openAt_22 : decode cX0_openAt 22 = .ok (.iconst 1, 1) := by decide +kernel
theorem dX0_openAt_23 : decode cX0_openAt 23 = .ok (.iload_n 3, 1) := by decide +kernel
theorem dX0_openAt_24 : decode cX0_openAt 24 = .ok (.ishl, 1) := by decide +kernel
theorem dX0_openAt_25 : decode cX0_openAt 25 = .ok (.ior, 1) := by decide +kernel
theorem dX0_openAt_26 : decode cX0_openAt 26 = .ok (.istore_n 2, 1) := by decide +kernel
theorem dX0_openAt_27 : decode cX0_openAt 27 = .ok (.iinc 3 1, 3) := by decide +kernel
theorem dX0_openAt_30 : decode cX0_openAt 30 = .ok (.goto (-26), 3) := by decide +kernel
theorem dX0_openAt_33 : decode cX0_openAt 33 = .ok (.iload_n 2, 1) := by decide +kernel
theorem dX0_openAt_34 : decode cX0_openAt 34 = .ok (.ireturn, 1) := by decide +kernel
set_option maxRecDepth 20000 in
theorem ggX0_nearestDoor_X0_heightOf : GoodIn wsX0_nearestDoor wsX0_heightOf := goodIn_r _ [9] (by decide +kernel) (by decide +kernel)
set_option maxRecDepth 20000 in
theorem gX0_nearestDoor_X0_heightOf : GoodIn wsX0_nearestDoor (va_wsS RX0 102 yX0_heightOf wsX0_heightOf) := goodIn_app (goodIn_of _ (by decide +kernel)) ggX0_nearestDoor_X0_heightOf
set_option maxRecDepth 20000 in
theorem ggX0_nearestDoor_X0_isDoor : GoodIn wsX0_nearestDoor wsX0_isDoor := goodIn_r _ [13, 14, 15, 16, 8, 17, 18, 19, 20, 21, 22, 23, 24, 25, 26] (by decide +kernel) (by decide +kernel)
set_option maxRecDepth 20000 in
theorem gX0_nearestDoor_X0_isDoor : GoodIn wsX0_nearestDoor (wsV RX0 105 RX0 yX0_isDoor wsX0_isDoor) := goodIn_app (goodIn_of _ (by decide +kernel)) ggX0_nearestDoor_X0_isDoor
theorem dX0_nearestDoor_0 : decode cX0_nearestDoor 0 = .ok (.iload_n 1, 1) := by decide +kernel
theorem dX0_nearestDoor_1 : decode cX0_nearestDoor 1 = .ok (.aload_n 0, 1) := by decide +kernel
theorem dX0_nearestDoor_2 : decode cX0_nearestDoor 2 = .ok (.getfield 11, 3) := by decide +kernel
theorem dX0_nearestDoor_5 : decode cX0_nearestDoor 5 = .ok (.invokestatic 102, 3) := by decide +kernel
theorem dX0_nearestDoor_8 : decode cX0_nearestDoor 8 = .ok (.istore_n 2, 1) := by decide +kernel
theorem dX0_nearestDoor_9 : decode cX0_nearestDoor 9 = .ok (.bipush (-9), 2) := by decide +kernel
theorem dX0_nearestDoor_11 : decode cX0_nearestDoor 11 = .ok (.istore_n 3, 1) := by decide +kernel
theorem dX0_nearestDoor_12 : decode cX0_nearestDoor 12 = .ok (.bipush 21, 2) := by decide +kernel
theorem dX0_nearestDoor_14 : decode cX0_nearestDoor 14 = .ok (.istore 4, 2) := by decide +kernel
theorem dX0_nearestDoor_16 : decode cX0_nearestDoor 16 = .ok (.iconst 0, 1) := by decide +kernel
theorem dX0_nearestDoor_17 : decode cX0_nearestDoor 17 = .ok (.istore 5, 2) := by decide +kernel
theorem dX0_nearestDoor_19 : decode cX0_nearestDoor 19 = .ok (.iload 5, 2) := by decide +kernel
theorem dX0_nearestDoor_21 : decode cX0_nearestDoor 21 = .ok (.bipush 20, 2) := by decide +kernel
theorem dX0_nearestDoor_23 : decode cX0_nearestDoor 23 = .ok (.if_icmp .gt 42, 3) := by decide +kernel
theorem dX0_nearestDoor_26 : decode cX0_nearestDoor 26 = .ok (.aload_n 0, 1) := by decide +kernel
theorem dX0_nearestDoor_27 : decode cX0_nearestDoor 27 = .ok (.iload 5, 2) := by decide +kernel
theorem dX0_nearestDoor_29 : decode cX0_nearestDoor 29 = .ok (.invokevirtual 105, 3) := by decide +kernel
theorem dX0_nearestDoor_32 : decode cX0_nearestDoor 32 = .ok (.ifCond .eq 27, 3) := by decide +kernel
theorem dX0_nearestDoor_35 : decode cX0_nearestDoor 35 = .ok (.iload 5, 2) := by decide +kernel
theorem dX0_nearestDoor_37 : decode cX0_nearestDoor 37 = .ok (.iload_n 2, 1) := by decide +kernel
theorem dX0_nearestDoor_38 : decode cX0_nearestDoor 38 = .ok (.isub, 1) := by decide +kernel
theorem dX0_nearestDoor_39 : decode cX0_nearestDoor 39 = .ok (.invokestatic 90, 3) := by decide +kernel
theorem dX0_nearestDoor_42 : decode cX0_nearestDoor 42 = .ok (.iload 4, 2) := by decide +kernel
theorem dX0_nearestDoor_44 : decode cX0_nearestDoor 44 = .ok (.if_icmp .ge 15, 3) := by decide +kernel
theorem dX0_nearestDoor_47 : decode cX0_nearestDoor 47 = .ok (.iload 5, 2) := by decide +kernel
theorem dX0_nearestDoor_49 : decode cX0_nearestDoor 49 = .ok (.iload_n 2, 1) := by decide +kernel
theorem dX0_nearestDoor_50 : decode cX0_nearestDoor 50 = .ok (.isub, 1) := by decide +kernel
theorem dX0_nearestDoor_51 : decode cX0_nearestDoor 51 = .ok (.invokestatic 90, 3) := by decide +kernel
theorem dX0_nearestDoor_54 : decode cX0_nearestDoor 54 = .ok (.istore 4, 2) := by decide +kernel
theorem dX0_nearestDoor_56 : decode cX0_nearestDoor 56 = .ok (.iload 5, 2) := by decide +kernel
theorem dX0_nearestDoor_58 : decode cX0_nearestDoor 58 = .ok (.istore_n 3, 1) := by decide +kernel
theorem dX0_nearestDoor_59 : decode cX0_nearestDoor 59 = .ok (.iinc 5 1, 3) := by decide +kernel
theorem dX0_nearestDoor_62 : decode cX0_nearestDoor 62 = .ok (.goto (-43), 3) := by decide +kernel
theorem dX0_nearestDoor_65 : decode cX0_nearestDoor 65 = .ok (.iload_n 3, 1) := by decide +kernel
theorem dX0_nearestDoor_66 : decode cX0_nearestDoor 66 = .ok (.ireturn, 1) := by decide +kernel
theorem dX1_init_0 : decode cX1_init 0 = .ok (.aload_n 0, 1) := by decide +kernel
theorem dX1_init_1 : decode cX1_init 1 = .ok (.invokespecial 1, 3) := by decide +kernel
theorem dX1_init_4 : decode cX1_init 4 = .ok (.aload_n 0, 1) := by decide +kernel
theorem dX1_init_5 : decode cX1_init 5 = .ok (.iconst 0, 1) := by decide +kernel
theorem dX1_init_6 : decode cX1_init 6 = .ok (.putfield 7, 3) := by decide +kernel
theorem dX1_init_9 : decode cX1_init 9 = .ok (.aload_n 0, 1) := by decide +kernel
theorem dX1_init_10 : decode cX1_init 10 = .ok (.bipush 96, 2) := by decide +kernel
theorem dX1_init_12 : decode cX1_init 12 = .ok (.newarray .int, 2) := by decide +kernel
theorem dX1_init_14 : decode cX1_init 14 = .ok (.putfield 13, 3) := by decide +kernel
theorem dX1_init_17 : decode cX1_init 17 = .ok (.return_, 1) := by decide +kernel
theorem dX1_isFull_0 : decode cX1_isFull 0 = .ok (.aload_n 0, 1) := by decide +kernel
theorem dX1_isFull_1 : decode cX1_isFull 1 = .ok (.getfield 7, 3) := by decide +kernel
theorem dX1_isFull_4 : decode cX1_isFull 4 = .ok (.aload_n 0, 1) := by decide +kernel
theorem dX1_isFull_5 : decode cX1_isFull 5 = .ok (.getfield 13, 3) := by decide +kernel
theorem dX1_isFull_8 : decode cX1_isFull 8 = .ok (.arraylength, 1) := by decide +kernel
theorem dX1_isFull_9 : decode cX1_isFull 9 = .ok (.if_icmp .lt 7, 3) := by decide +kernel
theorem dX1_isFull_12 : decode cX1_isFull 12 = .ok (.iconst 1, 1) := by decide +kernel
theorem dX1_isFull_13 : decode cX1_isFull 13 = .ok (.goto 4, 3) := by decide +kernel
theorem dX1_isFull_16 : decode cX1_isFull 16 = .ok (.iconst 0, 1) := by decide +kernel
theorem dX1_isFull_17 : decode cX1_isFull 17 = .ok (.ireturn, 1) := by decide +kernel
set_option maxRecDepth 20000 in
theorem ggX1_add_X1_isFull : GoodIn wsX1_add wsX1_isFull := goodIn_r _ [7, 2, 1, 8, 9] (by decide +kernel) (by decide +kernel)
set_option maxRecDepth 20000 in
theorem gX1_add_X1_isFull : GoodIn wsX1_add (wsV RX1 17 RX1 yX1_isFull wsX1_isFull) := goodIn_app (goodIn_of _ (by decide +kernel)) ggX1_add_X1_isFull
theorem dX1_add_0 : decode cX1_add 0 = .ok (.aload_n 0, 1) := by decide +kernel
theorem dX1_add_1 : decode cX1_add 1 = .ok (.invokevirtual 17, 3) := by decide +kernel
theorem dX1_add_4 : decode cX1_add 4 = .ok (.ifCond .ne 23, 3) := by decide +kernel
theorem dX1_add_7 : decode cX1_add 7 = .ok (.aload_n 0, 1) := by decide +kernel
theorem dX1_add_8 : decode cX1_add 8 = .ok (.getfield 13, 3) := by decide +kernel
theorem dX1_add_11 : decode cX1_add 11 = .ok (.aload_n 0, 1) := by decide +kernel
theorem dX1_add_12 : decode cX1_add 12 = .ok (.getfield 7, 3) := by decide +kernel
theorem dX1_add_15 : decode cX1_add 15 = .ok (.iload_n 1, 1) := by decide +kernel
theorem dX1_add_16 : decode cX1_add 16 = .ok (.iastore, 1) := by decide +kernel
theorem dX1_add_17 : decode cX1_add 17 = .ok (.aload_n 0, 1) := by decide +kernel
theorem dX1_add_18 : decode cX1_add 18 = .ok (.dup, 1) := by decide +kernel
theorem dX1_add_19 : decode cX1_add 19 = .ok (.getfield 7, 3) := by decide +kernel
theorem dX1_add_22 : decode cX1_add 22 = .ok (.iconst 1, 1) := by decide +kernel
theorem dX1_add_23 : decode cX1_add 23 = .ok (.iadd, 1) := by decide +kernel
theorem dX1_add_24 : decode cX1_add 24 = .ok (.putfield 7, 3) := by decide +kernel
theorem dX1_add_27 : decode cX1_add 27 = .ok (.return_, 1) := by decide +kernel
theorem dX1_forget_0 : decode cX1_forget 0 = .ok (.aload_n 0, 1) := by decide +kernel
theorem dX1_forget_1 : decode cX1_forget 1 = .ok (.iconst 0, 1) := by decide +kernel
theorem dX1_forget_2 : decode cX1_forget 2 = .ok (.putfield 7, 3) := by decide +kernel
theorem dX1_forget_5 : decode cX1_forget 5 = .ok (.return_, 1) := by decide +kernel
set_option maxRecDepth 20000 in
theorem ggX1_tell_X1_brokenAt : GoodIn wsX1_tell wsX1_brokenAt := goodIn_r _ [6, 1, 7, 8, 9, 5, 10, 11, 12, 13, 14, 15, 16, 17, 18, 19, 20, 21, 22, 23, 24, 25, 26, 27, 28, 29, 30, 31, 32, 33, 34, 35, 36, 37, 38, 39, 40, 41, 42, 43, 44, 45, 46, 47, 48, 49, 50, 51, 52, 53, 54, 55, 56, 57, 58, 59, 60, 61, 62, 63, 64, 65, 66, 67, 68, 69, 70, 71, 72, 73, 74, 75, 76, 77, 78, 79, 80, 81, 82, 83, 84, 85, 86, 87, 88, 89, 90, 91, 92, 93, 94, 95, 96, 97, 98, 99, 100, 101, 102, 103, 104, 105, 106, 107, 195, 196] (by decide +kernel) (by decide +kernel)
set_option maxRecDepth 20000 in
theorem gX1_tell_X1_brokenAt : GoodIn wsX1_tell (wsV RX1 21 RX1 yX1_brokenAt wsX1_brokenAt) := goodIn_app (goodIn_of _ (by decide +kernel)) ggX1_tell_X1_brokenAt
set_option maxRecDepth 20000 in
theorem ggX1_tell_X1_letterAt : GoodIn wsX1_tell wsX1_letterAt := goodIn_r _ [14, 1, 15, 195, 196] (by decide +kernel) (by decide +kernel)
set_option maxRecDepth 20000 in
theorem gX1_tell_X1_letterAt : GoodIn wsX1_tell (wsV RX1 25 RX1 yX1_letterAt wsX1_letterAt) := goodIn_app (goodIn_of _ (by decide +kernel)) ggX1_tell_X1_letterAt
set_option maxRecDepth 20000 in
theorem ggX1_tell_X1_tellStatement : GoodIn wsX1_tell wsX1_tellStatement := goodIn_r _ [111, 11, 12, 13, 5, 14, 1, 15, 16, 17, 18, 19, 20, 21, 22, 23, 24, 25, 26, 27, 28, 29, 30, 31, 32, 33, 34, 35, 36, 37, 38, 39, 40, 41, 42, 43, 44, 45, 46, 47, 48, 49, 50, 51, 52, 53, 54, 55, 56, 57, 58, 59, 60, 61, 62, 63, 64, 65, 66, 67, 68, 69, 70, 71, 72, 73, 74, 75, 76, 77, 78, 79, 80, 81, 82, 83, 84, 85, 86, 87, 88, 89, 90, 91, 92, 93, 94, 95, 96, 97, 98, 99, 100, 101, 102, 103, 104, 112, 113, 114, 115, 116, 117, 118, 119, 120, 121, 122, 123, 124, 125, 126, 127, 128, 129, 130, 131, 132, 133, 134, 135, 136, 137, 138, 139, 140, 141, 142, 143, 144, 145, 146, 147, 148, 149, 150, 151, 152, 153, 154, 155, 156, 157, 158, 159, 160, 161, 162, 163, 164, 165, 166, 167, 168, 169, 170, 171, 172, 173, 174, 175, 176, 177, 178, 179, 180, 181, 182, 183, 184, 185, 186, 187, 188, 189, 190, 191, 192, 193, 194, 195, 196, 197, 198, 199, 200, 201, 202, 203, 204, 205] (by decide +kernel) (by decide +kernel)
set_option maxRecDepth 20000 in
theorem gX1_tell_X1_tellStatement : GoodIn wsX1_tell (wsV RX1 29 RX1 yX1_tellStatement wsX1_tellStatement) := goodIn_app (goodIn_of _ (by decide +kernel)) ggX1_tell_X1_tellStatement
theorem dX1_tell_0 : decode cX1_tell 0 = .ok (.aload_n 0, 1) := by decide +kernel
theorem dX1_tell_1 : decode cX1_tell 1 = .ok (.invokevirtual 21, 3) := by decide +kernel
theorem dX1_tell_4 : decode cX1_tell 4 = .ok (.istore_n 2, 1) := by decide +kernel
theorem dX1_tell_5 : decode cX1_tell 5 = .ok (.iload_n 2, 1) := by decide +kernel
theorem dX1_tell_6 : decode cX1_tell 6 = .ok (.ifCond .lt 9, 3) := by decide +kernel
theorem dX1_tell_9 : decode cX1_tell 9 = .ok (.sipush (-1000), 3) := by decide +kernel
theorem dX1_tell_12 : decode cX1_tell 12 = .ok (.iload_n 2, 1) := by decide +kernel
theorem dX1_tell_13 : decode cX1_tell 13 = .ok (.isub, 1) := by decide +kernel
theorem dX1_tell_14 : decode cX1_tell 14 = .ok (.ireturn, 1) := by decide +kernel
theorem dX1_tell_15 : decode cX1_tell 15 = .ok (.iconst 0, 1) := by decide +kernel
theorem dX1_tell_16 : decode cX1_tell 16 = .ok (.istore_n 3, 1) := by decide +kernel
theorem dX1_tell_17 : decode cX1_tell 17 = .ok (.iconst 0, 1) := by decide +kernel
theorem dX1_tell_18 : decode cX1_tell 18 = .ok (.istore 4, 2) := by decide +kernel
theorem dX1_tell_20 : decode cX1_tell 20 = .ok (.iconst 0, 1) := by decide +kernel
theorem dX1_tell_21 : decode cX1_tell 21 = .ok (.istore 5, 2) := by decide +kernel
theorem dX1_tell_23 : decode cX1_tell 23 = .ok (.iload 5, 2) := by decide +kernel
theorem dX1_tell_25 : decode cX1_tell 25 = .ok (.aload_n 0, 1) := by decide +kernel
theorem dX1_tell_26 : decode cX1_tell 26 = .ok (.getfield 7, 3) := by decide +kernel
theorem dX1_tell_29 : decode cX1_tell 29 = .ok (.if_icmp .ge 46, 3) := by decide +kernel
theorem dX1_tell_32 : decode cX1_tell 32 = .ok (.aload_n 0, 1) := by decide +kernel
theorem dX1_tell_33 : decode cX1_tell 33 = .ok (.iload 5, 2) := by decide +kernel
theorem dX1_tell_35 : decode cX1_tell 35 = .ok (.invokevirtual 25, 3) := by decide +kernel
theorem dX1_tell_38 : decode cX1_tell 38 = .ok (.bipush 59, 2) := by decide +kernel
theorem dX1_tell_40 : decode cX1_tell 40 = .ok (.if_icmp .ne 29, 3) := by decide +kernel
theorem dX1_tell_43 : decode cX1_tell 43 = .ok (.aload_n 0, 1) := by decide +kernel
theorem dX1_tell_44 : decode cX1_tell 44 = .ok (.aload_n 1, 1) := by decide +kernel
theorem dX1_tell_45 : decode cX1_tell 45 = .ok (.iload 4, 2) := by decide +kernel
theorem dX1_tell_47 : decode cX1_tell 47 = .ok (.invokevirtual 29, 3) := by decide +kernel
theorem dX1_tell_50 : decode cX1_tell 50 = .ok (.ifCond .ne 10, 3) := by decide +kernel
theorem dX1_tell_53 : decode cX1_tell 53 = .ok (.sipush (-2000), 3) := by decide +kernel
theorem dX1_tell_56 : decode cX1_tell 56 = .ok (.iload 4, 2) := by decide +kernel
theorem dX1_tell_58 : decode cX1_tell 58 = .ok (.isub, 1) := by decide +kernel
theorem dX1_tell_59 : decode cX1_tell 59 = .ok (.ireturn, 1) := by decide +kernel
theorem dX1_tell_60 : decode cX1_tell 60 = .ok (.iinc 3 1, 3) := by decide +kernel
theorem dX1_tell_63 : decode cX1_tell 63 = .ok (.iload 5, 2) := by decide +kernel
theorem dX1_tell_65 : decode cX1_tell 65 = .ok (.iconst 1, 1) := by decide +kernel
theorem dX1_tell_66 : decode cX1_tell 66 = .ok (.iadd, 1) := by decide +kernel
theorem dX1_tell_67 : decode cX1_tell 67 = .ok (.istore 4, 2) := by decide +kernel
theorem dX1_tell_69 : decode cX1_tell 69 = .ok (.iinc 5 1, 3) := by decide +kernel
theorem dX1_tell_72 : decode cX1_tell 72 = .ok (.goto (-49), 3) := by decide +kernel
theorem dX1_tell_75 : decode cX1_tell 75 = .ok (.iload_n 3, 1) := by decide +kernel
theorem dX1_tell_76 : decode cX1_tell 76 = .ok (.ireturn, 1) := by decide +kernel
set_option maxRecDepth 20000 in
theorem ggX1_brokenAt_X1_goesOn : GoodIn wsX1_brokenAt wsX1_goesOn := goodIn_r _ [6, 7, 8, 9, 5, 10, 1, 11, 12, 13, 14, 15, 16, 17, 18, 19, 20, 21, 22, 23, 24, 25, 26, 27, 28, 29, 30, 31, 32, 33, 34, 35, 36, 37, 38, 39, 40, 41, 42, 43, 44, 45, 46, 47, 48, 49, 50, 51, 52, 53, 54, 55, 56, 57, 58, 59, 60, 61, 62, 63, 64, 65, 66, 67, 68, 69, 70, 71, 72, 73, 74, 75, 76, 77, 78, 79, 80, 81, 82, 83, 84, 85, 86, 87, 88, 89, 90, 91, 92, 93, 94, 95, 96, 97, 98, 99, 100, 101, 102, 103, 104, 105] (by decide +kernel) (by decide +kernel)
set_option maxRecDepth 20000 in
theorem gX1_brokenAt_X1_goesOn : GoodIn wsX1_brokenAt (wsV RX1 33 RX1 yX1_goesOn wsX1_goesOn) := goodIn_app (goodIn_of _ (by decide +kernel)) ggX1_brokenAt_X1_goesOn
set_option maxRecDepth 20000 in
theorem ggX1_brokenAt_X1_letterAt : GoodIn wsX1_brokenAt wsX1_letterAt := goodIn_r _ [10, 1, 11, 104, 105] (by decide +kernel) (by decide +kernel)
set_option maxRecDepth 20000 in
theorem gX1_brokenAt_X1_letterAt : GoodIn wsX1_brokenAt (wsV RX1 25 RX1 yX1_letterAt wsX1_letterAt) := goodIn_app (goodIn_of _ (by decide +kernel)) ggX1_brokenAt_X1_letterAt
theorem dX1_brokenAt_0 : decode cX1_brokenAt 0 = .ok (.iconst 0, 1) := by decide +kernel
theorem dX1_brokenAt_1 : decode cX1_brokenAt 1 = .ok (.istore_n 1, 1) := by decide +kernel
theorem dX1_brokenAt_2 : decode cX1_brokenAt 2 = .ok (.iconst 0, 1) := by decide +kernel
theorem dX1_brokenAt_3 : decode cX1_brokenAt 3 = .ok (.istore_n 2, 1) := by decide +kernel
theorem dX1_brokenAt_4 : decode cX1_brokenAt 4 = .ok (.iload_n 2, 1) := by decide +kernel
theorem dX1_brokenAt_5 : decode cX1_brokenAt 5 = .ok (.aload_n 0, 1) := by decide +kernel
theorem dX1_brokenAt_6 : decode cX1_brokenAt 6 = .ok (.getfield 7, 3) := by decide +kernel
theorem dX1_brokenAt_9 : decode cX1_brokenAt 9 = .ok (.if_icmp .ge 34, 3) := by decide +kernel
theorem dX1_brokenAt_12 : decode cX1_brokenAt 12 = .ok (.aload_n 0, 1) := by decide +kernel
theorem dX1_brokenAt_13 : decode cX1_brokenAt 13 = .ok (.iload_n 1, 1) := by decide +kernel
theorem dX1_brokenAt_14 : decode cX1_brokenAt 14 = .ok (.iload_n 2, 1) := by decide +kernel
theorem dX1_brokenAt_15 : decode cX1_brokenAt 15 = .ok (.invokevirtual 33, 3) := by decide +kernel
theorem dX1_brokenAt_18 : decode cX1_brokenAt 18 = .ok (.ifCond .ne 5, 3) := by decide +kernel
theorem dX1_brokenAt_21 : decode cX1_brokenAt 21 = .ok (.iload_n 2, 1) := by decide +kernel
theorem dX1_brokenAt_22 : decode cX1_brokenAt 22 = .ok (.ireturn, 1) := by decide +kernel
theorem dX1_brokenAt_23 : decode cX1_brokenAt 23 = .ok (.aload_n 0, 1) := by decide +kernel
theorem dX1_brokenAt_24 : decode cX1_brokenAt 24 = .ok (.iload_n 2, 1) := by decide +kernel
theorem dX1_brokenAt_25 : decode cX1_brokenAt 25 = .ok (.invokevirtual 25, 3) := by decide +kernel
theorem dX1_brokenAt_28 : decode cX1_brokenAt 28 = .ok (.bipush 59, 2) := by decide +kernel
theorem dX1_brokenAt_30 : decode cX1_brokenAt 30 = .ok (.if_icmp .ne 7, 3) := by decide +kernel
theorem dX1_brokenAt_33 : decode cX1_brokenAt 33 = .ok (.iload_n 2, 1) := by decide +kernel
theorem dX1_brokenAt_34 : decode cX1_brokenAt 34 = .ok (.iconst 1, 1) := by decide +kernel
theorem dX1_brokenAt_35 : decode cX1_brokenAt 35 = .ok (.iadd, 1) := by decide +kernel
theorem dX1_brokenAt_36 : decode cX1_brokenAt 36 = .ok (.istore_n 1, 1) := by decide +kernel
theorem dX1_brokenAt_37 : decode cX1_brokenAt 37 = .ok (.iinc 2 1, 3) := by decide +kernel
theorem dX1_brokenAt_40 : decode cX1_brokenAt 40 = .ok (.goto (-36), 3) := by decide +kernel
theorem dX1_brokenAt_43 : decode cX1_brokenAt 43 = .ok (.aload_n 0, 1) := by decide +kernel
theorem dX1_brokenAt_44 : decode cX1_brokenAt 44 = .ok (.getfield 7, 3) := by decide +kernel
theorem dX1_brokenAt_47 : decode cX1_brokenAt 47 = .ok (.ifCond .eq 11, 3) := by decide +kernel
theorem dX1_brokenAt_50 : decode cX1_brokenAt 50 = .ok (.iload_n 1, 1) := by decide +kernel
theorem dX1_brokenAt_51 : decode cX1_brokenAt 51 = .ok (.aload_n 0, 1) := by decide +kernel
theorem dX1_brokenAt_52 : decode cX1_brokenAt 52 = .ok (.getfield 7, 3) := by decide +kernel
theorem dX1_brokenAt_55 : decode cX1_brokenAt 55 = .ok (.if_icmp .ge 10, 3) := by decide +kernel
theorem dX1_brokenAt_58 : decode cX1_brokenAt 58 = .ok (.aload_n 0, 1) := by decide +kernel
theorem dX1_brokenAt_59 : decode cX1_brokenAt 59 = .ok (.getfield 7, 3) := by decide +kernel
theorem dX1_brokenAt_62 : decode cX1_brokenAt 62 = .ok (.goto 4, 3) := by decide +kernel
theorem dX1_brokenAt_65 : decode cX1_brokenAt 65 = .ok (.iconst (-1), 1) := by decide +kernel
theorem dX1_brokenAt_66 : decode cX1_brokenAt 66 = .ok (.ireturn, 1) := by decide +kernel
set_option maxRecDepth 20000 in
theorem ggX1_goesOn_X1_letterAt : GoodIn wsX1_goesOn wsX1_letterAt := goodIn_r _ [5, 6, 7, 100, 101] (by decide +kernel) (by decide +kernel)
set_option maxRecDepth 20000 in
theorem gX1_goesOn_X1_letterAt : GoodIn wsX1_goesOn (wsV RX1 25 RX1 yX1_letterAt wsX1_letterAt) := goodIn_app (goodIn_of _ (by decide +kernel)) ggX1_goesOn_X1_letterAt
set_option maxRecDepth 20000 in
theorem ggX1_goesOn_J0_indexOf_0f7a4 : GoodIn wsX1_goesOn wsJ0_indexOf_0f7a4 := goodIn_r _ [12, 13, 14, 15, 11, 16, 17, 18, 19, 20, 21, 22, 23, 24, 25, 26, 27, 28, 29, 30, 31, 32, 33, 34, 35, 36, 37, 38, 39, 40, 41, 42, 43, 44, 45, 46, 47, 48, 49, 50, 51, 52, 53, 54, 55, 56, 57, 58, 59, 60, 61, 62, 63, 64, 65, 66, 67, 68, 69, 70, 71, 72, 73, 74, 75, 76, 77, 78, 79, 80, 81, 82, 83, 84, 85, 86, 87, 88, 89, 90, 91, 92, 93, 94, 95, 96] (by decide +kernel) (by decide +kernel)
set_option maxRecDepth 20000 in
theorem gX1_goesOn_J0_indexOf_0f7a4 : GoodIn wsX1_goesOn (wsV RX1 39 RJ0 yJ0_indexOf_0f7a4 wsJ0_indexOf_0f7a4) := goodIn_app (goodIn_of _ (by decide +kernel)) ggX1_goesOn_J0_indexOf_0f7a4
set_option maxRecDepth 20000 in
theorem ggX1_goesOn_X1_lengthOf : GoodIn wsX1_goesOn wsX1_lengthOf := goodIn_r _ [99] (by decide +kernel) (by decide +kernel)
set_option maxRecDepth 20000 in
theorem gX1_goesOn_X1_lengthOf : GoodIn wsX1_goesOn (va_wsS RX1 44 yX1_lengthOf wsX1_lengthOf) := goodIn_app (goodIn_of _ (by decide +kernel)) ggX1_goesOn_X1_lengthOf
theorem dX1_goesOn_0 : decode cX1_goesOn 0 = .ok (.aload_n 0, 1) := by decide +kernel
theorem dX1_goesOn_1 : decode cX1_goesOn 1 = .ok (.iload_n 1, 1) := by decide +kernel
theorem dX1_goesOn_2 : decode cX1_goesOn 2 = .ok (.invokevirtual 25, 3) := by decide +kernel
theorem dX1_goesOn_5 : decode cX1_goesOn 5 = .ok (.istore_n 3, 1) := by decide +kernel
theorem dX1_goesOn_6 : decode cX1_goesOn 6 = .ok (.aload_n 0, 1) := by decide +kernel
theorem dX1_goesOn_7 : decode cX1_goesOn 7 = .ok (.iload_n 2, 1) := by decide +kernel
theorem dX1_goesOn_8 : decode cX1_goesOn 8 = .ok (.invokevirtual 25, 3) := by decide +kernel
theorem dX1_goesOn_11 : decode cX1_goesOn 11 = .ok (.istore 4, 2) := by decide +kernel
theorem dX1_goesOn_13 : decode cX1_goesOn 13 = .ok (.iload_n 2, 1) := by decide +kernel
theorem dX1_goesOn_14 : decode cX1_goesOn 14 = .ok (.iload_n 1, 1) := by decide +kernel
theorem dX1_goesOn_15 : decode cX1_goesOn 15 = .ok (.if_icmp .ne 20, 3) := by decide +kernel
theorem dX1_goesOn_18 : decode cX1_goesOn 18 = .ok (.ldc 37, 2) := by decide +kernel
theorem dX1_goesOn_20 : decode cX1_goesOn 20 = .ok (.iload 4, 2) := by decide +kernel
theorem dX1_goesOn_22 : decode cX1_goesOn 22 = .ok (.i2c, 1) := by decide +kernel
theorem dX1_goesOn_23 : decode cX1_goesOn 23 = .ok (.invokevirtual 39, 3) := by decide +kernel
theorem dX1_goesOn_26 : decode cX1_goesOn 26 = .ok (.ifCond .lt 7, 3) := by decide +kernel
theorem dX1_goesOn_29 : decode cX1_goesOn 29 = .ok (.iconst 1, 1) := by decide +kernel
theorem dX1_goesOn_30 : decode cX1_goesOn 30 = .ok (.goto 4, 3) := by decide +kernel
theorem dX1_goesOn_33 : decode cX1_goesOn 33 = .ok (.iconst 0, 1) := by decide +kernel
theorem dX1_goesOn_34 : decode cX1_goesOn 34 = .ok (.ireturn, 1) := by decide +kernel
theorem dX1_goesOn_35 : decode cX1_goesOn 35 = .ok (.iload_n 2, 1) := by decide +kernel
theorem dX1_goesOn_36 : decode cX1_goesOn 36 = .ok (.iload_n 1, 1) := by decide +kernel
theorem dX1_goesOn_37 : decode cX1_goesOn 37 = .ok (.iload_n 3, 1) := by decide +kernel
theorem dX1_goesOn_38 : decode cX1_goesOn 38 = .ok (.invokestatic 44, 3) := by decide +kernel
theorem dX1_goesOn_41 : decode cX1_goesOn 41 = .ok (.iadd, 1) := by decide +kernel
theorem dX1_goesOn_42 : decode cX1_goesOn 42 = .ok (.if_icmp .ne 16, 3) := by decide +kernel
theorem dX1_goesOn_45 : decode cX1_goesOn 45 = .ok (.iload 4, 2) := by decide +kernel
theorem dX1_goesOn_47 : decode cX1_goesOn 47 = .ok (.bipush 59, 2) := by decide +kernel
theorem dX1_goesOn_49 : decode cX1_goesOn 49 = .ok (.if_icmp .ne 7, 3) := by decide +kernel
theorem dX1_goesOn_52 : decode cX1_goesOn 52 = .ok (.iconst 1, 1) := by decide +kernel
theorem dX1_goesOn_53 : decode cX1_goesOn 53 = .ok (.goto 4, 3) := by decide +kernel
theorem dX1_goesOn_56 : decode cX1_goesOn 56 = .ok (.iconst 0, 1) := by decide +kernel
theorem dX1_goesOn_57 : decode cX1_goesOn 57 = .ok (.ireturn, 1) := by decide +kernel
theorem dX1_goesOn_58 : decode cX1_goesOn 58 = .ok (.iload_n 2, 1) := by decide +kernel
theorem dX1_goesOn_59 : decode cX1_goesOn 59 = .ok (.iload_n 1, 1) := by decide +kernel
theorem dX1_goesOn_60 : decode cX1_goesOn 60 = .ok (.iconst 1, 1) := by decide +kernel
theorem dX1_goesOn_61 : decode cX1_goesOn 61 = .ok (.iadd, 1) := by decide +kernel
theorem dX1_goesOn_62 : decode cX1_goesOn 62 = .ok (.if_icmp .ne 26, 3) := by decide +kernel
theorem dX1_goesOn_65 : decode cX1_goesOn 65 = .ok (.iload_n 3, 1) := by decide +kernel
theorem dX1_goesOn_66 : decode cX1_goesOn 66 = .ok (.bipush 116, 2) := by decide +kernel
theorem dX1_goesOn_68 : decode cX1_goesOn 68 = .ok (.if_icmp .ne 20, 3) := by decide +kernel
theorem dX1_goesOn_71 : decode cX1_goesOn 71 = .ok (.ldc 47, 2) := by decide +kernel
theorem dX1_goesOn_73 : decode cX1_goesOn 73 = .ok (.iload 4, 2) := by decide +kernel
theorem dX1_goesOn_75 : decode cX1_goesOn 75 = .ok (.i2c, 1) := by decide +kernel
theorem dX1_goesOn_76 : decode cX1_goesOn 76 = .ok (.invokevirtual 39, 3) := by decide +kernel
theorem dX1_goesOn_79 : decode cX1_goesOn 79 = .ok (.ifCond .lt 7, 3) := by decide +kernel
theorem dX1_goesOn_82 : decode cX1_goesOn 82 = .ok (.iconst 1, 1) := by decide +kernel
theorem dX1_goesOn_83 : decode cX1_goesOn 83 = .ok (.goto 4, 3) := by decide +kernel
theorem dX1_goesOn_86 : decode cX1_goesOn 86 = .ok (.iconst 0, 1) := by decide +kernel
theorem dX1_goesOn_87 : decode cX1_goesOn 87 = .ok (.ireturn, 1) := by decide +kernel
theorem dX1_goesOn_88 : decode cX1_goesOn 88 = .ok (.iload 4, 2) := by decide +kernel
theorem dX1_goesOn_90 : decode cX1_goesOn 90 = .ok (.bipush 48, 2) := by decide +kernel
theorem dX1_goesOn_92 : decode cX1_goesOn 92 = .ok (.if_icmp .lt 14, 3) := by decide +kernel
theorem dX1_goesOn_95 : decode cX1_goesOn 95 = .ok (.iload 4, 2) := by decide +kernel
theorem dX1_goesOn_97 : decode cX1_goesOn 97 = .ok (.bipush 57, 2) := by decide +kernel
theorem dX1_goesOn_99 : decode cX1_goesOn 99 = .ok (.if_icmp .gt 7, 3) := by decide +kernel
theorem dX1_goesOn_102 : decode cX1_goesOn 102 = .ok (.iconst 1, 1) := by decide +kernel
theorem dX1_goesOn_103 : decode cX1_goesOn 103 = .ok (.goto 4, 3) := by decide +kernel
theorem dX1_goesOn_106 : decode cX1_goesOn 106 = .ok (.iconst 0, 1) := by decide +kernel
theorem dX1_goesOn_107 : decode cX1_goesOn 107 = .ok (.ireturn, 1) := by decide +kernel
theorem dX1_lengthOf_0 : decode cX1_lengthOf 0 = .ok (.iload_n 0, 1) := by decide +kernel
theorem dX1_lengthOf_1 : decode cX1_lengthOf 1 = .ok (.bipush 116, 2) := by decide +kernel
theorem dX1_lengthOf_3 : decode cX1_lengthOf 3 = .ok (.if_icmp .eq 9, 3) := by decide +kernel
theorem dX1_lengthOf_6 : decode cX1_lengthOf 6 = .ok (.iload_n 0, 1) := by decide +kernel
theorem dX1_lengthOf_7 : decode cX1_lengthOf 7 = .ok (.bipush 98, 2) := by decide +kernel
theorem dX1_lengthOf_9 : decode cX1_lengthOf 9 = .ok (.if_icmp .ne 7, 3) := by decide +kernel
theorem dX1_lengthOf_12 : decode cX1_lengthOf 12 = .ok (.iconst 4, 1) := by decide +kernel
theorem dX1_lengthOf_13 : decode cX1_lengthOf 13 = .ok (.goto 4, 3) := by decide +kernel
theorem dX1_lengthOf_16 : decode cX1_lengthOf 16 = .ok (.iconst 3, 1) := by decide +kernel
theorem dX1_lengthOf_17 : decode cX1_lengthOf 17 = .ok (.ireturn, 1) := by decide +kernel
set_option maxRecDepth 20000 in
theorem ggX1_tellStatement_X1_letterAt : GoodIn wsX1_tellStatement wsX1_letterAt := goodIn_r _ [5, 6, 7, 180, 181] (by decide +kernel) (by decide +kernel)
set_option maxRecDepth 20000 in
theorem gX1_tellStatement_X1_letterAt : GoodIn wsX1_tellStatement (wsV RX1 25 RX1 yX1_letterAt wsX1_letterAt) := goodIn_app (goodIn_of _ (by decide +kernel)) ggX1_tellStatement_X1_letterAt
set_option maxRecDepth 20000 in
theorem ggX1_tellStatement_J0_indexOf_0f7a4 : GoodIn wsX1_tellStatement wsJ0_indexOf_0f7a4 := goodIn_r _ [12, 13, 14, 15, 11, 16, 17, 18, 19, 20, 21, 22, 23, 24, 25, 26, 27, 28, 29, 30, 31, 32, 33, 34, 35, 36, 37, 38, 39, 40, 41, 42, 43, 44, 45, 46, 47, 48, 49, 50, 51, 52, 53, 54, 55, 56, 57, 58, 59, 60, 61, 62, 63, 64, 65, 66, 67, 68, 69, 70, 71, 72, 73, 74, 75, 76, 77, 78, 79, 80, 81, 82, 83, 84, 85, 86, 87, 88, 89, 90, 91, 92, 93, 94, 95, 96] (by decide +kernel) (by decide +kernel)
set_option maxRecDepth 20000 in
theorem gX1_tellStatement_J0_indexOf_0f7a4 : GoodIn wsX1_tellStatement (wsV RX1 39 RJ0 yJ0_indexOf_0f7a4 wsJ0_indexOf_0f7a4) := goodIn_app (goodIn_of _ (by decide +kernel)) ggX1_tellStatement_J0_indexOf_0f7a4
set_option maxRecDepth 20000 in
theorem ggX1_tellStatement_X1_digit : GoodIn wsX1_tellStatement wsX1_digit := goodIn_r _ [100, 1, 2, 3, 4, 5, 6, 7, 180, 181] (by decide +kernel) (by decide +kernel)
set_option maxRecDepth 20000 in
theorem gX1_tellStatement_X1_digit : GoodIn wsX1_tellStatement (wsV RX1 49 RX1 yX1_digit wsX1_digit) := goodIn_app (goodIn_of _ (by decide +kernel)) ggX1_tellStatement_X1_digit
set_option maxRecDepth 20000 in
theorem ggX1_tellStatement_X0_add : GoodIn wsX1_tellStatement wsX0_add := goodIn_r _ [105, 106, 107, 108, 104, 109, 110, 111, 112, 113, 114, 115, 116, 117, 118, 119, 120, 121, 122, 123, 124, 125, 126, 182, 183, 184, 185, 186, 187, 188, 189, 190] (by decide +kernel) (by decide +kernel)
set_option maxRecDepth 20000 in
theorem gX1_tellStatement_X0_add : GoodIn wsX1_tellStatement (wsV RX1 52 RX0 yX0_add wsX0_add) := goodIn_app (goodIn_of _ (by decide +kernel)) ggX1_tellStatement_X0_add
set_option maxRecDepth 20000 in
theorem ggX1_tellStatement_X0_put : GoodIn wsX1_tellStatement wsX0_put := goodIn_r _ [123, 124, 125, 126, 116, 117, 118, 104, 119, 106, 107, 108, 109, 182, 183, 184, 185, 186, 187, 188, 189, 190] (by decide +kernel) (by decide +kernel)
set_option maxRecDepth 20000 in
theorem gX1_tellStatement_X0_put : GoodIn wsX1_tellStatement (wsV RX1 58 RX0 yX0_put wsX0_put) := goodIn_app (goodIn_of _ (by decide +kernel)) ggX1_tellStatement_X0_put
set_option maxRecDepth 20000 in
theorem ggX1_tellStatement_X1_number : GoodIn wsX1_tellStatement wsX1_number := goodIn_r _ [131, 97, 98, 99, 4, 100, 1, 2, 3, 5, 6, 7, 180, 181] (by decide +kernel) (by decide +kernel)
set_option maxRecDepth 20000 in
theorem gX1_tellStatement_X1_number : GoodIn wsX1_tellStatement (wsV RX1 61 RX1 yX1_number wsX1_number) := goodIn_app (goodIn_of _ (by decide +kernel)) ggX1_tellStatement_X1_number
set_option maxRecDepth 20000 in
theorem ggX1_tellStatement_X0_load : GoodIn wsX1_tellStatement wsX0_load := goodIn_r _ [135, 136, 137, 138, 104, 139, 182, 183, 184, 185, 186, 187, 188, 189, 190] (by decide +kernel) (by decide +kernel)
set_option maxRecDepth 20000 in
theorem gX1_tellStatement_X0_load : GoodIn wsX1_tellStatement (wsV RX1 64 RX0 yX0_load wsX0_load) := goodIn_app (goodIn_of _ (by decide +kernel)) ggX1_tellStatement_X0_load
set_option maxRecDepth 20000 in
theorem ggX1_tellStatement_X0_lift : GoodIn wsX1_tellStatement wsX0_lift := goodIn_r _ [143, 144, 145, 146, 104, 147, 182, 183, 184, 185, 186, 187, 188, 189, 190] (by decide +kernel) (by decide +kernel)
set_option maxRecDepth 20000 in
theorem gX1_tellStatement_X0_lift : GoodIn wsX1_tellStatement (wsV RX1 67 RX0 yX0_lift wsX0_lift) := goodIn_app (goodIn_of _ (by decide +kernel)) ggX1_tellStatement_X0_lift
set_option maxRecDepth 20000 in
theorem ggX1_tellStatement_X0_switchDoor : GoodIn wsX1_tellStatement wsX0_switchDoor := goodIn_r _ [151, 152, 145, 146, 104, 147, 182, 183, 184, 185, 186, 187, 188, 189, 190] (by decide +kernel) (by decide +kernel)
set_option maxRecDepth 20000 in
theorem gX1_tellStatement_X0_switchDoor : GoodIn wsX1_tellStatement (wsV RX1 71 RX0 yX0_switchDoor wsX0_switchDoor) := goodIn_app (goodIn_of _ (by decide +kernel)) ggX1_tellStatement_X0_switchDoor
set_option maxRecDepth 20000 in
theorem ggX1_tellStatement_X0_pass : GoodIn wsX1_tellStatement wsX0_pass := goodIn_r _ [156, 126, 144, 157, 158, 159, 104, 160, 161, 162, 163, 164, 136, 106, 124, 165, 166, 167, 168, 115, 125, 169, 41, 38, 42, 114, 170, 37, 39, 116, 117, 118, 119, 171, 172, 173, 174, 175, 176, 177, 178, 179, 182, 183, 184, 185, 186, 187, 188, 189, 190] (by decide +kernel) (by decide +kernel)
set_option maxRecDepth 20000 in
theorem gX1_tellStatement_X0_pass : GoodIn wsX1_tellStatement (wsV RX1 74 RX0 yX0_pass wsX0_pass) := goodIn_app (goodIn_of _ (by decide +kernel)) ggX1_tellStatement_X0_pass
theorem dX1_tellStatement_0 : decode cX1_tellStatement 0 = .ok (.aload_n 0, 1) := by decide +kernel
theorem dX1_tellStatement_1 : decode cX1_tellStatement 1 = .ok (.iload_n 2, 1) := by decide +kernel
theorem dX1_tellStatement_2 : decode cX1_tellStatement 2 = .ok (.invokevirtual 25, 3) := by decide +kernel
theorem dX1_tellStatement_5 : decode cX1_tellStatement 5 = .ok (.tableswitch 197 98 116 #[142, 197, 173, 197, 161, 197, 123, 197, 197, 197, 197, 197, 185, 197, 197, 197, 197, 197, 91], 91) := by decide +kernel
theorem dX1_tellStatement_96 : decode cX1_tellStatement 96 = .ok (.aload_n 1, 1) := by decide +kernel
theorem dX1_tellStatement_97 : decode cX1_tellStatement 97 = .ok (.ldc 47, 2) := by decide +kernel
theorem dX1_tellStatement_99 : decode cX1_tellStatement 99 = .ok (.aload_n 0, 1) := by decide +kernel
theorem dX1_tellStatement_100 : decode cX1_tellStatement 100 = .ok (.iload_n 2, 1) := by decide +kernel
theorem dX1_tellStatement_101 : decode cX1_tellStatement 101 = .ok (.iconst 1, 1) := by decide +kernel
theorem dX1_tellStatement_102 : decode cX1_tellStatement 102 = .ok (.iadd, 1) := by decide +kernel
theorem dX1_tellStatement_103 : decode cX1_tellStatement 103 = .ok (.invokevirtual 25, 3) := by decide +kernel
theorem dX1_tellStatement_106 : decode cX1_tellStatement 106 = .ok (.i2c, 1) := by decide +kernel
theorem dX1_tellStatement_107 : decode cX1_tellStatement 107 = .ok (.invokevirtual 39, 3) := by decide +kernel
theorem dX1_tellStatement_110 : decode cX1_tellStatement 110 = .ok (.aload_n 0, 1) := by decide +kernel
theorem dX1_tellStatement_111 : decode cX1_tellStatement 111 = .ok (.iload_n 2, 1) := by decide +kernel
theorem dX1_tellStatement_112 : decode cX1_tellStatement 112 = .ok (.iconst 2, 1) := by decide +kernel
theorem dX1_tellStatement_113 : decode cX1_tellStatement 113 = .ok (.iadd, 1) := by decide +kernel
theorem dX1_tellStatement_114 : decode cX1_tellStatement 114 = .ok (.invokevirtual 49, 3) := by decide +kernel
theorem dX1_tellStatement_117 : decode cX1_tellStatement 117 = .ok (.aload_n 0, 1) := by decide +kernel
theorem dX1_tellStatement_118 : decode cX1_tellStatement 118 = .ok (.iload_n 2, 1) := by decide +kernel
theorem dX1_tellStatement_119 : decode cX1_tellStatement 119 = .ok (.iconst 3, 1) := by decide +kernel
theorem dX1_tellStatement_120 : decode cX1_tellStatement 120 = .ok (.iadd, 1) := by decide +kernel
theorem dX1_tellStatement_121 : decode cX1_tellStatement 121 = .ok (.invokevirtual 49, 3) := by decide +kernel
theorem dX1_tellStatement_124 : decode cX1_tellStatement 124 = .ok (.invokevirtual 52, 3) := by decide +kernel
theorem dX1_tellStatement_127 : decode cX1_tellStatement 127 = .ok (.ireturn, 1) := by decide +kernel
theorem dX1_tellStatement_128 : decode cX1_tellStatement 128 = .ok (.aload_n 1, 1) := by decide +kernel
theorem dX1_tellStatement_129 : decode cX1_tellStatement 129 = .ok (.aload_n 0, 1) := by decide +kernel
theorem dX1_tellStatement_130 : decode cX1_tellStatement 130 = .ok (.iload_n 2, 1) := by decide +kernel
theorem dX1_tellStatement_131 : decode cX1_tellStatement 131 = .ok (.iconst 1, 1) := by decide +kernel
theorem dX1_tellStatement_132 : decode cX1_tellStatement 132 = .ok (.iadd, 1) := by decide +kernel
theorem dX1_tellStatement_133 : decode cX1_tellStatement 133 = .ok (.invokevirtual 49, 3) := by decide +kernel
theorem dX1_tellStatement_136 : decode cX1_tellStatement 136 = .ok (.aload_n 0, 1) := by decide +kernel
theorem dX1_tellStatement_137 : decode cX1_tellStatement 137 = .ok (.iload_n 2, 1) := by decide +kernel
theorem dX1_tellStatement_138 : decode cX1_tellStatement 138 = .ok (.iconst 2, 1) := by decide +kernel
theorem dX1_tellStatement_139 : decode cX1_tellStatement 139 = .ok (.iadd, 1) := by decide +kernel
theorem dX1_tellStatement_140 : decode cX1_tellStatement 140 = .ok (.invokevirtual 49, 3) := by decide +kernel
theorem dX1_tellStatement_143 : decode cX1_tellStatement 143 = .ok (.invokevirtual 58, 3) := by decide +kernel
theorem dX1_tellStatement_146 : decode cX1_tellStatement 146 = .ok (.ireturn, 1) := by decide +kernel
theorem dX1_tellStatement_147 : decode cX1_tellStatement 147 = .ok (.aload_n 1, 1) := by decide +kernel
theorem dX1_tellStatement_148 : decode cX1_tellStatement 148 = .ok (.aload_n 0, 1) := by decide +kernel
theorem dX1_tellStatement_149 : decode cX1_tellStatement 149 = .ok (.iload_n 2, 1) := by decide +kernel
theorem dX1_tellStatement_150 : decode cX1_tellStatement 150 = .ok (.iconst 1, 1) := by decide +kernel
theorem dX1_tellStatement_151 : decode cX1_tellStatement 151 = .ok (.iadd, 1) := by decide +kernel
theorem dX1_tellStatement_152 : decode cX1_tellStatement 152 = .ok (.invokevirtual 49, 3) := by decide +kernel
theorem dX1_tellStatement_155 : decode cX1_tellStatement 155 = .ok (.aload_n 0, 1) := by decide +kernel
theorem dX1_tellStatement_156 : decode cX1_tellStatement 156 = .ok (.iload_n 2, 1) := by decide +kernel
theorem dX1_tellStatement_157 : decode cX1_tellStatement 157 = .ok (.iconst 2, 1) := by decide +kernel
theorem dX1_tellStatement_158 : decode cX1_tellStatement 158 = .ok (.iadd, 1) := by decide +kernel
theorem dX1_tellStatement_159 : decode cX1_tellStatement 159 = .ok (.invokevirtual 61, 3) := by decide +kernel
theorem dX1_tellStatement_162 : decode cX1_tellStatement 162 = .ok (.invokevirtual 64, 3) := by decide +kernel
theorem dX1_tellStatement_165 : decode cX1_tellStatement 165 = .ok (.ireturn, 1) := by decide +kernel
theorem dX1_tellStatement_166 : decode cX1_tellStatement 166 = .ok (.aload_n 1, 1) := by decide +kernel
theorem dX1_tellStatement_167 : decode cX1_tellStatement 167 = .ok (.aload_n 0, 1) := by decide +kernel
theorem dX1_tellStatement_168 : decode cX1_tellStatement 168 = .ok (.iload_n 2, 1) := by decide +kernel
theorem dX1_tellStatement_169 : decode cX1_tellStatement 169 = .ok (.iconst 1, 1) := by decide +kernel
theorem dX1_tellStatement_170 : decode cX1_tellStatement 170 = .ok (.iadd, 1) := by decide +kernel
theorem dX1_tellStatement_171 : decode cX1_tellStatement 171 = .ok (.invokevirtual 61, 3) := by decide +kernel
theorem dX1_tellStatement_174 : decode cX1_tellStatement 174 = .ok (.invokevirtual 67, 3) := by decide +kernel
theorem dX1_tellStatement_177 : decode cX1_tellStatement 177 = .ok (.ireturn, 1) := by decide +kernel
theorem dX1_tellStatement_178 : decode cX1_tellStatement 178 = .ok (.aload_n 1, 1) := by decide +kernel
theorem dX1_tellStatement_179 : decode cX1_tellStatement 179 = .ok (.aload_n 0, 1) := by decide +kernel
theorem dX1_tellStatement_180 : decode cX1_tellStatement 180 = .ok (.iload_n 2, 1) := by decide +kernel
theorem dX1_tellStatement_181 : decode cX1_tellStatement 181 = .ok (.iconst 1, 1) := by decide +kernel
theorem dX1_tellStatement_182 : decode cX1_tellStatement 182 = .ok (.iadd, 1) := by decide +kernel
theorem dX1_tellStatement_183 : decode cX1_tellStatement 183 = .ok (.invokevirtual 61, 3) := by decide +kernel
theorem dX1_tellStatement_186 : decode cX1_tellStatement 186 = .ok (.invokevirtual 71, 3) := by decide +kernel
theorem dX1_tellStatement_189 : decode cX1_tellStatement 189 = .ok (.ireturn, 1) := by decide +kernel
theorem dX1_tellStatement_190 : decode cX1_tellStatement 190 = .ok (.aload_n 1, 1) := by decide +kernel
theorem dX1_tellStatement_191 : decode cX1_tellStatement 191 = .ok (.aload_n 0, 1) := by decide +kernel
theorem dX1_tellStatement_192 : decode cX1_tellStatement 192 = .ok (.iload_n 2, 1) := by decide +kernel
theorem dX1_tellStatement_193 : decode cX1_tellStatement 193 = .ok (.iconst 1, 1) := by decide +kernel
theorem dX1_tellStatement_194 : decode cX1_tellStatement 194 = .ok (.iadd, 1) := by decide +kernel
theorem dX1_tellStatement_195 : decode cX1_tellStatement 195 = .ok (.invokevirtual 61, 3) := by decide +kernel
theorem dX1_tellStatement_198 : decode cX1_tellStatement 198 = .ok (.invokevirtual 74, 3) := by decide +kernel
theorem dX1_tellStatement_201 : decode cX1_tellStatement 201 = .ok (.ireturn, 1) := by decide +kernel
theorem dX1_tellStatement_202 : decode cX1_tellStatement 202 = .ok (.iconst 0, 1) := by decide +kernel
theorem dX1_tellStatement_203 : decode cX1_tellStatement 203 = .ok (.ireturn, 1) := by decide +kernel
theorem dX1_letterAt_0 : decode cX1_letterAt 0 = .ok (.iload_n 1, 1) := by decide +kernel
theorem dX1_letterAt_1 : decode cX1_letterAt 1 = .ok (.ifCond .lt 29, 3) := by decide +kernel
theorem dX1_letterAt_4 : decode cX1_letterAt 4 = .ok (.iload_n 1, 1) := by decide +kernel
theorem dX1_letterAt_5 : decode cX1_letterAt 5 = .ok (.aload_n 0, 1) := by decide +kernel
theorem dX1_letterAt_6 : decode cX1_letterAt 6 = .ok (.getfield 7, 3) := by decide +kernel
theorem dX1_letterAt_9 : decode cX1_letterAt 9 = .ok (.if_icmp .ge 21, 3) := by decide +kernel
theorem dX1_letterAt_12 : decode cX1_letterAt 12 = .ok (.iload_n 1, 1) := by decide +kernel
theorem dX1_letterAt_13 : decode cX1_letterAt 13 = .ok (.aload_n 0, 1) := by decide +kernel
theorem dX1_letterAt_14 : decode cX1_letterAt 14 = .ok (.getfield 13, 3) := by decide +kernel
theorem dX1_letterAt_17 : decode cX1_letterAt 17 = .ok (.arraylength, 1) := by decide +kernel
theorem dX1_letterAt_18 : decode cX1_letterAt 18 = .ok (.if_icmp .ge 12, 3) := by decide +kernel
theorem dX1_letterAt_21 : decode cX1_letterAt 21 = .ok (.aload_n 0, 1) := by decide +kernel
theorem dX1_letterAt_22 : decode cX1_letterAt 22 = .ok (.getfield 13, 3) := by decide +kernel
theorem dX1_letterAt_25 : decode cX1_letterAt 25 = .ok (.iload_n 1, 1) := by decide +kernel
theorem dX1_letterAt_26 : decode cX1_letterAt 26 = .ok (.iaload, 1) := by decide +kernel
theorem dX1_letterAt_27 : decode cX1_letterAt 27 = .ok (.goto 4, 3) := by decide +kernel
theorem dX1_letterAt_30 : decode cX1_letterAt 30 = .ok (.iconst 0, 1) := by decide +kernel
theorem dX1_letterAt_31 : decode cX1_letterAt 31 = .ok (.ireturn, 1) := by decide +kernel
set_option maxRecDepth 20000 in
theorem ggX1_digit_X1_letterAt : GoodIn wsX1_digit wsX1_letterAt := goodIn_r _ [5, 6, 7, 8, 9] (by decide +kernel) (by decide +kernel)
set_option maxRecDepth 20000 in
theorem gX1_digit_X1_letterAt : GoodIn wsX1_digit (wsV RX1 25 RX1 yX1_letterAt wsX1_letterAt) := goodIn_app (goodIn_of _ (by decide +kernel)) ggX1_digit_X1_letterAt
theorem dX1_digit_0 : decode cX1_digit 0 = .ok (.aload_n 0, 1) := by decide +kernel
theorem dX1_digit_1 : decode cX1_digit 1 = .ok (.iload_n 1, 1) := by decide +kernel
theorem dX1_digit_2 : decode cX1_digit 2 = .ok (.invokevirtual 25, 3) := by decide +kernel
theorem dX1_digit_5 : decode cX1_digit 5 = .ok (.bipush 48, 2) := by decide +kernel
theorem dX1_digit_7 : decode cX1_digit 7 = .ok (.isub, 1) := by decide +kernel
theorem dX1_digit_8 : decode cX1_digit 8 = .ok (.ireturn, 1) := by decide +kernel
set_option maxRecDepth 20000 in
theorem ggX1_number_X1_digit : GoodIn wsX1_number wsX1_digit := goodIn_r _ [5, 6, 7, 8, 4, 9, 10, 11, 12, 13] (by decide +kernel) (by decide +kernel)
set_option maxRecDepth 20000 in
theorem gX1_number_X1_digit : GoodIn wsX1_number (wsV RX1 49 RX1 yX1_digit wsX1_digit) := goodIn_app (goodIn_of _ (by decide +kernel)) ggX1_number_X1_digit
theorem dX1_number_0 : decode cX1_number 0 = .ok (.bipush 10, 2) := by decide +kernel
theorem dX1_number_2 : decode cX1_number 2 = .ok (.aload_n 0, 1) := by decide +kernel
theorem dX1_number_3 : decode cX1_number 3 = .ok (.iload_n 1, 1) := by decide +kernel
theorem dX1_number_4 : decode cX1_number 4 = .ok (.invokevirtual 49, 3) := by decide +kernel
theorem dX1_number_7 : decode cX1_number 7 = .ok (.imul, 1) := by decide +kernel
theorem dX1_number_8 : decode cX1_number 8 = .ok (.aload_n 0, 1) := by decide +kernel
theorem dX1_number_9 : decode cX1_number 9 = .ok (.iload_n 1, 1) := by decide +kernel
theorem dX1_number_10 : decode cX1_number 10 = .ok (.iconst 1, 1) := by decide +kernel
theorem dX1_number_11 : decode cX1_number 11 = .ok (.iadd, 1) := by decide +kernel
theorem dX1_number_12 : decode cX1_number 12 = .ok (.invokevirtual 49, 3) := by decide +kernel
theorem dX1_number_15 : decode cX1_number 15 = .ok (.iadd, 1) := by decide +kernel
theorem dX1_number_16 : decode cX1_number 16 = .ok (.ireturn, 1) := by decide +kernel
set_option maxRecDepth 20000 in
theorem ggX2_init_X0_init : GoodIn wsX2_init wsX0_init := goodIn_r _ [28, 29, 2, 3, 30, 31, 32, 33, 34, 14, 35, 36, 37, 38, 39, 46, 47, 48, 49, 50, 51, 52, 53, 54] (by decide +kernel) (by decide +kernel)
set_option maxRecDepth 20000 in
theorem gX2_init_X0_init : GoodIn wsX2_init (wsX0_init) := ggX2_init_X0_init
set_option maxRecDepth 20000 in
theorem ggX2_init_X1_init : GoodIn wsX2_init wsX1_init := goodIn_r _ [42, 43, 2, 3, 44, 14, 45, 69, 70] (by decide +kernel) (by decide +kernel)
set_option maxRecDepth 20000 in
theorem gX2_init_X1_init : GoodIn wsX2_init (wsX1_init) := ggX2_init_X1_init
theorem dX2_init_0 : decode cX2_init 0 = .ok (.aload_n 0, 1) := by decide +kernel
theorem dX2_init_1 : decode cX2_init 1 = .ok (.invokespecial 1, 3) := by decide +kernel
theorem dX2_init_4 : decode cX2_init 4 = .ok (.aload_n 0, 1) := by decide +kernel
theorem dX2_init_5 : decode cX2_init 5 = .ok (.new 7, 3) := by decide +kernel
theorem dX2_init_8 : decode cX2_init 8 = .ok (.dup, 1) := by decide +kernel
theorem dX2_init_9 : decode cX2_init 9 = .ok (.invokespecial 9, 3) := by decide +kernel
theorem dX2_init_12 : decode cX2_init 12 = .ok (.putfield 10, 3) := by decide +kernel
theorem dX2_init_15 : decode cX2_init 15 = .ok (.aload_n 0, 1) := by decide +kernel
theorem dX2_init_16 : decode cX2_init 16 = .ok (.new 7, 3) := by decide +kernel
theorem dX2_init_19 : decode cX2_init 19 = .ok (.dup, 1) := by decide +kernel
theorem dX2_init_20 : decode cX2_init 20 = .ok (.invokespecial 9, 3) := by decide +kernel
theorem dX2_init_23 : decode cX2_init 23 = .ok (.putfield 16, 3) := by decide +kernel
theorem dX2_init_26 : decode cX2_init 26 = .ok (.aload_n 0, 1) := by decide +kernel
theorem dX2_init_27 : decode cX2_init 27 = .ok (.new 7, 3) := by decide +kernel
theorem dX2_init_30 : decode cX2_init 30 = .ok (.dup, 1) := by decide +kernel
theorem dX2_init_31 : decode cX2_init 31 = .ok (.invokespecial 9, 3) := by decide +kernel
theorem dX2_init_34 : decode cX2_init 34 = .ok (.putfield 19, 3) := by decide +kernel
theorem dX2_init_37 : decode cX2_init 37 = .ok (.aload_n 0, 1) := by decide +kernel
theorem dX2_init_38 : decode cX2_init 38 = .ok (.new 22, 3) := by decide +kernel
theorem dX2_init_41 : decode cX2_init 41 = .ok (.dup, 1) := by decide +kernel
theorem dX2_init_42 : decode cX2_init 42 = .ok (.invokespecial 24, 3) := by decide +kernel
theorem dX2_init_45 : decode cX2_init 45 = .ok (.putfield 25, 3) := by decide +kernel
theorem dX2_init_48 : decode cX2_init 48 = .ok (.aload_n 0, 1) := by decide +kernel
theorem dX2_init_49 : decode cX2_init 49 = .ok (.bipush 71, 2) := by decide +kernel
theorem dX2_init_51 : decode cX2_init 51 = .ok (.newarray .int, 2) := by decide +kernel
theorem dX2_init_53 : decode cX2_init 53 = .ok (.putfield 29, 3) := by decide +kernel
theorem dX2_init_56 : decode cX2_init 56 = .ok (.aload_n 0, 1) := by decide +kernel
theorem dX2_init_57 : decode cX2_init 57 = .ok (.bipush 31, 2) := by decide +kernel
theorem dX2_init_59 : decode cX2_init 59 = .ok (.newarray .int, 2) := by decide +kernel
theorem dX2_init_61 : decode cX2_init 61 = .ok (.putfield 33, 3) := by decide +kernel
theorem dX2_init_64 : decode cX2_init 64 = .ok (.aload_n 0, 1) := by decide +kernel
theorem dX2_init_65 : decode cX2_init 65 = .ok (.bipush 8, 2) := by decide +kernel
theorem dX2_init_67 : decode cX2_init 67 = .ok (.newarray .int, 2) := by decide +kernel
theorem dX2_init_69 : decode cX2_init 69 = .ok (.putfield 36, 3) := by decide +kernel
theorem dX2_init_72 : decode cX2_init 72 = .ok (.aload_n 0, 1) := by decide +kernel
theorem dX2_init_73 : decode cX2_init 73 = .ok (.iconst 4, 1) := by decide +kernel
theorem dX2_init_74 : decode cX2_init 74 = .ok (.newarray .int, 2) := by decide +kernel
theorem dX2_init_76 : decode cX2_init 76 = .ok (.putfield 39, 3) := by decide +kernel
theorem dX2_init_79 : decode cX2_init 79 = .ok (.aload_n 0, 1) := by decide +kernel
theorem dX2_init_80 : decode cX2_init 80 = .ok (.bipush 21, 2) := by decide +kernel
theorem dX2_init_82 : decode cX2_init 82 = .ok (.newarray .long, 2) := by decide +kernel
theorem dX2_init_84 : decode cX2_init 84 = .ok (.putfield 42, 3) := by decide +kernel
theorem dX2_init_87 : decode cX2_init 87 = .ok (.aload_n 0, 1) := by decide +kernel
theorem dX2_init_88 : decode cX2_init 88 = .ok (.bipush 21, 2) := by decide +kernel
theorem dX2_init_90 : decode cX2_init 90 = .ok (.newarray .long, 2) := by decide +kernel
theorem dX2_init_92 : decode cX2_init 92 = .ok (.putfield 46, 3) := by decide +kernel
theorem dX2_init_95 : decode cX2_init 95 = .ok (.aload_n 0, 1) := by decide +kernel
theorem dX2_init_96 : decode cX2_init 96 = .ok (.bipush 16, 2) := by decide +kernel
theorem dX2_init_98 : decode cX2_init 98 = .ok (.newarray .int, 2) := by decide +kernel
theorem dX2_init_100 : decode cX2_init 100 = .ok (.putfield 49, 3) := by decide +kernel
theorem dX2_init_103 : decode cX2_init 103 = .ok (.aload_n 0, 1) := by decide +kernel
theorem dX2_init_104 : decode cX2_init 104 = .ok (.bipush 7, 2) := by decide +kernel
theorem dX2_init_106 : decode cX2_init 106 = .ok (.newarray .int, 2) := by decide +kernel
theorem dX2_init_108 : decode cX2_init 108 = .ok (.putfield 52, 3) := by decide +kernel
theorem dX2_init_111 : decode cX2_init 111 = .ok (.aload_n 0, 1) := by decide +kernel
theorem dX2_init_112 : decode cX2_init 112 = .ok (.iconst 0, 1) := by decide +kernel
theorem dX2_init_113 : decode cX2_init 113 = .ok (.putfield 55, 3) := by decide +kernel
theorem dX2_init_116 : decode cX2_init 116 = .ok (.aload_n 0, 1) := by decide +kernel
theorem dX2_init_117 : decode cX2_init 117 = .ok (.iconst 0, 1) := by decide +kernel
theorem dX2_init_118 : decode cX2_init 118 = .ok (.putfield 59, 3) := by decide +kernel
theorem dX2_init_121 : decode cX2_init 121 = .ok (.return_, 1) := by decide +kernel
set_option maxRecDepth 20000 in
theorem ggX2_letter_X2_refuse : GoodIn wsX2_letter wsX2_refuse := goodIn_r _ [7, 8, 21, 22, 23, 24, 25, 26, 27, 28, 29, 30, 31, 32, 33, 34] (by decide +kernel) (by decide +kernel)
set_option maxRecDepth 20000 in
theorem gX2_letter_X2_refuse : GoodIn wsX2_letter (wsV RX2 63 RX2 yX2_refuse wsX2_refuse) := goodIn_app (goodIn_of _ (by decide +kernel)) ggX2_letter_X2_refuse
set_option maxRecDepth 20000 in
theorem ggX2_letter_X1_isFull : GoodIn wsX2_letter wsX1_isFull := goodIn_r _ [13, 14, 15, 35, 36] (by decide +kernel) (by decide +kernel)
set_option maxRecDepth 20000 in
theorem gX2_letter_X1_isFull : GoodIn wsX2_letter (wsV RX2 67 RX1 yX1_isFull wsX1_isFull) := goodIn_app (goodIn_of _ (by decide +kernel)) ggX2_letter_X1_isFull
set_option maxRecDepth 20000 in
theorem ggX2_letter_X1_add : GoodIn wsX2_letter wsX1_add := goodIn_r _ [19, 15, 14, 20, 10, 11, 12, 13, 35, 36] (by decide +kernel) (by decide +kernel)
set_option maxRecDepth 20000 in
theorem gX2_letter_X1_add : GoodIn wsX2_letter (wsV RX2 71 RX1 yX1_add wsX1_add) := goodIn_app (goodIn_of _ (by decide +kernel)) ggX2_letter_X1_add
theorem dX2_letter_0 : decode cX2_letter 0 = .ok (.iload_n 1, 1) := by decide +kernel
theorem dX2_letter_1 : decode cX2_letter 1 = .ok (.ifCond .ge 10, 3) := by decide +kernel
theorem dX2_letter_4 : decode cX2_letter 4 = .ok (.aload_n 0, 1) := by decide +kernel
theorem dX2_letter_5 : decode cX2_letter 5 = .ok (.bipush (-4), 2) := by decide +kernel
theorem dX2_letter_7 : decode cX2_letter 7 = .ok (.invokevirtual 63, 3) := by decide +kernel
theorem dX2_letter_10 : decode cX2_letter 10 = .ok (.ireturn, 1) := by decide +kernel
theorem dX2_letter_11 : decode cX2_letter 11 = .ok (.iload_n 1, 1) := by decide +kernel
theorem dX2_letter_12 : decode cX2_letter 12 = .ok (.sipush 255, 3) := by decide +kernel
theorem dX2_letter_15 : decode cX2_letter 15 = .ok (.if_icmp .gt 13, 3) := by decide +kernel
theorem dX2_letter_18 : decode cX2_letter 18 = .ok (.aload_n 0, 1) := by decide +kernel
theorem dX2_letter_19 : decode cX2_letter 19 = .ok (.getfield 25, 3) := by decide +kernel
theorem dX2_letter_22 : decode cX2_letter 22 = .ok (.invokevirtual 67, 3) := by decide +kernel
theorem dX2_letter_25 : decode cX2_letter 25 = .ok (.ifCond .eq 10, 3) := by decide +kernel
theorem dX2_letter_28 : decode cX2_letter 28 = .ok (.aload_n 0, 1) := by decide +kernel
theorem dX2_letter_29 : decode cX2_letter 29 = .ok (.bipush (-6), 2) := by decide +kernel
theorem dX2_letter_31 : decode cX2_letter 31 = .ok (.invokevirtual 63, 3) := by decide +kernel
theorem dX2_letter_34 : decode cX2_letter 34 = .ok (.ireturn, 1) := by decide +kernel
theorem dX2_letter_35 : decode cX2_letter 35 = .ok (.aload_n 0, 1) := by decide +kernel
theorem dX2_letter_36 : decode cX2_letter 36 = .ok (.getfield 25, 3) := by decide +kernel
theorem dX2_letter_39 : decode cX2_letter 39 = .ok (.iload_n 1, 1) := by decide +kernel
theorem dX2_letter_40 : decode cX2_letter 40 = .ok (.invokevirtual 71, 3) := by decide +kernel
theorem dX2_letter_43 : decode cX2_letter 43 = .ok (.aload_n 0, 1) := by decide +kernel
theorem dX2_letter_44 : decode cX2_letter 44 = .ok (.getfield 25, 3) := by decide +kernel
theorem dX2_letter_47 : decode cX2_letter 47 = .ok (.getfield 75, 3) := by decide +kernel
theorem dX2_letter_50 : decode cX2_letter 50 = .ok (.ireturn, 1) := by decide +kernel
set_option maxRecDepth 20000 in
theorem ggX2_hoist_X0_copy : GoodIn wsX2_hoist wsX0_copy := goodIn_r _ [8, 9, 10, 11, 12, 13, 14, 15, 16, 17, 224, 225, 226, 227, 228, 229, 230, 231, 232] (by decide +kernel) (by decide +kernel)
set_option maxRecDepth 20000 in
theorem gX2_hoist_X0_copy : GoodIn wsX2_hoist (wsV RX2 78 RX0 yX0_copy wsX0_copy) := goodIn_app (goodIn_of _ (by decide +kernel)) ggX2_hoist_X0_copy
set_option maxRecDepth 20000 in
theorem ggX2_hoist_X1_tell : GoodIn wsX2_hoist wsX1_tell := goodIn_r _ [22, 23, 24, 25, 26, 21, 27, 28, 29, 30, 31, 32, 33, 34, 35, 36, 37, 38, 39, 40, 41, 42, 43, 44, 45, 46, 47, 48, 49, 50, 51, 52, 53, 54, 55, 56, 57, 58, 59, 60, 61, 62, 63, 64, 65, 66, 67, 68, 69, 70, 71, 72, 73, 74, 75, 76, 77, 78, 79, 80, 81, 82, 83, 84, 85, 86, 87, 88, 89, 90, 91, 92, 93, 94, 95, 96, 97, 98, 99, 100, 101, 102, 103, 104, 105, 106, 107, 108, 109, 110, 111, 112, 113, 114, 115, 116, 117, 118, 119, 120, 121, 122, 123, 124, 125, 126, 127, 128, 129, 130, 131, 132, 133, 134, 135, 136, 137, 138, 139, 7, 140, 12, 141, 142, 143, 144, 145, 146, 147, 14, 15, 148, 149, 150, 151, 152, 153, 154, 155, 16, 17, 11, 156, 157, 158, 159, 160, 161, 162, 163, 164, 13, 165, 166, 167, 168, 169, 170, 171, 9, 172, 173, 174, 175, 176, 177, 178, 10, 179, 180, 181, 182, 183, 184, 185, 186, 187, 188, 189, 190, 191, 192, 193, 194, 195, 196, 197, 198, 199, 200, 201, 202, 203, 204, 205, 233, 234, 224, 225, 226, 227, 228, 229, 230, 231, 232] (by decide +kernel) (by decide +kernel)
set_option maxRecDepth 20000 in
theorem gX2_hoist_X1_tell : GoodIn wsX2_hoist (wsV RX2 82 RX1 yX1_tell wsX1_tell) := goodIn_app (goodIn_of _ (by decide +kernel)) ggX2_hoist_X1_tell
set_option maxRecDepth 20000 in
theorem ggX2_hoist_X1_forget : GoodIn wsX2_hoist wsX1_forget := goodIn_r _ [209, 23, 233, 234] (by decide +kernel) (by decide +kernel)
set_option maxRecDepth 20000 in
theorem gX2_hoist_X1_forget : GoodIn wsX2_hoist (wsV RX2 86 RX1 yX1_forget wsX1_forget) := goodIn_app (goodIn_of _ (by decide +kernel)) ggX2_hoist_X1_forget
theorem dX2_hoist_0 : decode cX2_hoist 0 = .ok (.aload_n 0, 1) := by decide +kernel
theorem dX2_hoist_1 : decode cX2_hoist 1 = .ok (.getfield 16, 3) := by decide +kernel
theorem dX2_hoist_4 : decode cX2_hoist 4 = .ok (.aload_n 0, 1) := by decide +kernel
theorem dX2_hoist_5 : decode cX2_hoist 5 = .ok (.getfield 10, 3) := by decide +kernel
theorem dX2_hoist_8 : decode cX2_hoist 8 = .ok (.invokevirtual 78, 3) := by decide +kernel
theorem dX2_hoist_11 : decode cX2_hoist 11 = .ok (.aload_n 0, 1) := by decide +kernel
theorem dX2_hoist_12 : decode cX2_hoist 12 = .ok (.getfield 25, 3) := by decide +kernel
theorem dX2_hoist_15 : decode cX2_hoist 15 = .ok (.aload_n 0, 1) := by decide +kernel
theorem dX2_hoist_16 : decode cX2_hoist 16 = .ok (.getfield 16, 3) := by decide +kernel
theorem dX2_hoist_19 : decode cX2_hoist 19 = .ok (.invokevirtual 82, 3) := by decide +kernel
theorem dX2_hoist_22 : decode cX2_hoist 22 = .ok (.istore_n 1, 1) := by decide +kernel
theorem dX2_hoist_23 : decode cX2_hoist 23 = .ok (.aload_n 0, 1) := by decide +kernel
theorem dX2_hoist_24 : decode cX2_hoist 24 = .ok (.getfield 25, 3) := by decide +kernel
theorem dX2_hoist_27 : decode cX2_hoist 27 = .ok (.invokevirtual 86, 3) := by decide +kernel
theorem dX2_hoist_30 : decode cX2_hoist 30 = .ok (.iload_n 1, 1) := by decide +kernel
theorem dX2_hoist_31 : decode cX2_hoist 31 = .ok (.ifCond .le 14, 3) := by decide +kernel
theorem dX2_hoist_34 : decode cX2_hoist 34 = .ok (.aload_n 0, 1) := by decide +kernel
theorem dX2_hoist_35 : decode cX2_hoist 35 = .ok (.getfield 10, 3) := by decide +kernel
theorem dX2_hoist_38 : decode cX2_hoist 38 = .ok (.aload_n 0, 1) := by decide +kernel
theorem dX2_hoist_39 : decode cX2_hoist 39 = .ok (.getfield 16, 3) := by decide +kernel
theorem dX2_hoist_42 : decode cX2_hoist 42 = .ok (.invokevirtual 78, 3) := by decide +kernel
theorem dX2_hoist_45 : decode cX2_hoist 45 = .ok (.iload_n 1, 1) := by decide +kernel
theorem dX2_hoist_46 : decode cX2_hoist 46 = .ok (.ireturn, 1) := by decide +kernel
set_option maxRecDepth 20000 in
theorem ggX2_thing_X0_has : GoodIn wsX2_thing wsX0_has := goodIn_r _ [6, 7, 61, 62, 63, 64, 65, 66, 67, 68, 69] (by decide +kernel) (by decide +kernel)
set_option maxRecDepth 20000 in
theorem gX2_thing_X0_has : GoodIn wsX2_thing (wsV RX2 89 RX0 yX0_has wsX0_has) := goodIn_app (goodIn_of _ (by decide +kernel)) ggX2_thing_X0_has
set_option maxRecDepth 20000 in
theorem ggX2_thing_X2_refuse : GoodIn wsX2_thing wsX2_refuse := goodIn_r _ [12, 13, 47, 48, 49, 50, 51, 52, 53, 54, 55, 56, 57, 58, 59, 60] (by decide +kernel) (by decide +kernel)
set_option maxRecDepth 20000 in
theorem gX2_thing_X2_refuse : GoodIn wsX2_thing (wsV RX2 63 RX2 yX2_refuse wsX2_refuse) := goodIn_app (goodIn_of _ (by decide +kernel)) ggX2_thing_X2_refuse
set_option maxRecDepth 20000 in
theorem ggX2_thing_X0_kindOf : GoodIn wsX2_thing wsX0_kindOf := goodIn_r _ [17, 18, 19, 3, 4, 5, 6, 7, 61, 62, 63, 64, 65, 66, 67, 68, 69] (by decide +kernel) (by decide +kernel)
set_option maxRecDepth 20000 in
theorem gX2_thing_X0_kindOf : GoodIn wsX2_thing (wsV RX2 93 RX0 yX0_kindOf wsX0_kindOf) := goodIn_app (goodIn_of _ (by decide +kernel)) ggX2_thing_X0_kindOf
set_option maxRecDepth 20000 in
theorem ggX2_thing_X0_figureOf : GoodIn wsX2_thing wsX0_figureOf := goodIn_r _ [23, 24, 19, 3, 4, 5, 6, 7, 61, 62, 63, 64, 65, 66, 67, 68, 69] (by decide +kernel) (by decide +kernel)
set_option maxRecDepth 20000 in
theorem gX2_thing_X0_figureOf : GoodIn wsX2_thing (wsV RX2 96 RX0 yX0_figureOf wsX0_figureOf) := goodIn_app (goodIn_of _ (by decide +kernel)) ggX2_thing_X0_figureOf
set_option maxRecDepth 20000 in
theorem ggX2_thing_X0_placeOf : GoodIn wsX2_thing wsX0_placeOf := goodIn_r _ [28, 29, 19, 3, 4, 5, 6, 7, 61, 62, 63, 64, 65, 66, 67, 68, 69] (by decide +kernel) (by decide +kernel)
set_option maxRecDepth 20000 in
theorem gX2_thing_X0_placeOf : GoodIn wsX2_thing (wsV RX2 99 RX0 yX0_placeOf wsX0_placeOf) := goodIn_app (goodIn_of _ (by decide +kernel)) ggX2_thing_X0_placeOf
set_option maxRecDepth 20000 in
theorem ggX2_thing_X0_sinceOf : GoodIn wsX2_thing wsX0_sinceOf := goodIn_r _ [33, 34, 19, 3, 4, 5, 6, 7, 61, 62, 63, 64, 65, 66, 67, 68, 69] (by decide +kernel) (by decide +kernel)
set_option maxRecDepth 20000 in
theorem gX2_thing_X0_sinceOf : GoodIn wsX2_thing (wsV RX2 102 RX0 yX0_sinceOf wsX0_sinceOf) := goodIn_app (goodIn_of _ (by decide +kernel)) ggX2_thing_X0_sinceOf
set_option maxRecDepth 20000 in
theorem ggX2_thing_X0_weighs : GoodIn wsX2_thing wsX0_weighs := goodIn_r _ [38, 39, 24, 34, 40, 41, 42, 43, 18, 44, 45, 46, 19, 3, 4, 5, 6, 7, 61, 62, 63, 64, 65, 66, 67, 68, 69] (by decide +kernel) (by decide +kernel)
set_option maxRecDepth 20000 in
theorem gX2_thing_X0_weighs : GoodIn wsX2_thing (wsV RX2 105 RX0 yX0_weighs wsX0_weighs) := goodIn_app (goodIn_of _ (by decide +kernel)) ggX2_thing_X0_weighs
theorem dX2_thing_0 : decode cX2_thing 0 = .ok (.aload_n 0, 1) := by decide +kernel
theorem dX2_thing_1 : decode cX2_thing 1 = .ok (.getfield 10, 3) := by decide +kernel
theorem dX2_thing_4 : decode cX2_thing 4 = .ok (.iload_n 1, 1) := by decide +kernel
theorem dX2_thing_5 : decode cX2_thing 5 = .ok (.invokevirtual 89, 3) := by decide +kernel
theorem dX2_thing_8 : decode cX2_thing 8 = .ok (.ifCond .ne 9, 3) := by decide +kernel
theorem dX2_thing_11 : decode cX2_thing 11 = .ok (.aload_n 0, 1) := by decide +kernel
theorem dX2_thing_12 : decode cX2_thing 12 = .ok (.iconst (-1), 1) := by decide +kernel
theorem dX2_thing_13 : decode cX2_thing 13 = .ok (.invokevirtual 63, 3) := by decide +kernel
theorem dX2_thing_16 : decode cX2_thing 16 = .ok (.ireturn, 1) := by decide +kernel
theorem dX2_thing_17 : decode cX2_thing 17 = .ok (.iload_n 2, 1) := by decide +kernel
theorem dX2_thing_18 : decode cX2_thing 18 = .ok (.tableswitch 80 0 4 #[34, 43, 52, 61, 70], 34) := by decide +kernel
theorem dX2_thing_52 : decode cX2_thing 52 = .ok (.aload_n 0, 1) := by decide +kernel
theorem dX2_thing_53 : decode cX2_thing 53 = .ok (.getfield 10, 3) := by decide +kernel
theorem dX2_thing_56 : decode cX2_thing 56 = .ok (.iload_n 1, 1) := by decide +kernel
theorem dX2_thing_57 : decode cX2_thing 57 = .ok (.invokevirtual 93, 3) := by decide +kernel
theorem dX2_thing_60 : decode cX2_thing 60 = .ok (.ireturn, 1) := by decide +kernel
theorem dX2_thing_61 : decode cX2_thing 61 = .ok (.aload_n 0, 1) := by decide +kernel
theorem dX2_thing_62 : decode cX2_thing 62 = .ok (.getfield 10, 3) := by decide +kernel
theorem dX2_thing_65 : decode cX2_thing 65 = .ok (.iload_n 1, 1) := by decide +kernel
theorem dX2_thing_66 : decode cX2_thing 66 = .ok (.invokevirtual 96, 3) := by decide +kernel
theorem dX2_thing_69 : decode cX2_thing 69 = .ok (.ireturn, 1) := by decide +kernel
theorem dX2_thing_70 : decode cX2_thing 70 = .ok (.aload_n 0, 1) := by decide +kernel
theorem dX2_thing_71 : decode cX2_thing 71 = .ok (.getfield 10, 3) := by decide +kernel
theorem dX2_thing_74 : decode cX2_thing 74 = .ok (.iload_n 1, 1) := by decide +kernel
theorem dX2_thing_75 : decode cX2_thing 75 = .ok (.invokevirtual 99, 3) := by decide +kernel
theorem dX2_thing_78 : decode cX2_thing 78 = .ok (.ireturn, 1) := by decide +kernel
theorem dX2_thing_79 : decode cX2_thing 79 = .ok (.aload_n 0, 1) := by decide +kernel
theorem dX2_thing_80 : decode cX2_thing 80 = .ok (.getfield 10, 3) := by decide +kernel
theorem dX2_thing_83 : decode cX2_thing 83 = .ok (.iload_n 1, 1) := by decide +kernel
theorem dX2_thing_84 : decode cX2_thing 84 = .ok (.invokevirtual 102, 3) := by decide +kernel
theorem dX2_thing_87 : decode cX2_thing 87 = .ok (.ireturn, 1) := by decide +kernel
theorem dX2_thing_88 : decode cX2_thing 88 = .ok (.aload_n 0, 1) := by decide +kernel
theorem dX2_thing_89 : decode cX2_thing 89 = .ok (.getfield 10, 3) := by decide +kernel
theorem dX2_thing_92 : decode cX2_thing 92 = .ok (.iload_n 1, 1) := by decide +kernel
theorem dX2_thing_93 : decode cX2_thing 93 = .ok (.iconst 0, 1) := by decide +kernel
theorem dX2_thing_94 : decode cX2_thing 94 = .ok (.invokevirtual 105, 3) := by decide +kernel
theorem dX2_thing_97 : decode cX2_thing 97 = .ok (.ireturn, 1) := by decide +kernel
theorem dX2_thing_98 : decode cX2_thing 98 = .ok (.aload_n 0, 1) := by decide +kernel
theorem dX2_thing_99 : decode cX2_thing 99 = .ok (.bipush (-2), 2) := by decide +kernel
theorem dX2_thing_101 : decode cX2_thing 101 = .ok (.invokevirtual 63, 3) := by decide +kernel
theorem dX2_thing_104 : decode cX2_thing 104 = .ok (.ireturn, 1) := by decide +kernel
set_option maxRecDepth 20000 in
theorem ggX2_side_X0_isSide : GoodIn wsX2_side wsX0_isSide := goodIn_r _ [6] (by decide +kernel) (by decide +kernel)
set_option maxRecDepth 20000 in
theorem gX2_side_X0_isSide : GoodIn wsX2_side (va_wsS RX2 109 yX0_isSide wsX0_isSide) := goodIn_app (goodIn_of _ (by decide +kernel)) ggX2_side_X0_isSide
set_option maxRecDepth 20000 in
theorem ggX2_side_X2_refuse : GoodIn wsX2_side wsX2_refuse := goodIn_r _ [11, 12, 78, 79, 80, 81, 82, 83, 84, 85, 86, 87, 88, 89, 90, 91] (by decide +kernel) (by decide +kernel)
set_option maxRecDepth 20000 in
theorem gX2_side_X2_refuse : GoodIn wsX2_side (wsV RX2 63 RX2 yX2_refuse wsX2_refuse) := goodIn_app (goodIn_of _ (by decide +kernel)) ggX2_side_X2_refuse
set_option maxRecDepth 20000 in
theorem ggX2_side_X0_heightOf : GoodIn wsX2_side wsX0_heightOf := goodIn_r _ [15] (by decide +kernel) (by decide +kernel)
set_option maxRecDepth 20000 in
theorem gX2_side_X0_heightOf : GoodIn wsX2_side (va_wsS RX2 115 yX0_heightOf wsX0_heightOf) := goodIn_app (goodIn_of _ (by decide +kernel)) ggX2_side_X0_heightOf
set_option maxRecDepth 20000 in
theorem ggX2_side_X0_ballastOf : GoodIn wsX2_side wsX0_ballastOf := goodIn_r _ [19, 20, 21, 4, 5, 6, 92, 93, 94, 95, 96, 97, 98, 99, 100] (by decide +kernel) (by decide +kernel)
set_option maxRecDepth 20000 in
theorem gX2_side_X0_ballastOf : GoodIn wsX2_side (wsV RX2 118 RX0 yX0_ballastOf wsX0_ballastOf) := goodIn_app (goodIn_of _ (by decide +kernel)) ggX2_side_X0_ballastOf
set_option maxRecDepth 20000 in
theorem ggX2_side_X0_weightOf : GoodIn wsX2_side wsX0_weightOf := goodIn_r _ [25, 26, 27, 17, 18, 5, 19, 20, 21, 4, 6, 28, 29, 30, 31, 32, 33, 34, 35, 36, 37, 38, 39, 40, 41, 42, 43, 44, 45, 46, 47, 48, 49, 50, 51, 92, 93, 94, 95, 96, 97, 98, 99, 100] (by decide +kernel) (by decide +kernel)
set_option maxRecDepth 20000 in
theorem gX2_side_X0_weightOf : GoodIn wsX2_side (wsV RX2 121 RX0 yX0_weightOf wsX0_weightOf) := goodIn_app (goodIn_of _ (by decide +kernel)) ggX2_side_X0_weightOf
set_option maxRecDepth 20000 in
theorem ggX2_side_X0_bitsAt : GoodIn wsX2_side wsX0_bitsAt := goodIn_r _ [55, 26, 28, 29, 30, 5, 31, 32, 33, 34, 35, 36, 92, 93, 94, 95, 96, 97, 98, 99, 100] (by decide +kernel) (by decide +kernel)
set_option maxRecDepth 20000 in
theorem gX2_side_X0_bitsAt : GoodIn wsX2_side (wsV RX2 124 RX0 yX0_bitsAt wsX0_bitsAt) := goodIn_app (goodIn_of _ (by decide +kernel)) ggX2_side_X0_bitsAt
set_option maxRecDepth 20000 in
theorem ggX2_side_X0_nearestDoor : GoodIn wsX2_side wsX0_nearestDoor := goodIn_r _ [59, 60, 61, 62, 46, 63, 64, 14, 5, 15, 65, 66, 67, 68, 69, 70, 71, 72, 92, 93, 94, 95, 96, 97, 98, 99, 100] (by decide +kernel) (by decide +kernel)
set_option maxRecDepth 20000 in
theorem gX2_side_X0_nearestDoor : GoodIn wsX2_side (wsV RX2 127 RX0 yX0_nearestDoor wsX0_nearestDoor) := goodIn_app (goodIn_of _ (by decide +kernel)) ggX2_side_X0_nearestDoor
set_option maxRecDepth 20000 in
theorem ggX2_side_X2_howFar : GoodIn wsX2_side wsX2_howFar := goodIn_r _ [76, 1, 2, 77, 62, 46, 63, 56, 57, 58, 5, 59, 60, 61, 64, 14, 15, 65, 66, 67, 68, 69, 70, 71, 72, 13, 78, 79, 80, 81, 82, 83, 84, 85, 86, 87, 88, 89, 90, 91, 92, 93, 94, 95, 96, 97, 98, 99, 100] (by decide +kernel) (by decide +kernel)
set_option maxRecDepth 20000 in
theorem gX2_side_X2_howFar : GoodIn wsX2_side (wsV RX2 130 RX2 yX2_howFar wsX2_howFar) := goodIn_app (goodIn_of _ (by decide +kernel)) ggX2_side_X2_howFar
theorem dX2_side_0 : decode cX2_side 0 = .ok (.iload_n 1, 1) := by decide +kernel
theorem dX2_side_1 : decode cX2_side 1 = .ok (.invokestatic 109, 3) := by decide +kernel
theorem dX2_side_4 : decode cX2_side 4 = .ok (.ifCond .ne 9, 3) := by decide +kernel
theorem dX2_side_7 : decode cX2_side 7 = .ok (.aload_n 0, 1) := by decide +kernel
theorem dX2_side_8 : decode cX2_side 8 = .ok (.iconst (-1), 1) := by decide +kernel
theorem dX2_side_9 : decode cX2_side 9 = .ok (.invokevirtual 63, 3) := by decide +kernel
theorem dX2_side_12 : decode cX2_side 12 = .ok (.ireturn, 1) := by decide +kernel
theorem dX2_side_13 : decode cX2_side 13 = .ok (.iload_n 2, 1) := by decide +kernel
theorem dX2_side_14 : decode cX2_side 14 = .ok (.tableswitch 92 0 5 #[38, 50, 59, 68, 77, 86], 38) := by decide +kernel
theorem dX2_side_52 : decode cX2_side 52 = .ok (.iload_n 1, 1) := by decide +kernel
theorem dX2_side_53 : decode cX2_side 53 = .ok (.aload_n 0, 1) := by decide +kernel
theorem dX2_side_54 : decode cX2_side 54 = .ok (.getfield 10, 3) := by decide +kernel
theorem dX2_side_57 : decode cX2_side 57 = .ok (.getfield 112, 3) := by decide +kernel
theorem dX2_side_60 : decode cX2_side 60 = .ok (.invokestatic 115, 3) := by decide +kernel
theorem dX2_side_63 : decode cX2_side 63 = .ok (.ireturn, 1) := by decide +kernel
theorem dX2_side_64 : decode cX2_side 64 = .ok (.aload_n 0, 1) := by decide +kernel
theorem dX2_side_65 : decode cX2_side 65 = .ok (.getfield 10, 3) := by decide +kernel
theorem dX2_side_68 : decode cX2_side 68 = .ok (.iload_n 1, 1) := by decide +kernel
theorem dX2_side_69 : decode cX2_side 69 = .ok (.invokevirtual 118, 3) := by decide +kernel
theorem dX2_side_72 : decode cX2_side 72 = .ok (.ireturn, 1) := by decide +kernel
theorem dX2_side_73 : decode cX2_side 73 = .ok (.aload_n 0, 1) := by decide +kernel
theorem dX2_side_74 : decode cX2_side 74 = .ok (.getfield 10, 3) := by decide +kernel
theorem dX2_side_77 : decode cX2_side 77 = .ok (.iload_n 1, 1) := by decide +kernel
theorem dX2_side_78 : decode cX2_side 78 = .ok (.invokevirtual 121, 3) := by decide +kernel
theorem dX2_side_81 : decode cX2_side 81 = .ok (.ireturn, 1) := by decide +kernel
theorem dX2_side_82 : decode cX2_side 82 = .ok (.aload_n 0, 1) := by decide +kernel
theorem dX2_side_83 : decode cX2_side 83 = .ok (.getfield 10, 3) := by decide +kernel
theorem dX2_side_86 : decode cX2_side 86 = .ok (.iload_n 1, 1) := by decide +kernel
theorem dX2_side_87 : decode cX2_side 87 = .ok (.invokevirtual 124, 3) := by decide +kernel
theorem dX2_side_90 : decode cX2_side 90 = .ok (.ireturn, 1) := by decide +kernel
theorem dX2_side_91 : decode cX2_side 91 = .ok (.aload_n 0, 1) := by decide +kernel
theorem dX2_side_92 : decode cX2_side 92 = .ok (.getfield 10, 3) := by decide +kernel
theorem dX2_side_95 : decode cX2_side 95 = .ok (.iload_n 1, 1) := by decide +kernel
theorem dX2_side_96 : decode cX2_side 96 = .ok (.invokevirtual 127, 3) := by decide +kernel
theorem dX2_side_99 : decode cX2_side 99 = .ok (.ireturn, 1) := by decide +kernel
theorem dX2_side_100 : decode cX2_side 100 = .ok (.aload_n 0, 1) := by decide +kernel
theorem dX2_side_101 : decode cX2_side 101 = .ok (.iload_n 1, 1) := by decide +kernel
theorem dX2_side_102 : decode cX2_side 102 = .ok (.invokevirtual 130, 3) := by decide +kernel
theorem dX2_side_105 : decode cX2_side 105 = .ok (.ireturn, 1) := by decide +kernel
theorem dX2_side_106 : decode cX2_side 106 = .ok (.aload_n 0, 1) := by decide +kernel
theorem dX2_side_107 : decode cX2_side 107 = .ok (.bipush (-2), 2) := by decide +kernel
theorem dX2_side_109 : decode cX2_side 109 = .ok (.invokevirtual 63, 3) := by decide +kernel
theorem dX2_side_112 : decode cX2_side 112 = .ok (.ireturn, 1) := by decide +kernel
set_option maxRecDepth 20000 in
theorem ggX2_hangs_X0_has : GoodIn wsX2_hangs wsX0_has := goodIn_r _ [6, 7, 44, 45, 46, 47, 48, 49, 50, 51, 52] (by decide +kernel) (by decide +kernel)
set_option maxRecDepth 20000 in
theorem gX2_hangs_X0_has : GoodIn wsX2_hangs (wsV RX2 89 RX0 yX0_has wsX0_has) := goodIn_app (goodIn_of _ (by decide +kernel)) ggX2_hangs_X0_has
set_option maxRecDepth 20000 in
theorem ggX2_hangs_X2_refuse : GoodIn wsX2_hangs wsX2_refuse := goodIn_r _ [12, 13, 30, 31, 32, 33, 34, 35, 36, 37, 38, 39, 40, 41, 42, 43] (by decide +kernel) (by decide +kernel)
set_option maxRecDepth 20000 in
theorem gX2_hangs_X2_refuse : GoodIn wsX2_hangs (wsV RX2 63 RX2 yX2_refuse wsX2_refuse) := goodIn_app (goodIn_of _ (by decide +kernel)) ggX2_hangs_X2_refuse
set_option maxRecDepth 20000 in
theorem ggX2_hangs_X0_isPlace : GoodIn wsX2_hangs wsX0_isPlace := goodIn_r _ [16] (by decide +kernel) (by decide +kernel)
set_option maxRecDepth 20000 in
theorem gX2_hangs_X0_isPlace : GoodIn wsX2_hangs (va_wsS RX2 133 yX0_isPlace wsX0_isPlace) := goodIn_app (goodIn_of _ (by decide +kernel)) ggX2_hangs_X0_isPlace
set_option maxRecDepth 20000 in
theorem ggX2_hangs_X0_placeOf : GoodIn wsX2_hangs wsX0_placeOf := goodIn_r _ [20, 21, 22, 3, 4, 5, 6, 7, 44, 45, 46, 47, 48, 49, 50, 51, 52] (by decide +kernel) (by decide +kernel)
set_option maxRecDepth 20000 in
theorem gX2_hangs_X0_placeOf : GoodIn wsX2_hangs (wsV RX2 99 RX0 yX0_placeOf wsX0_placeOf) := goodIn_app (goodIn_of _ (by decide +kernel)) ggX2_hangs_X0_placeOf
set_option maxRecDepth 20000 in
theorem ggX2_hangs_X0_put : GoodIn wsX2_hangs wsX0_put := goodIn_r _ [26, 21, 27, 28, 22, 3, 4, 5, 6, 7, 29, 15, 16, 44, 45, 46, 47, 48, 49, 50, 51, 52] (by decide +kernel) (by decide +kernel)
set_option maxRecDepth 20000 in
theorem gX2_hangs_X0_put : GoodIn wsX2_hangs (wsV RX2 136 RX0 yX0_put wsX0_put) := goodIn_app (goodIn_of _ (by decide +kernel)) ggX2_hangs_X0_put
theorem dX2_hangs_0 : decode cX2_hangs 0 = .ok (.aload_n 0, 1) := by decide +kernel
theorem dX2_hangs_1 : decode cX2_hangs 1 = .ok (.getfield 10, 3) := by decide +kernel
theorem dX2_hangs_4 : decode cX2_hangs 4 = .ok (.iload_n 1, 1) := by decide +kernel
theorem dX2_hangs_5 : decode cX2_hangs 5 = .ok (.invokevirtual 89, 3) := by decide +kernel
theorem dX2_hangs_8 : decode cX2_hangs 8 = .ok (.ifCond .ne 9, 3) := by decide +kernel
theorem dX2_hangs_11 : decode cX2_hangs 11 = .ok (.aload_n 0, 1) := by decide +kernel
theorem dX2_hangs_12 : decode cX2_hangs 12 = .ok (.iconst (-1), 1) := by decide +kernel
theorem dX2_hangs_13 : decode cX2_hangs 13 = .ok (.invokevirtual 63, 3) := by decide +kernel
theorem dX2_hangs_16 : decode cX2_hangs 16 = .ok (.ireturn, 1) := by decide +kernel
theorem dX2_hangs_17 : decode cX2_hangs 17 = .ok (.iload_n 2, 1) := by decide +kernel
theorem dX2_hangs_18 : decode cX2_hangs 18 = .ok (.invokestatic 133, 3) := by decide +kernel
theorem dX2_hangs_21 : decode cX2_hangs 21 = .ok (.ifCond .ne 10, 3) := by decide +kernel
theorem dX2_hangs_24 : decode cX2_hangs 24 = .ok (.aload_n 0, 1) := by decide +kernel
theorem dX2_hangs_25 : decode cX2_hangs 25 = .ok (.bipush (-2), 2) := by decide +kernel
theorem dX2_hangs_27 : decode cX2_hangs 27 = .ok (.invokevirtual 63, 3) := by decide +kernel
theorem dX2_hangs_30 : decode cX2_hangs 30 = .ok (.ireturn, 1) := by decide +kernel
theorem dX2_hangs_31 : decode cX2_hangs 31 = .ok (.aload_n 0, 1) := by decide +kernel
theorem dX2_hangs_32 : decode cX2_hangs 32 = .ok (.getfield 10, 3) := by decide +kernel
theorem dX2_hangs_35 : decode cX2_hangs 35 = .ok (.iload_n 1, 1) := by decide +kernel
theorem dX2_hangs_36 : decode cX2_hangs 36 = .ok (.invokevirtual 99, 3) := by decide +kernel
theorem dX2_hangs_39 : decode cX2_hangs 39 = .ok (.istore_n 3, 1) := by decide +kernel
theorem dX2_hangs_40 : decode cX2_hangs 40 = .ok (.aload_n 0, 1) := by decide +kernel
theorem dX2_hangs_41 : decode cX2_hangs 41 = .ok (.getfield 10, 3) := by decide +kernel
theorem dX2_hangs_44 : decode cX2_hangs 44 = .ok (.iload_n 1, 1) := by decide +kernel
theorem dX2_hangs_45 : decode cX2_hangs 45 = .ok (.iload_n 2, 1) := by decide +kernel
theorem dX2_hangs_46 : decode cX2_hangs 46 = .ok (.invokevirtual 136, 3) := by decide +kernel
theorem dX2_hangs_49 : decode cX2_hangs 49 = .ok (.pop, 1) := by decide +kernel
theorem dX2_hangs_50 : decode cX2_hangs 50 = .ok (.iload_n 3, 1) := by decide +kernel
theorem dX2_hangs_51 : decode cX2_hangs 51 = .ok (.ireturn, 1) := by decide +kernel
set_option maxRecDepth 20000 in
theorem ggX2_loads_X0_isSide : GoodIn wsX2_loads wsX0_isSide := goodIn_r _ [5] (by decide +kernel) (by decide +kernel)
set_option maxRecDepth 20000 in
theorem gX2_loads_X0_isSide : GoodIn wsX2_loads (va_wsS RX2 109 yX0_isSide wsX0_isSide) := goodIn_app (goodIn_of _ (by decide +kernel)) ggX2_loads_X0_isSide
set_option maxRecDepth 20000 in
theorem ggX2_loads_X2_refuse : GoodIn wsX2_loads wsX2_refuse := goodIn_r _ [10, 11, 25, 26, 27, 28, 29, 30, 31, 32, 33, 34, 35, 36, 37, 38] (by decide +kernel) (by decide +kernel)
set_option maxRecDepth 20000 in
theorem gX2_loads_X2_refuse : GoodIn wsX2_loads (wsV RX2 63 RX2 yX2_refuse wsX2_refuse) := goodIn_app (goodIn_of _ (by decide +kernel)) ggX2_loads_X2_refuse
set_option maxRecDepth 20000 in
theorem ggX2_loads_X2_faultOf : GoodIn wsX2_loads wsX2_faultOf := goodIn_r _ [14] (by decide +kernel) (by decide +kernel)
set_option maxRecDepth 20000 in
theorem gX2_loads_X2_faultOf : GoodIn wsX2_loads (va_wsS RX2 140 yX2_faultOf wsX2_faultOf) := goodIn_app (goodIn_of _ (by decide +kernel)) ggX2_loads_X2_faultOf
set_option maxRecDepth 20000 in
theorem ggX2_loads_X0_ballastOf : GoodIn wsX2_loads wsX0_ballastOf := goodIn_r _ [18, 19, 20, 3, 4, 5, 39, 40, 41, 42, 43, 44, 45, 46, 47] (by decide +kernel) (by decide +kernel)
set_option maxRecDepth 20000 in
theorem gX2_loads_X0_ballastOf : GoodIn wsX2_loads (wsV RX2 118 RX0 yX0_ballastOf wsX0_ballastOf) := goodIn_app (goodIn_of _ (by decide +kernel)) ggX2_loads_X0_ballastOf
set_option maxRecDepth 20000 in
theorem ggX2_loads_X0_load : GoodIn wsX2_loads wsX0_load := goodIn_r _ [24, 19, 20, 3, 4, 5, 39, 40, 41, 42, 43, 44, 45, 46, 47] (by decide +kernel) (by decide +kernel)
set_option maxRecDepth 20000 in
theorem gX2_loads_X0_load : GoodIn wsX2_loads (wsV RX2 144 RX0 yX0_load wsX0_load) := goodIn_app (goodIn_of _ (by decide +kernel)) ggX2_loads_X0_load
theorem dX2_loads_0 : decode cX2_loads 0 = .ok (.iload_n 1, 1) := by decide +kernel
theorem dX2_loads_1 : decode cX2_loads 1 = .ok (.invokestatic 109, 3) := by decide +kernel
theorem dX2_loads_4 : decode cX2_loads 4 = .ok (.ifCond .ne 9, 3) := by decide +kernel
theorem dX2_loads_7 : decode cX2_loads 7 = .ok (.aload_n 0, 1) := by decide +kernel
theorem dX2_loads_8 : decode cX2_loads 8 = .ok (.iconst (-1), 1) := by decide +kernel
theorem dX2_loads_9 : decode cX2_loads 9 = .ok (.invokevirtual 63, 3) := by decide +kernel
theorem dX2_loads_12 : decode cX2_loads 12 = .ok (.ireturn, 1) := by decide +kernel
theorem dX2_loads_13 : decode cX2_loads 13 = .ok (.iload_n 2, 1) := by decide +kernel
theorem dX2_loads_14 : decode cX2_loads 14 = .ok (.iconst 0, 1) := by decide +kernel
theorem dX2_loads_15 : decode cX2_loads 15 = .ok (.bipush 50, 2) := by decide +kernel
theorem dX2_loads_17 : decode cX2_loads 17 = .ok (.invokestatic 140, 3) := by decide +kernel
theorem dX2_loads_20 : decode cX2_loads 20 = .ok (.istore_n 3, 1) := by decide +kernel
theorem dX2_loads_21 : decode cX2_loads 21 = .ok (.iload_n 3, 1) := by decide +kernel
theorem dX2_loads_22 : decode cX2_loads 22 = .ok (.ifCond .eq 9, 3) := by decide +kernel
theorem dX2_loads_25 : decode cX2_loads 25 = .ok (.aload_n 0, 1) := by decide +kernel
theorem dX2_loads_26 : decode cX2_loads 26 = .ok (.iload_n 3, 1) := by decide +kernel
theorem dX2_loads_27 : decode cX2_loads 27 = .ok (.invokevirtual 63, 3) := by decide +kernel
theorem dX2_loads_30 : decode cX2_loads 30 = .ok (.ireturn, 1) := by decide +kernel
theorem dX2_loads_31 : decode cX2_loads 31 = .ok (.aload_n 0, 1) := by decide +kernel
theorem dX2_loads_32 : decode cX2_loads 32 = .ok (.getfield 10, 3) := by decide +kernel
theorem dX2_loads_35 : decode cX2_loads 35 = .ok (.iload_n 1, 1) := by decide +kernel
theorem dX2_loads_36 : decode cX2_loads 36 = .ok (.invokevirtual 118, 3) := by decide +kernel
theorem dX2_loads_39 : decode cX2_loads 39 = .ok (.istore 4, 2) := by decide +kernel
theorem dX2_loads_41 : decode cX2_loads 41 = .ok (.aload_n 0, 1) := by decide +kernel
theorem dX2_loads_42 : decode cX2_loads 42 = .ok (.getfield 10, 3) := by decide +kernel
theorem dX2_loads_45 : decode cX2_loads 45 = .ok (.iload_n 1, 1) := by decide +kernel
theorem dX2_loads_46 : decode cX2_loads 46 = .ok (.iload_n 2, 1) := by decide +kernel
theorem dX2_loads_47 : decode cX2_loads 47 = .ok (.invokevirtual 144, 3) := by decide +kernel
theorem dX2_loads_50 : decode cX2_loads 50 = .ok (.pop, 1) := by decide +kernel
theorem dX2_loads_51 : decode cX2_loads 51 = .ok (.iload 4, 2) := by decide +kernel
theorem dX2_loads_53 : decode cX2_loads 53 = .ok (.ireturn, 1) := by decide +kernel
set_option maxRecDepth 20000 in
theorem ggX2_lifts_X0_isFloor : GoodIn wsX2_lifts wsX0_isFloor := goodIn_r _ [6] (by decide +kernel) (by decide +kernel)
set_option maxRecDepth 20000 in
theorem gX2_lifts_X0_isFloor : GoodIn wsX2_lifts (va_wsS RX2 147 yX0_isFloor wsX0_isFloor) := goodIn_app (goodIn_of _ (by decide +kernel)) ggX2_lifts_X0_isFloor
set_option maxRecDepth 20000 in
theorem ggX2_lifts_X2_refuse : GoodIn wsX2_lifts wsX2_refuse := goodIn_r _ [11, 12, 19, 20, 21, 22, 23, 24, 25, 26, 27, 28, 29, 30, 31, 32] (by decide +kernel) (by decide +kernel)
set_option maxRecDepth 20000 in
theorem gX2_lifts_X2_refuse : GoodIn wsX2_lifts (wsV RX2 63 RX2 yX2_refuse wsX2_refuse) := goodIn_app (goodIn_of _ (by decide +kernel)) ggX2_lifts_X2_refuse
set_option maxRecDepth 20000 in
theorem ggX2_lifts_X0_lift : GoodIn wsX2_lifts wsX0_lift := goodIn_r _ [16, 17, 18, 4, 5, 6, 33, 34, 35, 36, 37, 38, 39, 40, 41] (by decide +kernel) (by decide +kernel)
set_option maxRecDepth 20000 in
theorem gX2_lifts_X0_lift : GoodIn wsX2_lifts (wsV RX2 150 RX0 yX0_lift wsX0_lift) := goodIn_app (goodIn_of _ (by decide +kernel)) ggX2_lifts_X0_lift
theorem dX2_lifts_0 : decode cX2_lifts 0 = .ok (.iload_n 1, 1) := by decide +kernel
theorem dX2_lifts_1 : decode cX2_lifts 1 = .ok (.invokestatic 147, 3) := by decide +kernel
theorem dX2_lifts_4 : decode cX2_lifts 4 = .ok (.ifCond .ne 9, 3) := by decide +kernel
theorem dX2_lifts_7 : decode cX2_lifts 7 = .ok (.aload_n 0, 1) := by decide +kernel
theorem dX2_lifts_8 : decode cX2_lifts 8 = .ok (.iconst (-1), 1) := by decide +kernel
theorem dX2_lifts_9 : decode cX2_lifts 9 = .ok (.invokevirtual 63, 3) := by decide +kernel
theorem dX2_lifts_12 : decode cX2_lifts 12 = .ok (.ireturn, 1) := by decide +kernel
theorem dX2_lifts_13 : decode cX2_lifts 13 = .ok (.aload_n 0, 1) := by decide +kernel
theorem dX2_lifts_14 : decode cX2_lifts 14 = .ok (.getfield 10, 3) := by decide +kernel
theorem dX2_lifts_17 : decode cX2_lifts 17 = .ok (.getfield 112, 3) := by decide +kernel
theorem dX2_lifts_20 : decode cX2_lifts 20 = .ok (.istore_n 2, 1) := by decide +kernel
theorem dX2_lifts_21 : decode cX2_lifts 21 = .ok (.aload_n 0, 1) := by decide +kernel
theorem dX2_lifts_22 : decode cX2_lifts 22 = .ok (.getfield 10, 3) := by decide +kernel
theorem dX2_lifts_25 : decode cX2_lifts 25 = .ok (.iload_n 1, 1) := by decide +kernel
theorem dX2_lifts_26 : decode cX2_lifts 26 = .ok (.invokevirtual 150, 3) := by decide +kernel
theorem dX2_lifts_29 : decode cX2_lifts 29 = .ok (.pop, 1) := by decide +kernel
theorem dX2_lifts_30 : decode cX2_lifts 30 = .ok (.iload_n 2, 1) := by decide +kernel
theorem dX2_lifts_31 : decode cX2_lifts 31 = .ok (.ireturn, 1) := by decide +kernel
set_option maxRecDepth 20000 in
theorem ggX2_doors_X0_isFloor : GoodIn wsX2_doors wsX0_isFloor := goodIn_r _ [5] (by decide +kernel) (by decide +kernel)
set_option maxRecDepth 20000 in
theorem gX2_doors_X0_isFloor : GoodIn wsX2_doors (va_wsS RX2 147 yX0_isFloor wsX0_isFloor) := goodIn_app (goodIn_of _ (by decide +kernel)) ggX2_doors_X0_isFloor
set_option maxRecDepth 20000 in
theorem ggX2_doors_X2_refuse : GoodIn wsX2_doors wsX2_refuse := goodIn_r _ [10, 11, 22, 23, 24, 25, 26, 27, 28, 29, 30, 31, 32, 33, 34, 35] (by decide +kernel) (by decide +kernel)
set_option maxRecDepth 20000 in
theorem gX2_doors_X2_refuse : GoodIn wsX2_doors (wsV RX2 63 RX2 yX2_refuse wsX2_refuse) := goodIn_app (goodIn_of _ (by decide +kernel)) ggX2_doors_X2_refuse
set_option maxRecDepth 20000 in
theorem ggX2_doors_X0_switchDoor : GoodIn wsX2_doors wsX0_switchDoor := goodIn_r _ [15, 16, 17, 3, 4, 5, 36, 37, 38, 39, 40, 41, 42, 43, 44] (by decide +kernel) (by decide +kernel)
set_option maxRecDepth 20000 in
theorem gX2_doors_X0_switchDoor : GoodIn wsX2_doors (wsV RX2 153 RX0 yX0_switchDoor wsX0_switchDoor) := goodIn_app (goodIn_of _ (by decide +kernel)) ggX2_doors_X0_switchDoor
set_option maxRecDepth 20000 in
theorem ggX2_doors_X0_isDoor : GoodIn wsX2_doors wsX0_isDoor := goodIn_r _ [21, 16, 17, 3, 4, 5, 36, 37, 38, 39, 40, 41, 42, 43, 44] (by decide +kernel) (by decide +kernel)
set_option maxRecDepth 20000 in
theorem gX2_doors_X0_isDoor : GoodIn wsX2_doors (wsV RX2 156 RX0 yX0_isDoor wsX0_isDoor) := goodIn_app (goodIn_of _ (by decide +kernel)) ggX2_doors_X0_isDoor
theorem dX2_doors_0 : decode cX2_doors 0 = .ok (.iload_n 1, 1) := by decide +kernel
theorem dX2_doors_1 : decode cX2_doors 1 = .ok (.invokestatic 147, 3) := by decide +kernel
theorem dX2_doors_4 : decode cX2_doors 4 = .ok (.ifCond .ne 9, 3) := by decide +kernel
theorem dX2_doors_7 : decode cX2_doors 7 = .ok (.aload_n 0, 1) := by decide +kernel
theorem dX2_doors_8 : decode cX2_doors 8 = .ok (.iconst (-1), 1) := by decide +kernel
theorem dX2_doors_9 : decode cX2_doors 9 = .ok (.invokevirtual 63, 3) := by decide +kernel
theorem dX2_doors_12 : decode cX2_doors 12 = .ok (.ireturn, 1) := by decide +kernel
theorem dX2_doors_13 : decode cX2_doors 13 = .ok (.aload_n 0, 1) := by decide +kernel
theorem dX2_doors_14 : decode cX2_doors 14 = .ok (.getfield 10, 3) := by decide +kernel
theorem dX2_doors_17 : decode cX2_doors 17 = .ok (.iload_n 1, 1) := by decide +kernel
theorem dX2_doors_18 : decode cX2_doors 18 = .ok (.invokevirtual 153, 3) := by decide +kernel
theorem dX2_doors_21 : decode cX2_doors 21 = .ok (.pop, 1) := by decide +kernel
theorem dX2_doors_22 : decode cX2_doors 22 = .ok (.aload_n 0, 1) := by decide +kernel
theorem dX2_doors_23 : decode cX2_doors 23 = .ok (.getfield 10, 3) := by decide +kernel
theorem dX2_doors_26 : decode cX2_doors 26 = .ok (.iload_n 1, 1) := by decide +kernel
theorem dX2_doors_27 : decode cX2_doors 27 = .ok (.invokevirtual 156, 3) := by decide +kernel
theorem dX2_doors_30 : decode cX2_doors 30 = .ok (.ifCond .eq 7, 3) := by decide +kernel
theorem dX2_doors_33 : decode cX2_doors 33 = .ok (.iconst 1, 1) := by decide +kernel
theorem dX2_doors_34 : decode cX2_doors 34 = .ok (.goto 4, 3) := by decide +kernel
theorem dX2_doors_37 : decode cX2_doors 37 = .ok (.iconst 0, 1) := by decide +kernel
theorem dX2_doors_38 : decode cX2_doors 38 = .ok (.ireturn, 1) := by decide +kernel
set_option maxRecDepth 20000 in
theorem ggX2_turn_X0_has : GoodIn wsX2_turn wsX0_has := goodIn_r _ [6, 7, 49, 50, 51, 52, 53, 54, 55, 56, 57] (by decide +kernel) (by decide +kernel)
set_option maxRecDepth 20000 in
theorem gX2_turn_X0_has : GoodIn wsX2_turn (wsV RX2 89 RX0 yX0_has wsX0_has) := goodIn_app (goodIn_of _ (by decide +kernel)) ggX2_turn_X0_has
set_option maxRecDepth 20000 in
theorem ggX2_turn_X2_refuse : GoodIn wsX2_turn wsX2_refuse := goodIn_r _ [12, 13, 35, 36, 37, 38, 39, 40, 41, 42, 43, 44, 45, 46, 47, 48] (by decide +kernel) (by decide +kernel)
set_option maxRecDepth 20000 in
theorem gX2_turn_X2_refuse : GoodIn wsX2_turn (wsV RX2 63 RX2 yX2_refuse wsX2_refuse) := goodIn_app (goodIn_of _ (by decide +kernel)) ggX2_turn_X2_refuse
set_option maxRecDepth 20000 in
theorem ggX2_turn_X0_isKind : GoodIn wsX2_turn wsX0_isKind := goodIn_r _ [16] (by decide +kernel) (by decide +kernel)
set_option maxRecDepth 20000 in
theorem gX2_turn_X0_isKind : GoodIn wsX2_turn (va_wsS RX2 159 yX0_isKind wsX0_isKind) := goodIn_app (goodIn_of _ (by decide +kernel)) ggX2_turn_X0_isKind
set_option maxRecDepth 20000 in
theorem ggX2_turn_X2_faultOf : GoodIn wsX2_turn wsX2_faultOf := goodIn_r _ [19] (by decide +kernel) (by decide +kernel)
set_option maxRecDepth 20000 in
theorem gX2_turn_X2_faultOf : GoodIn wsX2_turn (va_wsS RX2 140 yX2_faultOf wsX2_faultOf) := goodIn_app (goodIn_of _ (by decide +kernel)) ggX2_turn_X2_faultOf
set_option maxRecDepth 20000 in
theorem ggX2_turn_X0_kindOf : GoodIn wsX2_turn wsX0_kindOf := goodIn_r _ [23, 24, 25, 3, 4, 5, 6, 7, 49, 50, 51, 52, 53, 54, 55, 56, 57] (by decide +kernel) (by decide +kernel)
set_option maxRecDepth 20000 in
theorem gX2_turn_X0_kindOf : GoodIn wsX2_turn (wsV RX2 93 RX0 yX0_kindOf wsX0_kindOf) := goodIn_app (goodIn_of _ (by decide +kernel)) ggX2_turn_X0_kindOf
set_option maxRecDepth 20000 in
theorem ggX2_turn_X0_figureOf : GoodIn wsX2_turn wsX0_figureOf := goodIn_r _ [29, 30, 25, 3, 4, 5, 6, 7, 49, 50, 51, 52, 53, 54, 55, 56, 57] (by decide +kernel) (by decide +kernel)
set_option maxRecDepth 20000 in
theorem gX2_turn_X0_figureOf : GoodIn wsX2_turn (wsV RX2 96 RX0 yX0_figureOf wsX0_figureOf) := goodIn_app (goodIn_of _ (by decide +kernel)) ggX2_turn_X0_figureOf
set_option maxRecDepth 20000 in
theorem ggX2_turn_X0_become : GoodIn wsX2_turn wsX0_become := goodIn_r _ [34, 24, 30, 25, 3, 4, 5, 6, 7, 49, 50, 51, 52, 53, 54, 55, 56, 57] (by decide +kernel) (by decide +kernel)
set_option maxRecDepth 20000 in
theorem gX2_turn_X0_become : GoodIn wsX2_turn (wsV RX2 162 RX0 yX0_become wsX0_become) := goodIn_app (goodIn_of _ (by decide +kernel)) ggX2_turn_X0_become
theorem dX2_turn_0 : decode cX2_turn 0 = .ok (.aload_n 0, 1) := by decide +kernel
theorem dX2_turn_1 : decode cX2_turn 1 = .ok (.getfield 10, 3) := by decide +kernel
theorem dX2_turn_4 : decode cX2_turn 4 = .ok (.iload_n 1, 1) := by decide +kernel
theorem dX2_turn_5 : decode cX2_turn 5 = .ok (.invokevirtual 89, 3) := by decide +kernel
theorem dX2_turn_8 : decode cX2_turn 8 = .ok (.ifCond .ne 9, 3) := by decide +kernel
theorem dX2_turn_11 : decode cX2_turn 11 = .ok (.aload_n 0, 1) := by decide +kernel
theorem dX2_turn_12 : decode cX2_turn 12 = .ok (.iconst (-1), 1) := by decide +kernel
theorem dX2_turn_13 : decode cX2_turn 13 = .ok (.invokevirtual 63, 3) := by decide +kernel
theorem dX2_turn_16 : decode cX2_turn 16 = .ok (.ireturn, 1) := by decide +kernel
theorem dX2_turn_17 : decode cX2_turn 17 = .ok (.iload_n 2, 1) := by decide +kernel
theorem dX2_turn_18 : decode cX2_turn 18 = .ok (.invokestatic 159, 3) := by decide +kernel
theorem dX2_turn_21 : decode cX2_turn 21 = .ok (.ifCond .ne 10, 3) := by decide +kernel
theorem dX2_turn_24 : decode cX2_turn 24 = .ok (.aload_n 0, 1) := by decide +kernel
theorem dX2_turn_25 : decode cX2_turn 25 = .ok (.bipush (-2), 2) := by decide +kernel
theorem dX2_turn_27 : decode cX2_turn 27 = .ok (.invokevirtual 63, 3) := by decide +kernel
theorem dX2_turn_30 : decode cX2_turn 30 = .ok (.ireturn, 1) := by decide +kernel
theorem dX2_turn_31 : decode cX2_turn 31 = .ok (.iload_n 3, 1) := by decide +kernel
theorem dX2_turn_32 : decode cX2_turn 32 = .ok (.iconst 0, 1) := by decide +kernel
theorem dX2_turn_33 : decode cX2_turn 33 = .ok (.bipush 9, 2) := by decide +kernel
theorem dX2_turn_35 : decode cX2_turn 35 = .ok (.invokestatic 140, 3) := by decide +kernel
theorem dX2_turn_38 : decode cX2_turn 38 = .ok (.istore 4, 2) := by decide +kernel
theorem dX2_turn_40 : decode cX2_turn 40 = .ok (.iload 4, 2) := by decide +kernel
theorem dX2_turn_42 : decode cX2_turn 42 = .ok (.ifCond .eq 10, 3) := by decide +kernel
theorem dX2_turn_45 : decode cX2_turn 45 = .ok (.aload_n 0, 1) := by decide +kernel
theorem dX2_turn_46 : decode cX2_turn 46 = .ok (.iload 4, 2) := by decide +kernel
theorem dX2_turn_48 : decode cX2_turn 48 = .ok (.invokevirtual 63, 3) := by decide +kernel
theorem dX2_turn_51 : decode cX2_turn 51 = .ok (.ireturn, 1) := by decide +kernel
theorem dX2_turn_52 : decode cX2_turn 52 = .ok (.bipush 10, 2) := by decide +kernel
theorem dX2_turn_54 : decode cX2_turn 54 = .ok (.aload_n 0, 1) := by decide +kernel
theorem dX2_turn_55 : decode cX2_turn 55 = .ok (.getfield 10, 3) := by decide +kernel
theorem dX2_turn_58 : decode cX2_turn 58 = .ok (.iload_n 1, 1) := by decide +kernel
theorem dX2_turn_59 : decode cX2_turn 59 = .ok (.invokevirtual 93, 3) := by decide +kernel
theorem dX2_turn_62 : decode cX2_turn 62 = .ok (.imul, 1) := by decide +kernel
theorem dX2_turn_63 : decode cX2_turn 63 = .ok (.aload_n 0, 1) := by decide +kernel
theorem dX2_turn_64 : decode cX2_turn 64 = .ok (.getfield 10, 3) := by decide +kernel
theorem dX2_turn_67 : decode cX2_turn 67 = .ok (.iload_n 1, 1) := by decide +kernel
theorem dX2_turn_68 : decode cX2_turn 68 = .ok (.invokevirtual 96, 3) := by decide +kernel
theorem dX2_turn_71 : decode cX2_turn 71 = .ok (.iadd, 1) := by decide +kernel
theorem dX2_turn_72 : decode cX2_turn 72 = .ok (.istore 5, 2) := by decide +kernel
theorem dX2_turn_74 : decode cX2_turn 74 = .ok (.aload_n 0, 1) := by decide +kernel
theorem dX2_turn_75 : decode cX2_turn 75 = .ok (.getfield 10, 3) := by decide +kernel
theorem dX2_turn_78 : decode cX2_turn 78 = .ok (.iload_n 1, 1) := by decide +kernel
theorem dX2_turn_79 : decode cX2_turn 79 = .ok (.iload_n 2, 1) := by decide +kernel
theorem dX2_turn_80 : decode cX2_turn 80 = .ok (.iload_n 3, 1) := by decide +kernel
theorem dX2_turn_81 : decode cX2_turn 81 = .ok (.invokevirtual 162, 3) := by decide +kernel
theorem dX2_turn_84 : decode cX2_turn 84 = .ok (.iload 5, 2) := by decide +kernel
theorem dX2_turn_86 : decode cX2_turn 86 = .ok (.ireturn, 1) := by decide +kernel
set_option maxRecDepth 20000 in
theorem ggX2_days_X2_faultOf : GoodIn wsX2_days wsX2_faultOf := goodIn_r _ [6] (by decide +kernel) (by decide +kernel)
set_option maxRecDepth 20000 in
theorem gX2_days_X2_faultOf : GoodIn wsX2_days (va_wsS RX2 140 yX2_faultOf wsX2_faultOf) := goodIn_app (goodIn_of _ (by decide +kernel)) ggX2_days_X2_faultOf
set_option maxRecDepth 20000 in
theorem ggX2_days_X2_refuse : GoodIn wsX2_days wsX2_refuse := goodIn_r _ [10, 11, 58, 59, 60, 61, 62, 63, 64, 65, 66, 67, 68, 69, 70, 71] (by decide +kernel) (by decide +kernel)
set_option maxRecDepth 20000 in
theorem gX2_days_X2_refuse : GoodIn wsX2_days (wsV RX2 63 RX2 yX2_refuse wsX2_refuse) := goodIn_app (goodIn_of _ (by decide +kernel)) ggX2_days_X2_refuse
set_option maxRecDepth 20000 in
theorem ggX2_days_X0_hasDays : GoodIn wsX2_days wsX0_hasDays := goodIn_r _ [16, 17, 72, 73, 74, 75, 76, 77, 78, 79, 80] (by decide +kernel) (by decide +kernel)
set_option maxRecDepth 20000 in
theorem gX2_days_X0_hasDays : GoodIn wsX2_days (wsV RX2 166 RX0 yX0_hasDays wsX0_hasDays) := goodIn_app (goodIn_of _ (by decide +kernel)) ggX2_days_X0_hasDays
set_option maxRecDepth 20000 in
theorem ggX2_days_X0_pass : GoodIn wsX2_days wsX0_pass := goodIn_r _ [21, 17, 22, 23, 13, 14, 15, 16, 24, 25, 26, 27, 28, 29, 30, 31, 32, 33, 34, 35, 36, 37, 38, 39, 40, 41, 42, 43, 44, 45, 46, 47, 48, 49, 50, 51, 52, 53, 54, 55, 56, 57, 72, 73, 74, 75, 76, 77, 78, 79, 80] (by decide +kernel) (by decide +kernel)
set_option maxRecDepth 20000 in
theorem gX2_days_X0_pass : GoodIn wsX2_days (wsV RX2 169 RX0 yX0_pass wsX0_pass) := goodIn_app (goodIn_of _ (by decide +kernel)) ggX2_days_X0_pass
theorem dX2_days_0 : decode cX2_days 0 = .ok (.iload_n 1, 1) := by decide +kernel
theorem dX2_days_1 : decode cX2_days 1 = .ok (.iconst 1, 1) := by decide +kernel
theorem dX2_days_2 : decode cX2_days 2 = .ok (.bipush 60, 2) := by decide +kernel
theorem dX2_days_4 : decode cX2_days 4 = .ok (.invokestatic 140, 3) := by decide +kernel
theorem dX2_days_7 : decode cX2_days 7 = .ok (.istore_n 2, 1) := by decide +kernel
theorem dX2_days_8 : decode cX2_days 8 = .ok (.iload_n 2, 1) := by decide +kernel
theorem dX2_days_9 : decode cX2_days 9 = .ok (.ifCond .eq 9, 3) := by decide +kernel
theorem dX2_days_12 : decode cX2_days 12 = .ok (.aload_n 0, 1) := by decide +kernel
theorem dX2_days_13 : decode cX2_days 13 = .ok (.iload_n 2, 1) := by decide +kernel
theorem dX2_days_14 : decode cX2_days 14 = .ok (.invokevirtual 63, 3) := by decide +kernel
theorem dX2_days_17 : decode cX2_days 17 = .ok (.ireturn, 1) := by decide +kernel
theorem dX2_days_18 : decode cX2_days 18 = .ok (.aload_n 0, 1) := by decide +kernel
theorem dX2_days_19 : decode cX2_days 19 = .ok (.getfield 10, 3) := by decide +kernel
theorem dX2_days_22 : decode cX2_days 22 = .ok (.iload_n 1, 1) := by decide +kernel
theorem dX2_days_23 : decode cX2_days 23 = .ok (.invokevirtual 166, 3) := by decide +kernel
theorem dX2_days_26 : decode cX2_days 26 = .ok (.ifCond .ne 10, 3) := by decide +kernel
theorem dX2_days_29 : decode cX2_days 29 = .ok (.aload_n 0, 1) := by decide +kernel
theorem dX2_days_30 : decode cX2_days 30 = .ok (.bipush (-6), 2) := by decide +kernel
theorem dX2_days_32 : decode cX2_days 32 = .ok (.invokevirtual 63, 3) := by decide +kernel
theorem dX2_days_35 : decode cX2_days 35 = .ok (.ireturn, 1) := by decide +kernel
theorem dX2_days_36 : decode cX2_days 36 = .ok (.aload_n 0, 1) := by decide +kernel
theorem dX2_days_37 : decode cX2_days 37 = .ok (.getfield 10, 3) := by decide +kernel
theorem dX2_days_40 : decode cX2_days 40 = .ok (.iload_n 1, 1) := by decide +kernel
theorem dX2_days_41 : decode cX2_days 41 = .ok (.invokevirtual 169, 3) := by decide +kernel
theorem dX2_days_44 : decode cX2_days 44 = .ok (.pop, 1) := by decide +kernel
theorem dX2_days_45 : decode cX2_days 45 = .ok (.aload_n 0, 1) := by decide +kernel
theorem dX2_days_46 : decode cX2_days 46 = .ok (.getfield 10, 3) := by decide +kernel
theorem dX2_days_49 : decode cX2_days 49 = .ok (.getfield 112, 3) := by decide +kernel
theorem dX2_days_52 : decode cX2_days 52 = .ok (.ireturn, 1) := by decide +kernel
set_option maxRecDepth 20000 in
theorem ggX2_floorThen_X0_isSide : GoodIn wsX2_floorThen wsX0_isSide := goodIn_r _ [5] (by decide +kernel) (by decide +kernel)
set_option maxRecDepth 20000 in
theorem gX2_floorThen_X0_isSide : GoodIn wsX2_floorThen (va_wsS RX2 109 yX0_isSide wsX0_isSide) := goodIn_app (goodIn_of _ (by decide +kernel)) ggX2_floorThen_X0_isSide
set_option maxRecDepth 20000 in
theorem ggX2_floorThen_X2_refuse : GoodIn wsX2_floorThen wsX2_refuse := goodIn_r _ [10, 11, 58, 59, 60, 61, 62, 63, 64, 65, 66, 67, 68, 69, 70, 71] (by decide +kernel) (by decide +kernel)
set_option maxRecDepth 20000 in
theorem gX2_floorThen_X2_refuse : GoodIn wsX2_floorThen (wsV RX2 63 RX2 yX2_refuse wsX2_refuse) := goodIn_app (goodIn_of _ (by decide +kernel)) ggX2_floorThen_X2_refuse
set_option maxRecDepth 20000 in
theorem ggX2_floorThen_X2_faultOf : GoodIn wsX2_floorThen wsX2_faultOf := goodIn_r _ [14] (by decide +kernel) (by decide +kernel)
set_option maxRecDepth 20000 in
theorem gX2_floorThen_X2_faultOf : GoodIn wsX2_floorThen (va_wsS RX2 140 yX2_faultOf wsX2_faultOf) := goodIn_app (goodIn_of _ (by decide +kernel)) ggX2_floorThen_X2_faultOf
set_option maxRecDepth 20000 in
theorem ggX2_floorThen_X0_floorAfter : GoodIn wsX2_floorThen wsX0_floorAfter := goodIn_r _ [18, 19, 20, 21, 22, 4, 23, 24, 25, 26, 27, 28, 29, 30, 31, 32, 33, 34, 35, 36, 37, 38, 39, 40, 41, 42, 43, 44, 45, 46, 47, 48, 49, 50, 51, 52, 53, 54, 72, 73, 74, 75, 76, 77, 78, 79, 80] (by decide +kernel) (by decide +kernel)
set_option maxRecDepth 20000 in
theorem gX2_floorThen_X0_floorAfter : GoodIn wsX2_floorThen (wsV RX2 172 RX0 yX0_floorAfter wsX0_floorAfter) := goodIn_app (goodIn_of _ (by decide +kernel)) ggX2_floorThen_X0_floorAfter
set_option maxRecDepth 20000 in
theorem ggX2_floorThen_X0_heightOf : GoodIn wsX2_floorThen wsX0_heightOf := goodIn_r _ [57] (by decide +kernel) (by decide +kernel)
set_option maxRecDepth 20000 in
theorem gX2_floorThen_X0_heightOf : GoodIn wsX2_floorThen (va_wsS RX2 115 yX0_heightOf wsX0_heightOf) := goodIn_app (goodIn_of _ (by decide +kernel)) ggX2_floorThen_X0_heightOf
theorem dX2_floorThen_0 : decode cX2_floorThen 0 = .ok (.iload_n 1, 1) := by decide +kernel
theorem dX2_floorThen_1 : decode cX2_floorThen 1 = .ok (.invokestatic 109, 3) := by decide +kernel
theorem dX2_floorThen_4 : decode cX2_floorThen 4 = .ok (.ifCond .ne 9, 3) := by decide +kernel
theorem dX2_floorThen_7 : decode cX2_floorThen 7 = .ok (.aload_n 0, 1) := by decide +kernel
theorem dX2_floorThen_8 : decode cX2_floorThen 8 = .ok (.iconst (-1), 1) := by decide +kernel
theorem dX2_floorThen_9 : decode cX2_floorThen 9 = .ok (.invokevirtual 63, 3) := by decide +kernel
theorem dX2_floorThen_12 : decode cX2_floorThen 12 = .ok (.ireturn, 1) := by decide +kernel
theorem dX2_floorThen_13 : decode cX2_floorThen 13 = .ok (.iload_n 2, 1) := by decide +kernel
theorem dX2_floorThen_14 : decode cX2_floorThen 14 = .ok (.iconst 0, 1) := by decide +kernel
theorem dX2_floorThen_15 : decode cX2_floorThen 15 = .ok (.bipush 60, 2) := by decide +kernel
theorem dX2_floorThen_17 : decode cX2_floorThen 17 = .ok (.invokestatic 140, 3) := by decide +kernel
theorem dX2_floorThen_20 : decode cX2_floorThen 20 = .ok (.istore_n 3, 1) := by decide +kernel
theorem dX2_floorThen_21 : decode cX2_floorThen 21 = .ok (.iload_n 3, 1) := by decide +kernel
theorem dX2_floorThen_22 : decode cX2_floorThen 22 = .ok (.ifCond .eq 9, 3) := by decide +kernel
theorem dX2_floorThen_25 : decode cX2_floorThen 25 = .ok (.aload_n 0, 1) := by decide +kernel
theorem dX2_floorThen_26 : decode cX2_floorThen 26 = .ok (.iload_n 3, 1) := by decide +kernel
theorem dX2_floorThen_27 : decode cX2_floorThen 27 = .ok (.invokevirtual 63, 3) := by decide +kernel
theorem dX2_floorThen_30 : decode cX2_floorThen 30 = .ok (.ireturn, 1) := by decide +kernel
theorem dX2_floorThen_31 : decode cX2_floorThen 31 = .ok (.iload_n 1, 1) := by decide +kernel
theorem dX2_floorThen_32 : decode cX2_floorThen 32 = .ok (.aload_n 0, 1) := by decide +kernel
theorem dX2_floorThen_33 : decode cX2_floorThen 33 = .ok (.getfield 10, 3) := by decide +kernel
theorem dX2_floorThen_36 : decode cX2_floorThen 36 = .ok (.iload_n 2, 1) := by decide +kernel
theorem dX2_floorThen_37 : decode cX2_floorThen 37 = .ok (.invokevirtual 172, 3) := by decide +kernel
theorem dX2_floorThen_40 : decode cX2_floorThen 40 = .ok (.invokestatic 115, 3) := by decide +kernel
theorem dX2_floorThen_43 : decode cX2_floorThen 43 = .ok (.ireturn, 1) := by decide +kernel
set_option maxRecDepth 20000 in
theorem ggX2_weighsThen_X0_has : GoodIn wsX2_weighsThen wsX0_has := goodIn_r _ [6, 7, 47, 48, 49, 50, 51, 52, 53, 54, 55] (by decide +kernel) (by decide +kernel)
set_option maxRecDepth 20000 in
theorem gX2_weighsThen_X0_has : GoodIn wsX2_weighsThen (wsV RX2 89 RX0 yX0_has wsX0_has) := goodIn_app (goodIn_of _ (by decide +kernel)) ggX2_weighsThen_X0_has
set_option maxRecDepth 20000 in
theorem ggX2_weighsThen_X2_refuse : GoodIn wsX2_weighsThen wsX2_refuse := goodIn_r _ [12, 13, 33, 34, 35, 36, 37, 38, 39, 40, 41, 42, 43, 44, 45, 46] (by decide +kernel) (by decide +kernel)
set_option maxRecDepth 20000 in
theorem gX2_weighsThen_X2_refuse : GoodIn wsX2_weighsThen (wsV RX2 63 RX2 yX2_refuse wsX2_refuse) := goodIn_app (goodIn_of _ (by decide +kernel)) ggX2_weighsThen_X2_refuse
set_option maxRecDepth 20000 in
theorem ggX2_weighsThen_X2_faultOf : GoodIn wsX2_weighsThen wsX2_faultOf := goodIn_r _ [16] (by decide +kernel) (by decide +kernel)
set_option maxRecDepth 20000 in
theorem gX2_weighsThen_X2_faultOf : GoodIn wsX2_weighsThen (va_wsS RX2 140 yX2_faultOf wsX2_faultOf) := goodIn_app (goodIn_of _ (by decide +kernel)) ggX2_weighsThen_X2_faultOf
set_option maxRecDepth 20000 in
theorem ggX2_weighsThen_X0_weighs : GoodIn wsX2_weighsThen wsX0_weighs := goodIn_r _ [20, 21, 22, 23, 24, 25, 26, 27, 28, 29, 30, 31, 32, 3, 4, 5, 6, 7, 47, 48, 49, 50, 51, 52, 53, 54, 55] (by decide +kernel) (by decide +kernel)
set_option maxRecDepth 20000 in
theorem gX2_weighsThen_X0_weighs : GoodIn wsX2_weighsThen (wsV RX2 105 RX0 yX0_weighs wsX0_weighs) := goodIn_app (goodIn_of _ (by decide +kernel)) ggX2_weighsThen_X0_weighs
theorem dX2_weighsThen_0 : decode cX2_weighsThen 0 = .ok (.aload_n 0, 1) := by decide +kernel
theorem dX2_weighsThen_1 : decode cX2_weighsThen 1 = .ok (.getfield 10, 3) := by decide +kernel
theorem dX2_weighsThen_4 : decode cX2_weighsThen 4 = .ok (.iload_n 1, 1) := by decide +kernel
theorem dX2_weighsThen_5 : decode cX2_weighsThen 5 = .ok (.invokevirtual 89, 3) := by decide +kernel
theorem dX2_weighsThen_8 : decode cX2_weighsThen 8 = .ok (.ifCond .ne 9, 3) := by decide +kernel
theorem dX2_weighsThen_11 : decode cX2_weighsThen 11 = .ok (.aload_n 0, 1) := by decide +kernel
theorem dX2_weighsThen_12 : decode cX2_weighsThen 12 = .ok (.iconst (-1), 1) := by decide +kernel
theorem dX2_weighsThen_13 : decode cX2_weighsThen 13 = .ok (.invokevirtual 63, 3) := by decide +kernel
theorem dX2_weighsThen_16 : decode cX2_weighsThen 16 = .ok (.ireturn, 1) := by decide +kernel
theorem dX2_weighsThen_17 : decode cX2_weighsThen 17 = .ok (.iload_n 2, 1) := by decide +kernel
theorem dX2_weighsThen_18 : decode cX2_weighsThen 18 = .ok (.iconst 0, 1) := by decide +kernel
theorem dX2_weighsThen_19 : decode cX2_weighsThen 19 = .ok (.bipush 60, 2) := by decide +kernel
theorem dX2_weighsThen_21 : decode cX2_weighsThen 21 = .ok (.invokestatic 140, 3) := by decide +kernel
theorem dX2_weighsThen_24 : decode cX2_weighsThen 24 = .ok (.istore_n 3, 1) := by decide +kernel
theorem dX2_weighsThen_25 : decode cX2_weighsThen 25 = .ok (.iload_n 3, 1) := by decide +kernel
theorem dX2_weighsThen_26 : decode cX2_weighsThen 26 = .ok (.ifCond .eq 9, 3) := by decide +kernel
theorem dX2_weighsThen_29 : decode cX2_weighsThen 29 = .ok (.aload_n 0, 1) := by decide +kernel
theorem dX2_weighsThen_30 : decode cX2_weighsThen 30 = .ok (.iload_n 3, 1) := by decide +kernel
theorem dX2_weighsThen_31 : decode cX2_weighsThen 31 = .ok (.invokevirtual 63, 3) := by decide +kernel
theorem dX2_weighsThen_34 : decode cX2_weighsThen 34 = .ok (.ireturn, 1) := by decide +kernel
theorem dX2_weighsThen_35 : decode cX2_weighsThen 35 = .ok (.aload_n 0, 1) := by decide +kernel
theorem dX2_weighsThen_36 : decode cX2_weighsThen 36 = .ok (.getfield 10, 3) := by decide +kernel
theorem dX2_weighsThen_39 : decode cX2_weighsThen 39 = .ok (.iload_n 1, 1) := by decide +kernel
theorem dX2_weighsThen_40 : decode cX2_weighsThen 40 = .ok (.iload_n 2, 1) := by decide +kernel
theorem dX2_weighsThen_41 : decode cX2_weighsThen 41 = .ok (.invokevirtual 105, 3) := by decide +kernel
theorem dX2_weighsThen_44 : decode cX2_weighsThen 44 = .ok (.ireturn, 1) := by decide +kernel
set_option maxRecDepth 20000 in
theorem ggX2_pull_X2_faultOf : GoodIn wsX2_pull wsX2_faultOf := goodIn_r _ [6] (by decide +kernel) (by decide +kernel)
set_option maxRecDepth 20000 in
theorem gX2_pull_X2_faultOf : GoodIn wsX2_pull (va_wsS RX2 140 yX2_faultOf wsX2_faultOf) := goodIn_app (goodIn_of _ (by decide +kernel)) ggX2_pull_X2_faultOf
set_option maxRecDepth 20000 in
theorem ggX2_pull_X2_refuse : GoodIn wsX2_pull wsX2_refuse := goodIn_r _ [10, 11, 39, 40, 41, 42, 43, 44, 45, 46, 47, 48, 49, 50, 51, 52] (by decide +kernel) (by decide +kernel)
set_option maxRecDepth 20000 in
theorem gX2_pull_X2_refuse : GoodIn wsX2_pull (wsV RX2 63 RX2 yX2_refuse wsX2_refuse) := goodIn_app (goodIn_of _ (by decide +kernel)) ggX2_pull_X2_refuse
set_option maxRecDepth 20000 in
theorem ggX2_pull_X0_pullAfter : GoodIn wsX2_pull wsX0_pullAfter := goodIn_r _ [16, 17, 18, 19, 20, 21, 22, 15, 23, 24, 25, 26, 27, 28, 29, 30, 31, 32, 33, 34, 35, 36, 37, 38, 53, 54, 55, 56, 57, 58, 59, 60, 61] (by decide +kernel) (by decide +kernel)
set_option maxRecDepth 20000 in
theorem gX2_pull_X0_pullAfter : GoodIn wsX2_pull (wsV RX2 176 RX0 yX0_pullAfter wsX0_pullAfter) := goodIn_app (goodIn_of _ (by decide +kernel)) ggX2_pull_X0_pullAfter
theorem dX2_pull_0 : decode cX2_pull 0 = .ok (.iload_n 1, 1) := by decide +kernel
theorem dX2_pull_1 : decode cX2_pull 1 = .ok (.iconst 0, 1) := by decide +kernel
theorem dX2_pull_2 : decode cX2_pull 2 = .ok (.bipush 60, 2) := by decide +kernel
theorem dX2_pull_4 : decode cX2_pull 4 = .ok (.invokestatic 140, 3) := by decide +kernel
theorem dX2_pull_7 : decode cX2_pull 7 = .ok (.istore_n 2, 1) := by decide +kernel
theorem dX2_pull_8 : decode cX2_pull 8 = .ok (.iload_n 2, 1) := by decide +kernel
theorem dX2_pull_9 : decode cX2_pull 9 = .ok (.ifCond .eq 12, 3) := by decide +kernel
theorem dX2_pull_12 : decode cX2_pull 12 = .ok (.ldc 175, 2) := by decide +kernel
theorem dX2_pull_14 : decode cX2_pull 14 = .ok (.aload_n 0, 1) := by decide +kernel
theorem dX2_pull_15 : decode cX2_pull 15 = .ok (.iload_n 2, 1) := by decide +kernel
theorem dX2_pull_16 : decode cX2_pull 16 = .ok (.invokevirtual 63, 3) := by decide +kernel
theorem dX2_pull_19 : decode cX2_pull 19 = .ok (.isub, 1) := by decide +kernel
theorem dX2_pull_20 : decode cX2_pull 20 = .ok (.ireturn, 1) := by decide +kernel
theorem dX2_pull_21 : decode cX2_pull 21 = .ok (.aload_n 0, 1) := by decide +kernel
theorem dX2_pull_22 : decode cX2_pull 22 = .ok (.getfield 10, 3) := by decide +kernel
theorem dX2_pull_25 : decode cX2_pull 25 = .ok (.iload_n 1, 1) := by decide +kernel
theorem dX2_pull_26 : decode cX2_pull 26 = .ok (.invokevirtual 176, 3) := by decide +kernel
theorem dX2_pull_29 : decode cX2_pull 29 = .ok (.ireturn, 1) := by decide +kernel
set_option maxRecDepth 20000 in
theorem ggX2_meets_X2_firstAt : GoodIn wsX2_meets wsX2_firstAt := goodIn_r _ [5, 6, 7, 8, 9, 10, 11, 12, 13, 14, 15, 16, 17, 18, 19, 20, 21, 22, 23, 24, 25, 26, 27, 28, 29, 30, 31, 32, 33, 34, 35, 36, 37, 38, 39, 40, 41, 42, 43, 44, 45, 46, 47, 48, 49, 50, 51, 52, 53, 54, 55, 56, 57, 58, 59, 60, 61, 62, 63, 64, 65, 66, 67, 68, 69, 70, 71, 72, 73, 74] (by decide +kernel) (by decide +kernel)
set_option maxRecDepth 20000 in
theorem gX2_meets_X2_firstAt : GoodIn wsX2_meets (wsV RX2 179 RX2 yX2_firstAt wsX2_firstAt) := goodIn_app (goodIn_of _ (by decide +kernel)) ggX2_meets_X2_firstAt
theorem dX2_meets_0 : decode cX2_meets 0 = .ok (.aload_n 0, 1) := by decide +kernel
theorem dX2_meets_1 : decode cX2_meets 1 = .ok (.iconst 0, 1) := by decide +kernel
theorem dX2_meets_2 : decode cX2_meets 2 = .ok (.bipush 10, 2) := by decide +kernel
theorem dX2_meets_4 : decode cX2_meets 4 = .ok (.invokevirtual 179, 3) := by decide +kernel
theorem dX2_meets_7 : decode cX2_meets 7 = .ok (.ireturn, 1) := by decide +kernel
set_option maxRecDepth 20000 in
theorem ggX2_comes_X0_isSide : GoodIn wsX2_comes wsX0_isSide := goodIn_r _ [4] (by decide +kernel) (by decide +kernel)
set_option maxRecDepth 20000 in
theorem gX2_comes_X0_isSide : GoodIn wsX2_comes (va_wsS RX2 109 yX0_isSide wsX0_isSide) := goodIn_app (goodIn_of _ (by decide +kernel)) ggX2_comes_X0_isSide
set_option maxRecDepth 20000 in
theorem ggX2_comes_X0_isFloor : GoodIn wsX2_comes wsX0_isFloor := goodIn_r _ [7] (by decide +kernel) (by decide +kernel)
set_option maxRecDepth 20000 in
theorem gX2_comes_X0_isFloor : GoodIn wsX2_comes (va_wsS RX2 147 yX0_isFloor wsX0_isFloor) := goodIn_app (goodIn_of _ (by decide +kernel)) ggX2_comes_X0_isFloor
set_option maxRecDepth 20000 in
theorem ggX2_comes_X2_refuse : GoodIn wsX2_comes wsX2_refuse := goodIn_r _ [12, 13, 63, 64, 65, 66, 67, 68, 69, 70, 71, 72, 73, 74, 75, 76] (by decide +kernel) (by decide +kernel)
set_option maxRecDepth 20000 in
theorem gX2_comes_X2_refuse : GoodIn wsX2_comes (wsV RX2 63 RX2 yX2_refuse wsX2_refuse) := goodIn_app (goodIn_of _ (by decide +kernel)) ggX2_comes_X2_refuse
set_option maxRecDepth 20000 in
theorem ggX2_comes_X2_firstAt : GoodIn wsX2_comes wsX2_firstAt := goodIn_r _ [17, 18, 19, 20, 21, 22, 3, 23, 24, 25, 26, 27, 28, 29, 30, 31, 32, 33, 34, 35, 36, 37, 38, 39, 40, 41, 42, 43, 44, 45, 46, 47, 48, 49, 50, 51, 52, 53, 54, 55, 56, 57, 58, 59, 60, 61, 62, 63, 64, 65, 66, 67, 68, 69, 70, 71, 72, 73, 74, 75, 76, 77, 78, 79, 80, 81, 82, 83, 84, 85] (by decide +kernel) (by decide +kernel)
set_option maxRecDepth 20000 in
theorem gX2_comes_X2_firstAt : GoodIn wsX2_comes (wsV RX2 179 RX2 yX2_firstAt wsX2_firstAt) := goodIn_app (goodIn_of _ (by decide +kernel)) ggX2_comes_X2_firstAt
theorem dX2_comes_0 : decode cX2_comes 0 = .ok (.iload_n 1, 1) := by decide +kernel
theorem dX2_comes_1 : decode cX2_comes 1 = .ok (.invokestatic 109, 3) := by decide +kernel
theorem dX2_comes_4 : decode cX2_comes 4 = .ok (.ifCond .eq 10, 3) := by decide +kernel
theorem dX2_comes_7 : decode cX2_comes 7 = .ok (.iload_n 2, 1) := by decide +kernel
theorem dX2_comes_8 : decode cX2_comes 8 = .ok (.invokestatic 147, 3) := by decide +kernel
theorem dX2_comes_11 : decode cX2_comes 11 = .ok (.ifCond .ne 9, 3) := by decide +kernel
theorem dX2_comes_14 : decode cX2_comes 14 = .ok (.aload_n 0, 1) := by decide +kernel
theorem dX2_comes_15 : decode cX2_comes 15 = .ok (.iconst (-1), 1) := by decide +kernel
theorem dX2_comes_16 : decode cX2_comes 16 = .ok (.invokevirtual 63, 3) := by decide +kernel
theorem dX2_comes_19 : decode cX2_comes 19 = .ok (.ireturn, 1) := by decide +kernel
theorem dX2_comes_20 : decode cX2_comes 20 = .ok (.aload_n 0, 1) := by decide +kernel
theorem dX2_comes_21 : decode cX2_comes 21 = .ok (.iload_n 1, 1) := by decide +kernel
theorem dX2_comes_22 : decode cX2_comes 22 = .ok (.iload_n 2, 1) := by decide +kernel
theorem dX2_comes_23 : decode cX2_comes 23 = .ok (.invokevirtual 179, 3) := by decide +kernel
theorem dX2_comes_26 : decode cX2_comes 26 = .ok (.ireturn, 1) := by decide +kernel
set_option maxRecDepth 20000 in
theorem ggX2_strikes_X2_firstStrike : GoodIn wsX2_strikes wsX2_firstStrike := goodIn_r _ [5, 6, 7, 8, 9, 10, 11, 12, 13, 14, 15, 16, 17, 18, 19, 20, 21, 22, 23, 24, 25, 26, 27, 28, 29, 30, 31, 32, 33, 34, 35, 36, 37, 38, 39, 40, 41, 42, 43, 44, 45, 46, 47, 48, 58, 59, 60, 61, 62, 63, 64, 65, 66, 67, 68, 69, 70, 71, 72, 73, 74, 75, 76, 77, 78, 79, 80] (by decide +kernel) (by decide +kernel)
set_option maxRecDepth 20000 in
theorem gX2_strikes_X2_firstStrike : GoodIn wsX2_strikes (wsV RX2 182 RX2 yX2_firstStrike wsX2_firstStrike) := goodIn_app (goodIn_of _ (by decide +kernel)) ggX2_strikes_X2_firstStrike
set_option maxRecDepth 20000 in
theorem ggX2_strikes_X2_firstStill : GoodIn wsX2_strikes wsX2_firstStill := goodIn_r _ [52, 6, 7, 8, 9, 10, 11, 12, 13, 14, 15, 16, 17, 18, 19, 20, 21, 22, 23, 24, 25, 26, 27, 28, 29, 30, 31, 32, 33, 34, 35, 36, 37, 38, 39, 40, 41, 42, 43, 44, 45, 46, 47, 48, 58, 59, 60, 61, 62, 63, 64, 65, 66, 67, 68, 69, 70, 71, 72, 73, 74, 75, 76, 77, 78, 79, 80] (by decide +kernel) (by decide +kernel)
set_option maxRecDepth 20000 in
theorem gX2_strikes_X2_firstStill : GoodIn wsX2_strikes (wsV RX2 186 RX2 yX2_firstStill wsX2_firstStill) := goodIn_app (goodIn_of _ (by decide +kernel)) ggX2_strikes_X2_firstStill
set_option maxRecDepth 20000 in
theorem ggX2_strikes_X2_refuse : GoodIn wsX2_strikes wsX2_refuse := goodIn_r _ [56, 57, 58, 59, 60, 61, 62, 63, 64, 65, 66, 67, 68, 69, 70, 71] (by decide +kernel) (by decide +kernel)
set_option maxRecDepth 20000 in
theorem gX2_strikes_X2_refuse : GoodIn wsX2_strikes (wsV RX2 63 RX2 yX2_refuse wsX2_refuse) := goodIn_app (goodIn_of _ (by decide +kernel)) ggX2_strikes_X2_refuse
theorem dX2_strikes_0 : decode cX2_strikes 0 = .ok (.iload_n 1, 1) := by decide +kernel
theorem dX2_strikes_1 : decode cX2_strikes 1 = .ok (.lookupswitch 37 #[(0, 27), (1, 32)], 27) := by decide +kernel
theorem dX2_strikes_28 : decode cX2_strikes 28 = .ok (.aload_n 0, 1) := by decide +kernel
theorem dX2_strikes_29 : decode cX2_strikes 29 = .ok (.invokevirtual 182, 3) := by decide +kernel
theorem dX2_strikes_32 : decode cX2_strikes 32 = .ok (.ireturn, 1) := by decide +kernel
theorem dX2_strikes_33 : decode cX2_strikes 33 = .ok (.aload_n 0, 1) := by decide +kernel
theorem dX2_strikes_34 : decode cX2_strikes 34 = .ok (.invokevirtual 186, 3) := by decide +kernel
theorem dX2_strikes_37 : decode cX2_strikes 37 = .ok (.ireturn, 1) := by decide +kernel
theorem dX2_strikes_38 : decode cX2_strikes 38 = .ok (.aload_n 0, 1) := by decide +kernel
theorem dX2_strikes_39 : decode cX2_strikes 39 = .ok (.bipush (-2), 2) := by decide +kernel
theorem dX2_strikes_41 : decode cX2_strikes 41 = .ok (.invokevirtual 63, 3) := by decide +kernel
theorem dX2_strikes_44 : decode cX2_strikes 44 = .ok (.ireturn, 1) := by decide +kernel
set_option maxRecDepth 20000 in
theorem ggX2_door_X0_isSide : GoodIn wsX2_door wsX0_isSide := goodIn_r _ [6] (by decide +kernel) (by decide +kernel)
set_option maxRecDepth 20000 in
theorem gX2_door_X0_isSide : GoodIn wsX2_door (va_wsS RX2 109 yX0_isSide wsX0_isSide) := goodIn_app (goodIn_of _ (by decide +kernel)) ggX2_door_X0_isSide
set_option maxRecDepth 20000 in
theorem ggX2_door_X2_refuse : GoodIn wsX2_door wsX2_refuse := goodIn_r _ [11, 12, 64, 65, 66, 67, 68, 69, 70, 71, 72, 73, 74, 75, 76, 77] (by decide +kernel) (by decide +kernel)
set_option maxRecDepth 20000 in
theorem gX2_door_X2_refuse : GoodIn wsX2_door (wsV RX2 63 RX2 yX2_refuse wsX2_refuse) := goodIn_app (goodIn_of _ (by decide +kernel)) ggX2_door_X2_refuse
set_option maxRecDepth 20000 in
theorem ggX2_door_X0_foresee : GoodIn wsX2_door wsX0_foresee := goodIn_r _ [16, 17, 18, 19, 20, 5, 21, 22, 23, 24, 25, 26, 27, 28, 29, 30, 31, 32, 33, 34, 35, 36, 37, 38, 39, 40, 41, 42, 43, 44, 45, 46, 47, 48, 49, 50, 51, 52, 78, 79, 80, 81, 82, 83, 84, 85, 86] (by decide +kernel) (by decide +kernel)
