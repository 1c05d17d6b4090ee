set_option maxRecDepth 20000 in
theorem ggX2_init_X0_init : GoodIn wsX2_init wsX0_init := goodIn_r _ [22, 23, 2, 3, 8, 24, 52, 53] (by decide +kernel) (by decide +kernel)
set_option maxRecDepth 20000 in
theorem gX2_init_X0_init_n15 : GoodIn wsX2_init (wsX0_init) := ggX2_init_X0_init
set_option maxRecDepth 20000 in
theorem ggX2_init_X1_init : GoodIn wsX2_init wsX1_init := goodIn_r _ [26, 27, 2, 3, 28, 8, 29, 30, 31, 32, 33, 34, 54, 55, 56, 57, 58, 59] (by decide +kernel) (by decide +kernel)
set_option maxRecDepth 20000 in
theorem gX2_init_X1_init_n31 : GoodIn wsX2_init (wsX1_init) := ggX2_init_X1_init
theorem dX2_init_0 : decode cX2_init 0 = .ok (.aload_n 0, 1) := by decide +kernel
theorem dX2_init_1 : decode cX2_init 1 = .ok (.invokespecial 1, 3) := by decide +kernel
theorem dX2_init_4 : decode cX2_init 4 = .ok (.aload_n 0, 1) := by decide +kernel
theorem dX2_init_5 : decode cX2_init 5 = .ok (.iconst 5, 1) := by decide +kernel
theorem dX2_init_6 : decode cX2_init 6 = .ok (.anewarray 9, 3) := by decide +kernel
theorem dX2_init_9 : decode cX2_init 9 = .ok (.putfield 11, 3) := by decide +kernel
theorem dX2_init_12 : decode cX2_init 12 = .ok (.iconst 0, 1) := by decide +kernel
theorem dX2_init_13 : decode cX2_init 13 = .ok (.istore_n 1, 1) := by decide +kernel
theorem dX2_init_14 : decode cX2_init 14 = .ok (.iload_n 1, 1) := by decide +kernel
theorem dX2_init_15 : decode cX2_init 15 = .ok (.iconst 5, 1) := by decide +kernel
theorem dX2_init_16 : decode cX2_init 16 = .ok (.if_icmp .ge 22, 3) := by decide +kernel
theorem dX2_init_19 : decode cX2_init 19 = .ok (.aload_n 0, 1) := by decide +kernel
theorem dX2_init_20 : decode cX2_init 20 = .ok (.getfield 11, 3) := by decide +kernel
theorem dX2_init_23 : decode cX2_init 23 = .ok (.iload_n 1, 1) := by decide +kernel
theorem dX2_init_24 : decode cX2_init 24 = .ok (.new 9, 3) := by decide +kernel
theorem dX2_init_27 : decode cX2_init 27 = .ok (.dup, 1) := by decide +kernel
theorem dX2_init_28 : decode cX2_init 28 = .ok (.invokespecial 15, 3) := by decide +kernel
theorem dX2_init_31 : decode cX2_init 31 = .ok (.aastore, 1) := by decide +kernel
theorem dX2_init_32 : decode cX2_init 32 = .ok (.iinc 1 1, 3) := by decide +kernel
theorem dX2_init_35 : decode cX2_init 35 = .ok (.goto (-21), 3) := by decide +kernel
theorem dX2_init_38 : decode cX2_init 38 = .ok (.aload_n 0, 1) := by decide +kernel
theorem dX2_init_39 : decode cX2_init 39 = .ok (.bipush 99, 2) := by decide +kernel
theorem dX2_init_41 : decode cX2_init 41 = .ok (.newarray .int, 2) := by decide +kernel
theorem dX2_init_43 : decode cX2_init 43 = .ok (.putfield 16, 3) := by decide +kernel
theorem dX2_init_46 : decode cX2_init 46 = .ok (.aload_n 0, 1) := by decide +kernel
theorem dX2_init_47 : decode cX2_init 47 = .ok (.bipush 99, 2) := by decide +kernel
theorem dX2_init_49 : decode cX2_init 49 = .ok (.newarray .int, 2) := by decide +kernel
theorem dX2_init_51 : decode cX2_init 51 = .ok (.putfield 20, 3) := by decide +kernel
theorem dX2_init_54 : decode cX2_init 54 = .ok (.aload_n 0, 1) := by decide +kernel
theorem dX2_init_55 : decode cX2_init 55 = .ok (.bipush 99, 2) := by decide +kernel
theorem dX2_init_57 : decode cX2_init 57 = .ok (.newarray .int, 2) := by decide +kernel
theorem dX2_init_59 : decode cX2_init 59 = .ok (.putfield 23, 3) := by decide +kernel
theorem dX2_init_62 : decode cX2_init 62 = .ok (.aload_n 0, 1) := by decide +kernel
theorem dX2_init_63 : decode cX2_init 63 = .ok (.bipush 99, 2) := by decide +kernel
theorem dX2_init_65 : decode cX2_init 65 = .ok (.newarray .int, 2) := by decide +kernel
theorem dX2_init_67 : decode cX2_init 67 = .ok (.putfield 26, 3) := by decide +kernel
theorem dX2_init_70 : decode cX2_init 70 = .ok (.aload_n 0, 1) := by decide +kernel
theorem dX2_init_71 : decode cX2_init 71 = .ok (.new 29, 3) := by decide +kernel
theorem dX2_init_74 : decode cX2_init 74 = .ok (.dup, 1) := by decide +kernel
theorem dX2_init_75 : decode cX2_init 75 = .ok (.invokespecial 31, 3) := by decide +kernel
theorem dX2_init_78 : decode cX2_init 78 = .ok (.putfield 32, 3) := by decide +kernel
theorem dX2_init_81 : decode cX2_init 81 = .ok (.aload_n 0, 1) := by decide +kernel
theorem dX2_init_82 : decode cX2_init 82 = .ok (.iconst 3, 1) := by decide +kernel
theorem dX2_init_83 : decode cX2_init 83 = .ok (.putfield 36, 3) := by decide +kernel
theorem dX2_init_86 : decode cX2_init 86 = .ok (.aload_n 0, 1) := by decide +kernel
theorem dX2_init_87 : decode cX2_init 87 = .ok (.iconst 4, 1) := by decide +kernel
theorem dX2_init_88 : decode cX2_init 88 = .ok (.putfield 40, 3) := by decide +kernel
theorem dX2_init_91 : decode cX2_init 91 = .ok (.aload_n 0, 1) := by decide +kernel
theorem dX2_init_92 : decode cX2_init 92 = .ok (.iconst 3, 1) := by decide +kernel
theorem dX2_init_93 : decode cX2_init 93 = .ok (.putfield 43, 3) := by decide +kernel
theorem dX2_init_96 : decode cX2_init 96 = .ok (.aload_n 0, 1) := by decide +kernel
theorem dX2_init_97 : decode cX2_init 97 = .ok (.iconst (-1), 1) := by decide +kernel
theorem dX2_init_98 : decode cX2_init 98 = .ok (.putfield 46, 3) := by decide +kernel
theorem dX2_init_101 : decode cX2_init 101 = .ok (.return_, 1) := by decide +kernel
set_option maxRecDepth 20000 in
theorem ggX2_begin_X2_forgetBodies : GoodIn wsX2_begin wsX2_forgetBodies := goodIn_r _ [11, 12, 3, 13, 14, 15, 16, 17, 18, 19, 20, 21, 22, 23, 24, 25, 26, 27, 28, 29, 30, 31, 32, 33, 34, 35, 36, 37, 38, 39, 40, 41, 42] (by decide +kernel) (by decide +kernel)
set_option maxRecDepth 20000 in
theorem gX2_begin_X2_forgetBodies : GoodIn wsX2_begin (wsV RX2 63 RX2 yX2_forgetBodies wsX2_forgetBodies) := goodIn_app (goodIn_of _ (by decide +kernel)) ggX2_begin_X2_forgetBodies
theorem dX2_begin_0 : decode cX2_begin 0 = .ok (.iload_n 1, 1) := by decide +kernel
theorem dX2_begin_1 : decode cX2_begin 1 = .ok (.iconst 1, 1) := by decide +kernel
theorem dX2_begin_2 : decode cX2_begin 2 = .ok (.if_icmp .lt 8, 3) := by decide +kernel
theorem dX2_begin_5 : decode cX2_begin 5 = .ok (.iload_n 1, 1) := by decide +kernel
theorem dX2_begin_6 : decode cX2_begin 6 = .ok (.iconst 5, 1) := by decide +kernel
theorem dX2_begin_7 : decode cX2_begin 7 = .ok (.if_icmp .le 13, 3) := by decide +kernel
theorem dX2_begin_10 : decode cX2_begin 10 = .ok (.new 49, 3) := by decide +kernel
theorem dX2_begin_13 : decode cX2_begin 13 = .ok (.dup, 1) := by decide +kernel
theorem dX2_begin_14 : decode cX2_begin 14 = .ok (.ldc 51, 2) := by decide +kernel
theorem dX2_begin_16 : decode cX2_begin 16 = .ok (.invokespecial 53, 3) := by decide +kernel
theorem dX2_begin_19 : decode cX2_begin 19 = .ok (.athrow, 1) := by decide +kernel
theorem dX2_begin_20 : decode cX2_begin 20 = .ok (.iload_n 2, 1) := by decide +kernel
theorem dX2_begin_21 : decode cX2_begin 21 = .ok (.iconst 1, 1) := by decide +kernel
theorem dX2_begin_22 : decode cX2_begin 22 = .ok (.if_icmp .lt 9, 3) := by decide +kernel
theorem dX2_begin_25 : decode cX2_begin 25 = .ok (.iload_n 2, 1) := by decide +kernel
theorem dX2_begin_26 : decode cX2_begin 26 = .ok (.bipush 6, 2) := by decide +kernel
theorem dX2_begin_28 : decode cX2_begin 28 = .ok (.if_icmp .le 13, 3) := by decide +kernel
theorem dX2_begin_31 : decode cX2_begin 31 = .ok (.new 49, 3) := by decide +kernel
theorem dX2_begin_34 : decode cX2_begin 34 = .ok (.dup, 1) := by decide +kernel
theorem dX2_begin_35 : decode cX2_begin 35 = .ok (.ldc 56, 2) := by decide +kernel
theorem dX2_begin_37 : decode cX2_begin 37 = .ok (.invokespecial 53, 3) := by decide +kernel
theorem dX2_begin_40 : decode cX2_begin 40 = .ok (.athrow, 1) := by decide +kernel
theorem dX2_begin_41 : decode cX2_begin 41 = .ok (.iload_n 3, 1) := by decide +kernel
theorem dX2_begin_42 : decode cX2_begin 42 = .ok (.iconst 1, 1) := by decide +kernel
theorem dX2_begin_43 : decode cX2_begin 43 = .ok (.if_icmp .lt 9, 3) := by decide +kernel
theorem dX2_begin_46 : decode cX2_begin 46 = .ok (.iload_n 3, 1) := by decide +kernel
theorem dX2_begin_47 : decode cX2_begin 47 = .ok (.bipush 6, 2) := by decide +kernel
theorem dX2_begin_49 : decode cX2_begin 49 = .ok (.if_icmp .le 13, 3) := by decide +kernel
theorem dX2_begin_52 : decode cX2_begin 52 = .ok (.new 49, 3) := by decide +kernel
theorem dX2_begin_55 : decode cX2_begin 55 = .ok (.dup, 1) := by decide +kernel
theorem dX2_begin_56 : decode cX2_begin 56 = .ok (.ldc 58, 2) := by decide +kernel
theorem dX2_begin_58 : decode cX2_begin 58 = .ok (.invokespecial 53, 3) := by decide +kernel
theorem dX2_begin_61 : decode cX2_begin 61 = .ok (.athrow, 1) := by decide +kernel
theorem dX2_begin_62 : decode cX2_begin 62 = .ok (.aload_n 0, 1) := by decide +kernel
theorem dX2_begin_63 : decode cX2_begin 63 = .ok (.getfield 60, 3) := by decide +kernel
theorem dX2_begin_66 : decode cX2_begin 66 = .ok (.istore 4, 2) := by decide +kernel
theorem dX2_begin_68 : decode cX2_begin 68 = .ok (.aload_n 0, 1) := by decide +kernel
theorem dX2_begin_69 : decode cX2_begin 69 = .ok (.iload_n 1, 1) := by decide +kernel
theorem dX2_begin_70 : decode cX2_begin 70 = .ok (.putfield 36, 3) := by decide +kernel
theorem dX2_begin_73 : decode cX2_begin 73 = .ok (.aload_n 0, 1) := by decide +kernel
theorem dX2_begin_74 : decode cX2_begin 74 = .ok (.iload_n 2, 1) := by decide +kernel
theorem dX2_begin_75 : decode cX2_begin 75 = .ok (.putfield 40, 3) := by decide +kernel
theorem dX2_begin_78 : decode cX2_begin 78 = .ok (.aload_n 0, 1) := by decide +kernel
theorem dX2_begin_79 : decode cX2_begin 79 = .ok (.iload_n 3, 1) := by decide +kernel
theorem dX2_begin_80 : decode cX2_begin 80 = .ok (.putfield 43, 3) := by decide +kernel
theorem dX2_begin_83 : decode cX2_begin 83 = .ok (.aload_n 0, 1) := by decide +kernel
theorem dX2_begin_84 : decode cX2_begin 84 = .ok (.invokevirtual 63, 3) := by decide +kernel
theorem dX2_begin_87 : decode cX2_begin 87 = .ok (.iload 4, 2) := by decide +kernel
theorem dX2_begin_89 : decode cX2_begin 89 = .ok (.ireturn, 1) := by decide +kernel
theorem dX2_setRules_0 : decode cX2_setRules 0 = .ok (.iload_n 1, 1) := by decide +kernel
theorem dX2_setRules_1 : decode cX2_setRules 1 = .ok (.ifCond .lt 8, 3) := by decide +kernel
theorem dX2_setRules_4 : decode cX2_setRules 4 = .ok (.iload_n 1, 1) := by decide +kernel
theorem dX2_setRules_5 : decode cX2_setRules 5 = .ok (.iconst 3, 1) := by decide +kernel
theorem dX2_setRules_6 : decode cX2_setRules 6 = .ok (.if_icmp .lt 13, 3) := by decide +kernel
theorem dX2_setRules_9 : decode cX2_setRules 9 = .ok (.new 49, 3) := by decide +kernel
theorem dX2_setRules_12 : decode cX2_setRules 12 = .ok (.dup, 1) := by decide +kernel
theorem dX2_setRules_13 : decode cX2_setRules 13 = .ok (.ldc 66, 2) := by decide +kernel
theorem dX2_setRules_15 : decode cX2_setRules 15 = .ok (.invokespecial 53, 3) := by decide +kernel
theorem dX2_setRules_18 : decode cX2_setRules 18 = .ok (.athrow, 1) := by decide +kernel
theorem dX2_setRules_19 : decode cX2_setRules 19 = .ok (.iload_n 2, 1) := by decide +kernel
theorem dX2_setRules_20 : decode cX2_setRules 20 = .ok (.ifCond .lt 8, 3) := by decide +kernel
theorem dX2_setRules_23 : decode cX2_setRules 23 = .ok (.iload_n 2, 1) := by decide +kernel
theorem dX2_setRules_24 : decode cX2_setRules 24 = .ok (.iconst 3, 1) := by decide +kernel
theorem dX2_setRules_25 : decode cX2_setRules 25 = .ok (.if_icmp .lt 13, 3) := by decide +kernel
theorem dX2_setRules_28 : decode cX2_setRules 28 = .ok (.new 49, 3) := by decide +kernel
theorem dX2_setRules_31 : decode cX2_setRules 31 = .ok (.dup, 1) := by decide +kernel
theorem dX2_setRules_32 : decode cX2_setRules 32 = .ok (.ldc 68, 2) := by decide +kernel
theorem dX2_setRules_34 : decode cX2_setRules 34 = .ok (.invokespecial 53, 3) := by decide +kernel
theorem dX2_setRules_37 : decode cX2_setRules 37 = .ok (.athrow, 1) := by decide +kernel
theorem dX2_setRules_38 : decode cX2_setRules 38 = .ok (.aload_n 0, 1) := by decide +kernel
theorem dX2_setRules_39 : decode cX2_setRules 39 = .ok (.iload_n 1, 1) := by decide +kernel
theorem dX2_setRules_40 : decode cX2_setRules 40 = .ok (.putfield 70, 3) := by decide +kernel
theorem dX2_setRules_43 : decode cX2_setRules 43 = .ok (.aload_n 0, 1) := by decide +kernel
theorem dX2_setRules_44 : decode cX2_setRules 44 = .ok (.iload_n 2, 1) := by decide +kernel
theorem dX2_setRules_45 : decode cX2_setRules 45 = .ok (.putfield 73, 3) := by decide +kernel
theorem dX2_setRules_48 : decode cX2_setRules 48 = .ok (.return_, 1) := by decide +kernel
set_option maxRecDepth 20000 in
theorem ggX2_arrive_X2_isColour : GoodIn wsX2_arrive wsX2_isColour := goodIn_r _ [9] (by decide +kernel) (by decide +kernel)
set_option maxRecDepth 20000 in
theorem gX2_arrive_X2_isColour : GoodIn wsX2_arrive (va_wsS RX2 76 yX2_isColour wsX2_isColour) := goodIn_app (goodIn_of _ (by decide +kernel)) ggX2_arrive_X2_isColour
set_option maxRecDepth 20000 in
theorem ggX2_arrive_X2_laneByEntryRule : GoodIn wsX2_arrive wsX2_laneByEntryRule := goodIn_r _ [13, 14, 15, 16, 17, 8, 18, 19, 20, 21, 22, 23, 24, 25, 26, 27, 28, 29, 30, 31, 32, 33, 34, 35, 36, 37, 38, 39, 40, 41, 42, 43, 44, 45, 46, 47, 48, 49, 5, 50, 51, 52, 53, 54, 55, 56, 57, 58, 59, 60, 61, 62, 76, 77, 78, 79, 80, 81, 82, 83, 84, 85, 86, 87, 88, 89, 90, 91, 92, 93, 94] (by decide +kernel) (by decide +kernel)
set_option maxRecDepth 20000 in
theorem gX2_arrive_X2_laneByEntryRule : GoodIn wsX2_arrive (wsV RX2 87 RX2 yX2_laneByEntryRule wsX2_laneByEntryRule) := goodIn_app (goodIn_of _ (by decide +kernel)) ggX2_arrive_X2_laneByEntryRule
set_option maxRecDepth 20000 in
theorem ggX2_arrive_X2_newBody : GoodIn wsX2_arrive wsX2_newBody := goodIn_r _ [66, 5, 45, 76, 77, 78, 79, 80, 81, 82, 83, 84, 85, 86, 87, 88, 89, 90, 91, 92] (by decide +kernel) (by decide +kernel)
set_option maxRecDepth 20000 in
theorem gX2_arrive_X2_newBody : GoodIn wsX2_arrive (wsV RX2 93 RX2 yX2_newBody wsX2_newBody) := goodIn_app (goodIn_of _ (by decide +kernel)) ggX2_arrive_X2_newBody
set_option maxRecDepth 20000 in
theorem ggX2_arrive_X2_putInto : GoodIn wsX2_arrive wsX2_putInto := goodIn_r _ [70, 20, 71, 54, 72, 73, 74, 29, 75, 31, 40, 55, 56, 57, 8, 58, 19, 76, 77, 78, 79, 80, 81, 82, 83, 84, 85, 86, 87, 88, 89, 90, 91, 92, 93, 94] (by decide +kernel) (by decide +kernel)
set_option maxRecDepth 20000 in
theorem gX2_arrive_X2_putInto : GoodIn wsX2_arrive (wsV RX2 96 RX2 yX2_putInto wsX2_putInto) := goodIn_app (goodIn_of _ (by decide +kernel)) ggX2_arrive_X2_putInto
theorem dX2_arrive_0 : decode cX2_arrive 0 = .ok (.iload_n 1, 1) := by decide +kernel
theorem dX2_arrive_1 : decode cX2_arrive 1 = .ok (.invokestatic 76, 3) := by decide +kernel
theorem dX2_arrive_4 : decode cX2_arrive 4 = .ok (.ifCond .ne 13, 3) := by decide +kernel
theorem dX2_arrive_7 : decode cX2_arrive 7 = .ok (.new 49, 3) := by decide +kernel
theorem dX2_arrive_10 : decode cX2_arrive 10 = .ok (.dup, 1) := by decide +kernel
theorem dX2_arrive_11 : decode cX2_arrive 11 = .ok (.ldc 80, 2) := by decide +kernel
theorem dX2_arrive_13 : decode cX2_arrive 13 = .ok (.invokespecial 53, 3) := by decide +kernel
theorem dX2_arrive_16 : decode cX2_arrive 16 = .ok (.athrow, 1) := by decide +kernel
theorem dX2_arrive_17 : decode cX2_arrive 17 = .ok (.aload_n 0, 1) := by decide +kernel
theorem dX2_arrive_18 : decode cX2_arrive 18 = .ok (.getfield 60, 3) := by decide +kernel
theorem dX2_arrive_21 : decode cX2_arrive 21 = .ok (.bipush 99, 2) := by decide +kernel
theorem dX2_arrive_23 : decode cX2_arrive 23 = .ok (.if_icmp .lt 13, 3) := by decide +kernel
theorem dX2_arrive_26 : decode cX2_arrive 26 = .ok (.new 82, 3) := by decide +kernel
theorem dX2_arrive_29 : decode cX2_arrive 29 = .ok (.dup, 1) := by decide +kernel
theorem dX2_arrive_30 : decode cX2_arrive 30 = .ok (.ldc 84, 2) := by decide +kernel
theorem dX2_arrive_32 : decode cX2_arrive 32 = .ok (.invokespecial 86, 3) := by decide +kernel
theorem dX2_arrive_35 : decode cX2_arrive 35 = .ok (.athrow, 1) := by decide +kernel
theorem dX2_arrive_36 : decode cX2_arrive 36 = .ok (.aload_n 0, 1) := by decide +kernel
theorem dX2_arrive_37 : decode cX2_arrive 37 = .ok (.iload_n 1, 1) := by decide +kernel
theorem dX2_arrive_38 : decode cX2_arrive 38 = .ok (.invokevirtual 87, 3) := by decide +kernel
theorem dX2_arrive_41 : decode cX2_arrive 41 = .ok (.istore_n 2, 1) := by decide +kernel
theorem dX2_arrive_42 : decode cX2_arrive 42 = .ok (.iload_n 2, 1) := by decide +kernel
theorem dX2_arrive_43 : decode cX2_arrive 43 = .ok (.iconst (-1), 1) := by decide +kernel
theorem dX2_arrive_44 : decode cX2_arrive 44 = .ok (.if_icmp .ne 13, 3) := by decide +kernel
theorem dX2_arrive_47 : decode cX2_arrive 47 = .ok (.new 82, 3) := by decide +kernel
theorem dX2_arrive_50 : decode cX2_arrive 50 = .ok (.dup, 1) := by decide +kernel
theorem dX2_arrive_51 : decode cX2_arrive 51 = .ok (.ldc 91, 2) := by decide +kernel
theorem dX2_arrive_53 : decode cX2_arrive 53 = .ok (.invokespecial 86, 3) := by decide +kernel
theorem dX2_arrive_56 : decode cX2_arrive 56 = .ok (.athrow, 1) := by decide +kernel
theorem dX2_arrive_57 : decode cX2_arrive 57 = .ok (.aload_n 0, 1) := by decide +kernel
theorem dX2_arrive_58 : decode cX2_arrive 58 = .ok (.iload_n 2, 1) := by decide +kernel
theorem dX2_arrive_59 : decode cX2_arrive 59 = .ok (.aload_n 0, 1) := by decide +kernel
theorem dX2_arrive_60 : decode cX2_arrive 60 = .ok (.iload_n 1, 1) := by decide +kernel
theorem dX2_arrive_61 : decode cX2_arrive 61 = .ok (.invokevirtual 93, 3) := by decide +kernel
theorem dX2_arrive_64 : decode cX2_arrive 64 = .ok (.invokevirtual 96, 3) := by decide +kernel
theorem dX2_arrive_67 : decode cX2_arrive 67 = .ok (.iload_n 2, 1) := by decide +kernel
theorem dX2_arrive_68 : decode cX2_arrive 68 = .ok (.ireturn, 1) := by decide +kernel
set_option maxRecDepth 20000 in
theorem ggX2_arriveIn_X2_isColour : GoodIn wsX2_arriveIn wsX2_isColour := goodIn_r _ [11] (by decide +kernel) (by decide +kernel)
set_option maxRecDepth 20000 in
theorem gX2_arriveIn_X2_isColour : GoodIn wsX2_arriveIn (va_wsS RX2 76 yX2_isColour wsX2_isColour) := goodIn_app (goodIn_of _ (by decide +kernel)) ggX2_arriveIn_X2_isColour
set_option maxRecDepth 20000 in
theorem ggX2_arriveIn_X2_isLane : GoodIn wsX2_arriveIn wsX2_isLane := goodIn_r _ [15, 16, 49, 50, 51, 52, 53, 54, 55, 56, 57, 58, 59, 60, 61, 62, 63, 64, 65] (by decide +kernel) (by decide +kernel)
set_option maxRecDepth 20000 in
theorem gX2_arriveIn_X2_isLane : GoodIn wsX2_arriveIn (wsV RX2 100 RX2 yX2_isLane wsX2_isLane) := goodIn_app (goodIn_of _ (by decide +kernel)) ggX2_arriveIn_X2_isLane
set_option maxRecDepth 20000 in
theorem ggX2_arriveIn_X2_hasRoom : GoodIn wsX2_arriveIn wsX2_hasRoom := goodIn_r _ [20, 21, 22, 23, 24, 25, 26, 27, 28, 49, 50, 51, 52, 53, 54, 55, 56, 57, 58, 59, 60, 61, 62, 63, 64, 65, 66, 67] (by decide +kernel) (by decide +kernel)
set_option maxRecDepth 20000 in
theorem gX2_arriveIn_X2_hasRoom : GoodIn wsX2_arriveIn (wsV RX2 108 RX2 yX2_hasRoom wsX2_hasRoom) := goodIn_app (goodIn_of _ (by decide +kernel)) ggX2_arriveIn_X2_hasRoom
set_option maxRecDepth 20000 in
theorem ggX2_arriveIn_X2_newBody : GoodIn wsX2_arriveIn wsX2_newBody := goodIn_r _ [32, 7, 33, 49, 50, 51, 52, 53, 54, 55, 56, 57, 58, 59, 60, 61, 62, 63, 64, 65] (by decide +kernel) (by decide +kernel)
set_option maxRecDepth 20000 in
theorem gX2_arriveIn_X2_newBody : GoodIn wsX2_arriveIn (wsV RX2 93 RX2 yX2_newBody wsX2_newBody) := goodIn_app (goodIn_of _ (by decide +kernel)) ggX2_arriveIn_X2_newBody
set_option maxRecDepth 20000 in
theorem ggX2_arriveIn_X2_putInto : GoodIn wsX2_arriveIn wsX2_putInto := goodIn_r _ [37, 21, 38, 39, 40, 41, 42, 26, 43, 28, 44, 45, 46, 47, 10, 48, 16, 49, 50, 51, 52, 53, 54, 55, 56, 57, 58, 59, 60, 61, 62, 63, 64, 65, 66, 67] (by decide +kernel) (by decide +kernel)
set_option maxRecDepth 20000 in
theorem gX2_arriveIn_X2_putInto : GoodIn wsX2_arriveIn (wsV RX2 96 RX2 yX2_putInto wsX2_putInto) := goodIn_app (goodIn_of _ (by decide +kernel)) ggX2_arriveIn_X2_putInto
theorem dX2_arriveIn_0 : decode cX2_arriveIn 0 = .ok (.iload_n 1, 1) := by decide +kernel
theorem dX2_arriveIn_1 : decode cX2_arriveIn 1 = .ok (.invokestatic 76, 3) := by decide +kernel
theorem dX2_arriveIn_4 : decode cX2_arriveIn 4 = .ok (.ifCond .ne 13, 3) := by decide +kernel
theorem dX2_arriveIn_7 : decode cX2_arriveIn 7 = .ok (.new 49, 3) := by decide +kernel
theorem dX2_arriveIn_10 : decode cX2_arriveIn 10 = .ok (.dup, 1) := by decide +kernel
theorem dX2_arriveIn_11 : decode cX2_arriveIn 11 = .ok (.ldc 80, 2) := by decide +kernel
theorem dX2_arriveIn_13 : decode cX2_arriveIn 13 = .ok (.invokespecial 53, 3) := by decide +kernel
theorem dX2_arriveIn_16 : decode cX2_arriveIn 16 = .ok (.athrow, 1) := by decide +kernel
theorem dX2_arriveIn_17 : decode cX2_arriveIn 17 = .ok (.aload_n 0, 1) := by decide +kernel
theorem dX2_arriveIn_18 : decode cX2_arriveIn 18 = .ok (.iload_n 2, 1) := by decide +kernel
theorem dX2_arriveIn_19 : decode cX2_arriveIn 19 = .ok (.invokevirtual 100, 3) := by decide +kernel
theorem dX2_arriveIn_22 : decode cX2_arriveIn 22 = .ok (.ifCond .ne 13, 3) := by decide +kernel
theorem dX2_arriveIn_25 : decode cX2_arriveIn 25 = .ok (.new 103, 3) := by decide +kernel
theorem dX2_arriveIn_28 : decode cX2_arriveIn 28 = .ok (.dup, 1) := by decide +kernel
theorem dX2_arriveIn_29 : decode cX2_arriveIn 29 = .ok (.ldc 105, 2) := by decide +kernel
theorem dX2_arriveIn_31 : decode cX2_arriveIn 31 = .ok (.invokespecial 107, 3) := by decide +kernel
theorem dX2_arriveIn_34 : decode cX2_arriveIn 34 = .ok (.athrow, 1) := by decide +kernel
theorem dX2_arriveIn_35 : decode cX2_arriveIn 35 = .ok (.aload_n 0, 1) := by decide +kernel
theorem dX2_arriveIn_36 : decode cX2_arriveIn 36 = .ok (.getfield 60, 3) := by decide +kernel
theorem dX2_arriveIn_39 : decode cX2_arriveIn 39 = .ok (.bipush 99, 2) := by decide +kernel
theorem dX2_arriveIn_41 : decode cX2_arriveIn 41 = .ok (.if_icmp .lt 13, 3) := by decide +kernel
theorem dX2_arriveIn_44 : decode cX2_arriveIn 44 = .ok (.new 82, 3) := by decide +kernel
theorem dX2_arriveIn_47 : decode cX2_arriveIn 47 = .ok (.dup, 1) := by decide +kernel
theorem dX2_arriveIn_48 : decode cX2_arriveIn 48 = .ok (.ldc 84, 2) := by decide +kernel
theorem dX2_arriveIn_50 : decode cX2_arriveIn 50 = .ok (.invokespecial 86, 3) := by decide +kernel
theorem dX2_arriveIn_53 : decode cX2_arriveIn 53 = .ok (.athrow, 1) := by decide +kernel
theorem dX2_arriveIn_54 : decode cX2_arriveIn 54 = .ok (.aload_n 0, 1) := by decide +kernel
theorem dX2_arriveIn_55 : decode cX2_arriveIn 55 = .ok (.iload_n 2, 1) := by decide +kernel
theorem dX2_arriveIn_56 : decode cX2_arriveIn 56 = .ok (.invokevirtual 108, 3) := by decide +kernel
theorem dX2_arriveIn_59 : decode cX2_arriveIn 59 = .ok (.ifCond .ne 13, 3) := by decide +kernel
theorem dX2_arriveIn_62 : decode cX2_arriveIn 62 = .ok (.new 82, 3) := by decide +kernel
theorem dX2_arriveIn_65 : decode cX2_arriveIn 65 = .ok (.dup, 1) := by decide +kernel
theorem dX2_arriveIn_66 : decode cX2_arriveIn 66 = .ok (.ldc 111, 2) := by decide +kernel
theorem dX2_arriveIn_68 : decode cX2_arriveIn 68 = .ok (.invokespecial 86, 3) := by decide +kernel
theorem dX2_arriveIn_71 : decode cX2_arriveIn 71 = .ok (.athrow, 1) := by decide +kernel
theorem dX2_arriveIn_72 : decode cX2_arriveIn 72 = .ok (.aload_n 0, 1) := by decide +kernel
theorem dX2_arriveIn_73 : decode cX2_arriveIn 73 = .ok (.iload_n 1, 1) := by decide +kernel
theorem dX2_arriveIn_74 : decode cX2_arriveIn 74 = .ok (.invokevirtual 93, 3) := by decide +kernel
theorem dX2_arriveIn_77 : decode cX2_arriveIn 77 = .ok (.istore_n 3, 1) := by decide +kernel
theorem dX2_arriveIn_78 : decode cX2_arriveIn 78 = .ok (.aload_n 0, 1) := by decide +kernel
theorem dX2_arriveIn_79 : decode cX2_arriveIn 79 = .ok (.iload_n 2, 1) := by decide +kernel
theorem dX2_arriveIn_80 : decode cX2_arriveIn 80 = .ok (.iload_n 3, 1) := by decide +kernel
theorem dX2_arriveIn_81 : decode cX2_arriveIn 81 = .ok (.invokevirtual 96, 3) := by decide +kernel
theorem dX2_arriveIn_84 : decode cX2_arriveIn 84 = .ok (.iload_n 3, 1) := by decide +kernel
theorem dX2_arriveIn_85 : decode cX2_arriveIn 85 = .ok (.ireturn, 1) := by decide +kernel
set_option maxRecDepth 20000 in
theorem ggX2_release_X2_storeIsFull : GoodIn wsX2_release wsX2_storeIsFull := goodIn_r _ [7, 8, 9, 10, 11, 6, 12, 13, 14, 69, 70, 71, 72, 73, 74, 75, 76, 77, 78, 79, 80, 81, 82, 83, 84, 85] (by decide +kernel) (by decide +kernel)
set_option maxRecDepth 20000 in
theorem gX2_release_X2_storeIsFull : GoodIn wsX2_release (wsV RX2 113 RX2 yX2_storeIsFull wsX2_storeIsFull) := goodIn_app (goodIn_of _ (by decide +kernel)) ggX2_release_X2_storeIsFull
set_option maxRecDepth 20000 in
theorem ggX2_release_X2_laneByExitRule : GoodIn wsX2_release wsX2_laneByExitRule := goodIn_r _ [18, 19, 20, 21, 22, 23, 6, 24, 25, 26, 27, 28, 29, 30, 31, 32, 33, 34, 35, 36, 37, 38, 39, 40, 41, 42, 13, 43, 44, 45, 46, 47, 48, 49, 50, 51, 52, 53, 54, 69, 70, 71, 72, 73, 74, 75, 76, 77, 78, 79, 80, 81, 82, 83, 84, 85, 86, 87] (by decide +kernel) (by decide +kernel)
set_option maxRecDepth 20000 in
theorem gX2_release_X2_laneByExitRule : GoodIn wsX2_release (wsV RX2 119 RX2 yX2_laneByExitRule wsX2_laneByExitRule) := goodIn_app (goodIn_of _ (by decide +kernel)) ggX2_release_X2_laneByExitRule
set_option maxRecDepth 20000 in
theorem ggX2_release_X2_takeHeadOf : GoodIn wsX2_release wsX2_takeHeadOf := goodIn_r _ [58, 26, 14, 59, 20, 38, 60, 61, 62, 63, 30, 64, 32, 33, 65, 28, 29, 31, 39, 40, 41, 6, 42, 13, 66, 67, 68, 69, 70, 71, 72, 73, 74, 75, 76, 77, 78, 79, 80, 81, 82, 83, 84, 85, 86, 87] (by decide +kernel) (by decide +kernel)
set_option maxRecDepth 20000 in
theorem gX2_release_X2_takeHeadOf : GoodIn wsX2_release (wsV RX2 125 RX2 yX2_takeHeadOf wsX2_takeHeadOf) := goodIn_app (goodIn_of _ (by decide +kernel)) ggX2_release_X2_takeHeadOf
theorem dX2_release_0 : decode cX2_release 0 = .ok (.aload_n 0, 1) := by decide +kernel
theorem dX2_release_1 : decode cX2_release 1 = .ok (.invokevirtual 113, 3) := by decide +kernel
theorem dX2_release_4 : decode cX2_release 4 = .ok (.ifCond .eq 13, 3) := by decide +kernel
theorem dX2_release_7 : decode cX2_release 7 = .ok (.new 82, 3) := by decide +kernel
theorem dX2_release_10 : decode cX2_release 10 = .ok (.dup, 1) := by decide +kernel
theorem dX2_release_11 : decode cX2_release 11 = .ok (.ldc 117, 2) := by decide +kernel
theorem dX2_release_13 : decode cX2_release 13 = .ok (.invokespecial 86, 3) := by decide +kernel
theorem dX2_release_16 : decode cX2_release 16 = .ok (.athrow, 1) := by decide +kernel
theorem dX2_release_17 : decode cX2_release 17 = .ok (.aload_n 0, 1) := by decide +kernel
theorem dX2_release_18 : decode cX2_release 18 = .ok (.invokevirtual 119, 3) := by decide +kernel
theorem dX2_release_21 : decode cX2_release 21 = .ok (.istore_n 1, 1) := by decide +kernel
theorem dX2_release_22 : decode cX2_release 22 = .ok (.iload_n 1, 1) := by decide +kernel
theorem dX2_release_23 : decode cX2_release 23 = .ok (.iconst (-1), 1) := by decide +kernel
theorem dX2_release_24 : decode cX2_release 24 = .ok (.if_icmp .ne 13, 3) := by decide +kernel
theorem dX2_release_27 : decode cX2_release 27 = .ok (.new 82, 3) := by decide +kernel
theorem dX2_release_30 : decode cX2_release 30 = .ok (.dup, 1) := by decide +kernel
theorem dX2_release_31 : decode cX2_release 31 = .ok (.ldc 123, 2) := by decide +kernel
theorem dX2_release_33 : decode cX2_release 33 = .ok (.invokespecial 86, 3) := by decide +kernel
theorem dX2_release_36 : decode cX2_release 36 = .ok (.athrow, 1) := by decide +kernel
theorem dX2_release_37 : decode cX2_release 37 = .ok (.aload_n 0, 1) := by decide +kernel
theorem dX2_release_38 : decode cX2_release 38 = .ok (.iload_n 1, 1) := by decide +kernel
theorem dX2_release_39 : decode cX2_release 39 = .ok (.invokevirtual 125, 3) := by decide +kernel
theorem dX2_release_42 : decode cX2_release 42 = .ok (.ireturn, 1) := by decide +kernel
set_option maxRecDepth 20000 in
theorem ggX2_releaseFrom_X2_isLane : GoodIn wsX2_releaseFrom wsX2_isLane := goodIn_r _ [10, 11, 53, 54, 55, 56, 57, 58, 59, 60, 61, 62, 63, 64, 65, 66, 67, 68, 69] (by decide +kernel) (by decide +kernel)
set_option maxRecDepth 20000 in
theorem gX2_releaseFrom_X2_isLane : GoodIn wsX2_releaseFrom (wsV RX2 100 RX2 yX2_isLane wsX2_isLane) := goodIn_app (goodIn_of _ (by decide +kernel)) ggX2_releaseFrom_X2_isLane
set_option maxRecDepth 20000 in
theorem ggX2_releaseFrom_X0_isEmpty : GoodIn wsX2_releaseFrom wsX0_isEmpty := goodIn_r _ [16, 17, 70, 71] (by decide +kernel) (by decide +kernel)
set_option maxRecDepth 20000 in
theorem gX2_releaseFrom_X0_isEmpty : GoodIn wsX2_releaseFrom (wsV RX2 128 RX0 yX0_isEmpty wsX0_isEmpty) := goodIn_app (goodIn_of _ (by decide +kernel)) ggX2_releaseFrom_X0_isEmpty
set_option maxRecDepth 20000 in
theorem ggX2_releaseFrom_X2_storeIsFull : GoodIn wsX2_releaseFrom wsX2_storeIsFull := goodIn_r _ [21, 22, 23, 24, 25, 9, 26, 27, 28, 53, 54, 55, 56, 57, 58, 59, 60, 61, 62, 63, 64, 65, 66, 67, 68, 69] (by decide +kernel) (by decide +kernel)
set_option maxRecDepth 20000 in
theorem gX2_releaseFrom_X2_storeIsFull : GoodIn wsX2_releaseFrom (wsV RX2 113 RX2 yX2_storeIsFull wsX2_storeIsFull) := goodIn_app (goodIn_of _ (by decide +kernel)) ggX2_releaseFrom_X2_storeIsFull
set_option maxRecDepth 20000 in
theorem ggX2_releaseFrom_X2_takeHeadOf : GoodIn wsX2_releaseFrom wsX2_takeHeadOf := goodIn_r _ [32, 5, 28, 33, 34, 35, 36, 37, 38, 39, 15, 40, 17, 41, 42, 43, 44, 45, 46, 47, 48, 9, 49, 27, 50, 51, 52, 53, 54, 55, 56, 57, 58, 59, 60, 61, 62, 63, 64, 65, 66, 67, 68, 69, 70, 71] (by decide +kernel) (by decide +kernel)
set_option maxRecDepth 20000 in
theorem gX2_releaseFrom_X2_takeHeadOf : GoodIn wsX2_releaseFrom (wsV RX2 125 RX2 yX2_takeHeadOf wsX2_takeHeadOf) := goodIn_app (goodIn_of _ (by decide +kernel)) ggX2_releaseFrom_X2_takeHeadOf
theorem dX2_releaseFrom_0 : decode cX2_releaseFrom 0 = .ok (.aload_n 0, 1) := by decide +kernel
theorem dX2_releaseFrom_1 : decode cX2_releaseFrom 1 = .ok (.iload_n 1, 1) := by decide +kernel
theorem dX2_releaseFrom_2 : decode cX2_releaseFrom 2 = .ok (.invokevirtual 100, 3) := by decide +kernel
theorem dX2_releaseFrom_5 : decode cX2_releaseFrom 5 = .ok (.ifCond .ne 13, 3) := by decide +kernel
theorem dX2_releaseFrom_8 : decode cX2_releaseFrom 8 = .ok (.new 103, 3) := by decide +kernel
theorem dX2_releaseFrom_11 : decode cX2_releaseFrom 11 = .ok (.dup, 1) := by decide +kernel
theorem dX2_releaseFrom_12 : decode cX2_releaseFrom 12 = .ok (.ldc 105, 2) := by decide +kernel
theorem dX2_releaseFrom_14 : decode cX2_releaseFrom 14 = .ok (.invokespecial 107, 3) := by decide +kernel
theorem dX2_releaseFrom_17 : decode cX2_releaseFrom 17 = .ok (.athrow, 1) := by decide +kernel
theorem dX2_releaseFrom_18 : decode cX2_releaseFrom 18 = .ok (.aload_n 0, 1) := by decide +kernel
theorem dX2_releaseFrom_19 : decode cX2_releaseFrom 19 = .ok (.getfield 11, 3) := by decide +kernel
theorem dX2_releaseFrom_22 : decode cX2_releaseFrom 22 = .ok (.iload_n 1, 1) := by decide +kernel
theorem dX2_releaseFrom_23 : decode cX2_releaseFrom 23 = .ok (.aaload, 1) := by decide +kernel
theorem dX2_releaseFrom_24 : decode cX2_releaseFrom 24 = .ok (.invokevirtual 128, 3) := by decide +kernel
theorem dX2_releaseFrom_27 : decode cX2_releaseFrom 27 = .ok (.ifCond .eq 13, 3) := by decide +kernel
theorem dX2_releaseFrom_30 : decode cX2_releaseFrom 30 = .ok (.new 82, 3) := by decide +kernel
theorem dX2_releaseFrom_33 : decode cX2_releaseFrom 33 = .ok (.dup, 1) := by decide +kernel
theorem dX2_releaseFrom_34 : decode cX2_releaseFrom 34 = .ok (.ldc 131, 2) := by decide +kernel
theorem dX2_releaseFrom_36 : decode cX2_releaseFrom 36 = .ok (.invokespecial 86, 3) := by decide +kernel
theorem dX2_releaseFrom_39 : decode cX2_releaseFrom 39 = .ok (.athrow, 1) := by decide +kernel
theorem dX2_releaseFrom_40 : decode cX2_releaseFrom 40 = .ok (.aload_n 0, 1) := by decide +kernel
theorem dX2_releaseFrom_41 : decode cX2_releaseFrom 41 = .ok (.invokevirtual 113, 3) := by decide +kernel
theorem dX2_releaseFrom_44 : decode cX2_releaseFrom 44 = .ok (.ifCond .eq 13, 3) := by decide +kernel
theorem dX2_releaseFrom_47 : decode cX2_releaseFrom 47 = .ok (.new 82, 3) := by decide +kernel
theorem dX2_releaseFrom_50 : decode cX2_releaseFrom 50 = .ok (.dup, 1) := by decide +kernel
theorem dX2_releaseFrom_51 : decode cX2_releaseFrom 51 = .ok (.ldc 117, 2) := by decide +kernel
theorem dX2_releaseFrom_53 : decode cX2_releaseFrom 53 = .ok (.invokespecial 86, 3) := by decide +kernel
theorem dX2_releaseFrom_56 : decode cX2_releaseFrom 56 = .ok (.athrow, 1) := by decide +kernel
theorem dX2_releaseFrom_57 : decode cX2_releaseFrom 57 = .ok (.aload_n 0, 1) := by decide +kernel
theorem dX2_releaseFrom_58 : decode cX2_releaseFrom 58 = .ok (.iload_n 1, 1) := by decide +kernel
theorem dX2_releaseFrom_59 : decode cX2_releaseFrom 59 = .ok (.invokevirtual 125, 3) := by decide +kernel
theorem dX2_releaseFrom_62 : decode cX2_releaseFrom 62 = .ok (.ireturn, 1) := by decide +kernel
set_option maxRecDepth 20000 in
theorem ggX2_releaseBest_X2_storeIsFull : GoodIn wsX2_releaseBest wsX2_storeIsFull := goodIn_r _ [9, 10, 11, 12, 13, 8, 14, 15, 16, 108, 109, 110, 111, 112, 113, 114, 115, 116, 117, 118, 119, 120, 121, 122, 123, 124] (by decide +kernel) (by decide +kernel)
set_option maxRecDepth 20000 in
theorem gX2_releaseBest_X2_storeIsFull : GoodIn wsX2_releaseBest (wsV RX2 113 RX2 yX2_storeIsFull wsX2_storeIsFull) := goodIn_app (goodIn_of _ (by decide +kernel)) ggX2_releaseBest_X2_storeIsFull
set_option maxRecDepth 20000 in
theorem ggX2_releaseBest_X2_countInLanes : GoodIn wsX2_releaseBest wsX2_countInLanes := goodIn_r _ [20, 21, 22, 23, 24, 25, 26, 27, 28, 108, 109, 110, 111, 112, 113, 114, 115, 116, 117, 118, 119, 120, 121, 122, 123, 124, 125, 126] (by decide +kernel) (by decide +kernel)
set_option maxRecDepth 20000 in
theorem gX2_releaseBest_X2_countInLanes : GoodIn wsX2_releaseBest (wsV RX2 133 RX2 yX2_countInLanes wsX2_countInLanes) := goodIn_app (goodIn_of _ (by decide +kernel)) ggX2_releaseBest_X2_countInLanes
set_option maxRecDepth 20000 in
theorem ggX2_releaseBest_X2_copyLanesIntoPlan : GoodIn wsX2_releaseBest wsX2_copyLanesIntoPlan := goodIn_r _ [32, 3, 21, 22, 33, 34, 35, 36, 37, 38, 23, 24, 25, 26, 27, 28, 39, 40, 41, 42, 43, 44, 45, 46, 8, 47, 48, 49, 50, 51, 52, 15, 53, 54, 55, 56, 57, 108, 109, 110, 111, 112, 113, 114, 115, 116, 117, 118, 119, 120, 121, 122, 123, 124, 127, 128, 129, 130, 131, 132, 125, 126] (by decide +kernel) (by decide +kernel)
set_option maxRecDepth 20000 in
theorem gX2_releaseBest_X2_copyLanesIntoPlan : GoodIn wsX2_releaseBest (wsV RX2 138 RX2 yX2_copyLanesIntoPlan wsX2_copyLanesIntoPlan) := goodIn_app (goodIn_of _ (by decide +kernel)) ggX2_releaseBest_X2_copyLanesIntoPlan
set_option maxRecDepth 20000 in
theorem ggX2_releaseBest_X1_bestLane : GoodIn wsX2_releaseBest wsX1_bestLane := goodIn_r _ [61, 38, 62, 63, 64, 36, 65, 66, 67, 68, 69, 70, 71, 72, 73, 74, 75, 76, 77, 78, 79, 57, 80, 81, 82, 83, 84, 85, 86, 87, 88, 89, 90, 91, 92, 93, 94, 8, 95, 127, 128, 129, 130, 131, 132] (by decide +kernel) (by decide +kernel)
set_option maxRecDepth 20000 in
theorem gX2_releaseBest_X1_bestLane : GoodIn wsX2_releaseBest (wsV RX2 141 RX1 yX1_bestLane wsX1_bestLane) := goodIn_app (goodIn_of _ (by decide +kernel)) ggX2_releaseBest_X1_bestLane
set_option maxRecDepth 20000 in
theorem ggX2_releaseBest_X2_takeHeadOf : GoodIn wsX2_releaseBest wsX2_takeHeadOf := goodIn_r _ [99, 22, 16, 100, 4, 48, 101, 102, 103, 104, 26, 105, 28, 43, 106, 40, 41, 42, 49, 50, 51, 8, 52, 15, 107, 94, 95, 108, 109, 110, 111, 112, 113, 114, 115, 116, 117, 118, 119, 120, 121, 122, 123, 124, 125, 126] (by decide +kernel) (by decide +kernel)
set_option maxRecDepth 20000 in
theorem gX2_releaseBest_X2_takeHeadOf : GoodIn wsX2_releaseBest (wsV RX2 125 RX2 yX2_takeHeadOf wsX2_takeHeadOf) := goodIn_app (goodIn_of _ (by decide +kernel)) ggX2_releaseBest_X2_takeHeadOf
theorem dX2_releaseBest_0 : decode cX2_releaseBest 0 = .ok (.aload_n 0, 1) := by decide +kernel
theorem dX2_releaseBest_1 : decode cX2_releaseBest 1 = .ok (.invokevirtual 113, 3) := by decide +kernel
theorem dX2_releaseBest_4 : decode cX2_releaseBest 4 = .ok (.ifCond .eq 13, 3) := by decide +kernel
theorem dX2_releaseBest_7 : decode cX2_releaseBest 7 = .ok (.new 82, 3) := by decide +kernel
theorem dX2_releaseBest_10 : decode cX2_releaseBest 10 = .ok (.dup, 1) := by decide +kernel
theorem dX2_releaseBest_11 : decode cX2_releaseBest 11 = .ok (.ldc 117, 2) := by decide +kernel
theorem dX2_releaseBest_13 : decode cX2_releaseBest 13 = .ok (.invokespecial 86, 3) := by decide +kernel
theorem dX2_releaseBest_16 : decode cX2_releaseBest 16 = .ok (.athrow, 1) := by decide +kernel
theorem dX2_releaseBest_17 : decode cX2_releaseBest 17 = .ok (.aload_n 0, 1) := by decide +kernel
theorem dX2_releaseBest_18 : decode cX2_releaseBest 18 = .ok (.invokevirtual 133, 3) := by decide +kernel
theorem dX2_releaseBest_21 : decode cX2_releaseBest 21 = .ok (.bipush 12, 2) := by decide +kernel
theorem dX2_releaseBest_23 : decode cX2_releaseBest 23 = .ok (.if_icmp .le 13, 3) := by decide +kernel
theorem dX2_releaseBest_26 : decode cX2_releaseBest 26 = .ok (.new 82, 3) := by decide +kernel
theorem dX2_releaseBest_29 : decode cX2_releaseBest 29 = .ok (.dup, 1) := by decide +kernel
theorem dX2_releaseBest_30 : decode cX2_releaseBest 30 = .ok (.ldc 136, 2) := by decide +kernel
theorem dX2_releaseBest_32 : decode cX2_releaseBest 32 = .ok (.invokespecial 86, 3) := by decide +kernel
theorem dX2_releaseBest_35 : decode cX2_releaseBest 35 = .ok (.athrow, 1) := by decide +kernel
theorem dX2_releaseBest_36 : decode cX2_releaseBest 36 = .ok (.aload_n 0, 1) := by decide +kernel
theorem dX2_releaseBest_37 : decode cX2_releaseBest 37 = .ok (.invokevirtual 138, 3) := by decide +kernel
theorem dX2_releaseBest_40 : decode cX2_releaseBest 40 = .ok (.aload_n 0, 1) := by decide +kernel
theorem dX2_releaseBest_41 : decode cX2_releaseBest 41 = .ok (.getfield 32, 3) := by decide +kernel
theorem dX2_releaseBest_44 : decode cX2_releaseBest 44 = .ok (.aload_n 0, 1) := by decide +kernel
theorem dX2_releaseBest_45 : decode cX2_releaseBest 45 = .ok (.getfield 46, 3) := by decide +kernel
theorem dX2_releaseBest_48 : decode cX2_releaseBest 48 = .ok (.invokevirtual 141, 3) := by decide +kernel
theorem dX2_releaseBest_51 : decode cX2_releaseBest 51 = .ok (.istore_n 1, 1) := by decide +kernel
theorem dX2_releaseBest_52 : decode cX2_releaseBest 52 = .ok (.iload_n 1, 1) := by decide +kernel
theorem dX2_releaseBest_53 : decode cX2_releaseBest 53 = .ok (.iconst (-1), 1) := by decide +kernel
theorem dX2_releaseBest_54 : decode cX2_releaseBest 54 = .ok (.if_icmp .ne 13, 3) := by decide +kernel
theorem dX2_releaseBest_57 : decode cX2_releaseBest 57 = .ok (.new 82, 3) := by decide +kernel
theorem dX2_releaseBest_60 : decode cX2_releaseBest 60 = .ok (.dup, 1) := by decide +kernel
theorem dX2_releaseBest_61 : decode cX2_releaseBest 61 = .ok (.ldc 123, 2) := by decide +kernel
theorem dX2_releaseBest_63 : decode cX2_releaseBest 63 = .ok (.invokespecial 86, 3) := by decide +kernel
theorem dX2_releaseBest_66 : decode cX2_releaseBest 66 = .ok (.athrow, 1) := by decide +kernel
theorem dX2_releaseBest_67 : decode cX2_releaseBest 67 = .ok (.aload_n 0, 1) := by decide +kernel
theorem dX2_releaseBest_68 : decode cX2_releaseBest 68 = .ok (.iload_n 1, 1) := by decide +kernel
theorem dX2_releaseBest_69 : decode cX2_releaseBest 69 = .ok (.invokevirtual 125, 3) := by decide +kernel
theorem dX2_releaseBest_72 : decode cX2_releaseBest 72 = .ok (.ireturn, 1) := by decide +kernel
set_option maxRecDepth 20000 in
theorem ggX2_sendBack_X2_isBody : GoodIn wsX2_sendBack wsX2_isBody := goodIn_r _ [10, 11, 16, 17, 18, 19, 20, 21, 22, 23, 24, 25, 26, 27, 28, 29, 30, 31, 32] (by decide +kernel) (by decide +kernel)
set_option maxRecDepth 20000 in
theorem gX2_sendBack_X2_isBody : GoodIn wsX2_sendBack (wsV RX2 144 RX2 yX2_isBody wsX2_isBody) := goodIn_app (goodIn_of _ (by decide +kernel)) ggX2_sendBack_X2_isBody
set_option maxRecDepth 20000 in
theorem ggX2_sendBack_X2_countAt : GoodIn wsX2_sendBack wsX2_countAt := goodIn_r _ [15, 11, 5, 16, 17, 18, 19, 20, 21, 22, 23, 24, 25, 26, 27, 28, 29, 30, 31, 32] (by decide +kernel) (by decide +kernel)
set_option maxRecDepth 20000 in
theorem gX2_sendBack_X2_countAt : GoodIn wsX2_sendBack (wsV RX2 151 RX2 yX2_countAt wsX2_countAt) := goodIn_app (goodIn_of _ (by decide +kernel)) ggX2_sendBack_X2_countAt
theorem dX2_sendBack_0 : decode cX2_sendBack 0 = .ok (.aload_n 0, 1) := by decide +kernel
theorem dX2_sendBack_1 : decode cX2_sendBack 1 = .ok (.iload_n 1, 1) := by decide +kernel
theorem dX2_sendBack_2 : decode cX2_sendBack 2 = .ok (.invokevirtual 144, 3) := by decide +kernel
theorem dX2_sendBack_5 : decode cX2_sendBack 5 = .ok (.ifCond .ne 13, 3) := by decide +kernel
theorem dX2_sendBack_8 : decode cX2_sendBack 8 = .ok (.new 103, 3) := by decide +kernel
theorem dX2_sendBack_11 : decode cX2_sendBack 11 = .ok (.dup, 1) := by decide +kernel
theorem dX2_sendBack_12 : decode cX2_sendBack 12 = .ok (.ldc 147, 2) := by decide +kernel
theorem dX2_sendBack_14 : decode cX2_sendBack 14 = .ok (.invokespecial 107, 3) := by decide +kernel
theorem dX2_sendBack_17 : decode cX2_sendBack 17 = .ok (.athrow, 1) := by decide +kernel
theorem dX2_sendBack_18 : decode cX2_sendBack 18 = .ok (.aload_n 0, 1) := by decide +kernel
theorem dX2_sendBack_19 : decode cX2_sendBack 19 = .ok (.getfield 20, 3) := by decide +kernel
theorem dX2_sendBack_22 : decode cX2_sendBack 22 = .ok (.iload_n 1, 1) := by decide +kernel
theorem dX2_sendBack_23 : decode cX2_sendBack 23 = .ok (.iaload, 1) := by decide +kernel
theorem dX2_sendBack_24 : decode cX2_sendBack 24 = .ok (.bipush 10, 2) := by decide +kernel
theorem dX2_sendBack_26 : decode cX2_sendBack 26 = .ok (.if_icmp .eq 13, 3) := by decide +kernel
theorem dX2_sendBack_29 : decode cX2_sendBack 29 = .ok (.new 82, 3) := by decide +kernel
theorem dX2_sendBack_32 : decode cX2_sendBack 32 = .ok (.dup, 1) := by decide +kernel
theorem dX2_sendBack_33 : decode cX2_sendBack 33 = .ok (.ldc 149, 2) := by decide +kernel
theorem dX2_sendBack_35 : decode cX2_sendBack 35 = .ok (.invokespecial 86, 3) := by decide +kernel
theorem dX2_sendBack_38 : decode cX2_sendBack 38 = .ok (.athrow, 1) := by decide +kernel
theorem dX2_sendBack_39 : decode cX2_sendBack 39 = .ok (.aload_n 0, 1) := by decide +kernel
theorem dX2_sendBack_40 : decode cX2_sendBack 40 = .ok (.getfield 20, 3) := by decide +kernel
theorem dX2_sendBack_43 : decode cX2_sendBack 43 = .ok (.iload_n 1, 1) := by decide +kernel
theorem dX2_sendBack_44 : decode cX2_sendBack 44 = .ok (.bipush 11, 2) := by decide +kernel
theorem dX2_sendBack_46 : decode cX2_sendBack 46 = .ok (.iastore, 1) := by decide +kernel
theorem dX2_sendBack_47 : decode cX2_sendBack 47 = .ok (.aload_n 0, 1) := by decide +kernel
theorem dX2_sendBack_48 : decode cX2_sendBack 48 = .ok (.bipush 11, 2) := by decide +kernel
theorem dX2_sendBack_50 : decode cX2_sendBack 50 = .ok (.invokevirtual 151, 3) := by decide +kernel
theorem dX2_sendBack_53 : decode cX2_sendBack 53 = .ok (.ireturn, 1) := by decide +kernel
set_option maxRecDepth 20000 in
theorem ggX2_reenter_X2_isBody : GoodIn wsX2_reenter wsX2_isBody := goodIn_r _ [11, 12, 69, 70, 71, 72, 73, 74, 75, 76, 77, 78, 79, 80, 81, 82, 83, 84, 85] (by decide +kernel) (by decide +kernel)
set_option maxRecDepth 20000 in
theorem gX2_reenter_X2_isBody : GoodIn wsX2_reenter (wsV RX2 144 RX2 yX2_isBody wsX2_isBody) := goodIn_app (goodIn_of _ (by decide +kernel)) ggX2_reenter_X2_isBody
set_option maxRecDepth 20000 in
theorem ggX2_reenter_X2_laneByEntryRule : GoodIn wsX2_reenter wsX2_laneByEntryRule := goodIn_r _ [16, 17, 18, 19, 20, 10, 21, 22, 23, 24, 25, 26, 27, 28, 29, 30, 31, 32, 33, 34, 35, 36, 37, 38, 39, 40, 41, 42, 43, 44, 45, 46, 47, 6, 7, 8, 9, 11, 12, 48, 49, 50, 51, 52, 53, 54, 55, 56, 57, 58, 59, 60, 69, 70, 71, 72, 73, 74, 75, 76, 77, 78, 79, 80, 81, 82, 83, 84, 85, 86, 87] (by decide +kernel) (by decide +kernel)
set_option maxRecDepth 20000 in
theorem gX2_reenter_X2_laneByEntryRule : GoodIn wsX2_reenter (wsV RX2 87 RX2 yX2_laneByEntryRule wsX2_laneByEntryRule) := goodIn_app (goodIn_of _ (by decide +kernel)) ggX2_reenter_X2_laneByEntryRule
set_option maxRecDepth 20000 in
theorem ggX2_reenter_X2_putInto : GoodIn wsX2_reenter wsX2_putInto := goodIn_r _ [64, 23, 5, 52, 65, 66, 67, 32, 68, 34, 43, 53, 54, 55, 10, 56, 22, 69, 70, 71, 72, 73, 74, 75, 76, 77, 78, 79, 80, 81, 82, 83, 84, 85, 86, 87] (by decide +kernel) (by decide +kernel)
set_option maxRecDepth 20000 in
theorem gX2_reenter_X2_putInto : GoodIn wsX2_reenter (wsV RX2 96 RX2 yX2_putInto wsX2_putInto) := goodIn_app (goodIn_of _ (by decide +kernel)) ggX2_reenter_X2_putInto
theorem dX2_reenter_0 : decode cX2_reenter 0 = .ok (.aload_n 0, 1) := by decide +kernel
theorem dX2_reenter_1 : decode cX2_reenter 1 = .ok (.iload_n 1, 1) := by decide +kernel
theorem dX2_reenter_2 : decode cX2_reenter 2 = .ok (.invokevirtual 144, 3) := by decide +kernel
theorem dX2_reenter_5 : decode cX2_reenter 5 = .ok (.ifCond .ne 13, 3) := by decide +kernel
theorem dX2_reenter_8 : decode cX2_reenter 8 = .ok (.new 103, 3) := by decide +kernel
theorem dX2_reenter_11 : decode cX2_reenter 11 = .ok (.dup, 1) := by decide +kernel
theorem dX2_reenter_12 : decode cX2_reenter 12 = .ok (.ldc 147, 2) := by decide +kernel
theorem dX2_reenter_14 : decode cX2_reenter 14 = .ok (.invokespecial 107, 3) := by decide +kernel
theorem dX2_reenter_17 : decode cX2_reenter 17 = .ok (.athrow, 1) := by decide +kernel
theorem dX2_reenter_18 : decode cX2_reenter 18 = .ok (.aload_n 0, 1) := by decide +kernel
theorem dX2_reenter_19 : decode cX2_reenter 19 = .ok (.getfield 20, 3) := by decide +kernel
theorem dX2_reenter_22 : decode cX2_reenter 22 = .ok (.iload_n 1, 1) := by decide +kernel
theorem dX2_reenter_23 : decode cX2_reenter 23 = .ok (.iaload, 1) := by decide +kernel
theorem dX2_reenter_24 : decode cX2_reenter 24 = .ok (.bipush 11, 2) := by decide +kernel
theorem dX2_reenter_26 : decode cX2_reenter 26 = .ok (.if_icmp .eq 13, 3) := by decide +kernel
theorem dX2_reenter_29 : decode cX2_reenter 29 = .ok (.new 82, 3) := by decide +kernel
theorem dX2_reenter_32 : decode cX2_reenter 32 = .ok (.dup, 1) := by decide +kernel
theorem dX2_reenter_33 : decode cX2_reenter 33 = .ok (.ldc 154, 2) := by decide +kernel
theorem dX2_reenter_35 : decode cX2_reenter 35 = .ok (.invokespecial 86, 3) := by decide +kernel
theorem dX2_reenter_38 : decode cX2_reenter 38 = .ok (.athrow, 1) := by decide +kernel
theorem dX2_reenter_39 : decode cX2_reenter 39 = .ok (.aload_n 0, 1) := by decide +kernel
theorem dX2_reenter_40 : decode cX2_reenter 40 = .ok (.aload_n 0, 1) := by decide +kernel
theorem dX2_reenter_41 : decode cX2_reenter 41 = .ok (.getfield 16, 3) := by decide +kernel
theorem dX2_reenter_44 : decode cX2_reenter 44 = .ok (.iload_n 1, 1) := by decide +kernel
theorem dX2_reenter_45 : decode cX2_reenter 45 = .ok (.iaload, 1) := by decide +kernel
theorem dX2_reenter_46 : decode cX2_reenter 46 = .ok (.invokevirtual 87, 3) := by decide +kernel
theorem dX2_reenter_49 : decode cX2_reenter 49 = .ok (.istore_n 2, 1) := by decide +kernel
theorem dX2_reenter_50 : decode cX2_reenter 50 = .ok (.iload_n 2, 1) := by decide +kernel
theorem dX2_reenter_51 : decode cX2_reenter 51 = .ok (.iconst (-1), 1) := by decide +kernel
theorem dX2_reenter_52 : decode cX2_reenter 52 = .ok (.if_icmp .ne 13, 3) := by decide +kernel
theorem dX2_reenter_55 : decode cX2_reenter 55 = .ok (.new 82, 3) := by decide +kernel
theorem dX2_reenter_58 : decode cX2_reenter 58 = .ok (.dup, 1) := by decide +kernel
theorem dX2_reenter_59 : decode cX2_reenter 59 = .ok (.ldc 91, 2) := by decide +kernel
theorem dX2_reenter_61 : decode cX2_reenter 61 = .ok (.invokespecial 86, 3) := by decide +kernel
theorem dX2_reenter_64 : decode cX2_reenter 64 = .ok (.athrow, 1) := by decide +kernel
theorem dX2_reenter_65 : decode cX2_reenter 65 = .ok (.aload_n 0, 1) := by decide +kernel
theorem dX2_reenter_66 : decode cX2_reenter 66 = .ok (.iload_n 2, 1) := by decide +kernel
theorem dX2_reenter_67 : decode cX2_reenter 67 = .ok (.iload_n 1, 1) := by decide +kernel
theorem dX2_reenter_68 : decode cX2_reenter 68 = .ok (.invokevirtual 96, 3) := by decide +kernel
theorem dX2_reenter_71 : decode cX2_reenter 71 = .ok (.iload_n 2, 1) := by decide +kernel
theorem dX2_reenter_72 : decode cX2_reenter 72 = .ok (.ireturn, 1) := by decide +kernel
set_option maxRecDepth 20000 in
theorem ggX2_assemble_X2_lowestInStore : GoodIn wsX2_assemble wsX2_lowestInStore := goodIn_r _ [11, 12, 3, 13, 14, 15, 16, 17, 18, 19, 20, 21, 22, 23, 24, 25, 26, 27, 28, 29] (by decide +kernel) (by decide +kernel)
set_option maxRecDepth 20000 in
theorem gX2_assemble_X2_lowestInStore : GoodIn wsX2_assemble (wsV RX2 156 RX2 yX2_lowestInStore wsX2_lowestInStore) := goodIn_app (goodIn_of _ (by decide +kernel)) ggX2_assemble_X2_lowestInStore
theorem dX2_assemble_0 : decode cX2_assemble 0 = .ok (.aload_n 0, 1) := by decide +kernel
theorem dX2_assemble_1 : decode cX2_assemble 1 = .ok (.invokevirtual 156, 3) := by decide +kernel
theorem dX2_assemble_4 : decode cX2_assemble 4 = .ok (.istore_n 1, 1) := by decide +kernel
theorem dX2_assemble_5 : decode cX2_assemble 5 = .ok (.iload_n 1, 1) := by decide +kernel
theorem dX2_assemble_6 : decode cX2_assemble 6 = .ok (.iconst (-1), 1) := by decide +kernel
theorem dX2_assemble_7 : decode cX2_assemble 7 = .ok (.if_icmp .ne 13, 3) := by decide +kernel
theorem dX2_assemble_10 : decode cX2_assemble 10 = .ok (.new 82, 3) := by decide +kernel
theorem dX2_assemble_13 : decode cX2_assemble 13 = .ok (.dup, 1) := by decide +kernel
theorem dX2_assemble_14 : decode cX2_assemble 14 = .ok (.ldc 159, 2) := by decide +kernel
theorem dX2_assemble_16 : decode cX2_assemble 16 = .ok (.invokespecial 86, 3) := by decide +kernel
theorem dX2_assemble_19 : decode cX2_assemble 19 = .ok (.athrow, 1) := by decide +kernel
theorem dX2_assemble_20 : decode cX2_assemble 20 = .ok (.aload_n 0, 1) := by decide +kernel
theorem dX2_assemble_21 : decode cX2_assemble 21 = .ok (.getfield 20, 3) := by decide +kernel
theorem dX2_assemble_24 : decode cX2_assemble 24 = .ok (.iload_n 1, 1) := by decide +kernel
theorem dX2_assemble_25 : decode cX2_assemble 25 = .ok (.bipush 12, 2) := by decide +kernel
theorem dX2_assemble_27 : decode cX2_assemble 27 = .ok (.iastore, 1) := by decide +kernel
theorem dX2_assemble_28 : decode cX2_assemble 28 = .ok (.aload_n 0, 1) := by decide +kernel
theorem dX2_assemble_29 : decode cX2_assemble 29 = .ok (.getfield 23, 3) := by decide +kernel
theorem dX2_assemble_32 : decode cX2_assemble 32 = .ok (.iload_n 1, 1) := by decide +kernel
theorem dX2_assemble_33 : decode cX2_assemble 33 = .ok (.aload_n 0, 1) := by decide +kernel
theorem dX2_assemble_34 : decode cX2_assemble 34 = .ok (.getfield 161, 3) := by decide +kernel
theorem dX2_assemble_37 : decode cX2_assemble 37 = .ok (.iastore, 1) := by decide +kernel
theorem dX2_assemble_38 : decode cX2_assemble 38 = .ok (.aload_n 0, 1) := by decide +kernel
theorem dX2_assemble_39 : decode cX2_assemble 39 = .ok (.getfield 26, 3) := by decide +kernel
theorem dX2_assemble_42 : decode cX2_assemble 42 = .ok (.aload_n 0, 1) := by decide +kernel
theorem dX2_assemble_43 : decode cX2_assemble 43 = .ok (.getfield 161, 3) := by decide +kernel
theorem dX2_assemble_46 : decode cX2_assemble 46 = .ok (.iload_n 1, 1) := by decide +kernel
theorem dX2_assemble_47 : decode cX2_assemble 47 = .ok (.iastore, 1) := by decide +kernel
theorem dX2_assemble_48 : decode cX2_assemble 48 = .ok (.aload_n 0, 1) := by decide +kernel
theorem dX2_assemble_49 : decode cX2_assemble 49 = .ok (.dup, 1) := by decide +kernel
theorem dX2_assemble_50 : decode cX2_assemble 50 = .ok (.getfield 161, 3) := by decide +kernel
theorem dX2_assemble_53 : decode cX2_assemble 53 = .ok (.iconst 1, 1) := by decide +kernel
theorem dX2_assemble_54 : decode cX2_assemble 54 = .ok (.iadd, 1) := by decide +kernel
theorem dX2_assemble_55 : decode cX2_assemble 55 = .ok (.putfield 161, 3) := by decide +kernel
theorem dX2_assemble_58 : decode cX2_assemble 58 = .ok (.iload_n 1, 1) := by decide +kernel
theorem dX2_assemble_59 : decode cX2_assemble 59 = .ok (.ireturn, 1) := by decide +kernel
theorem dX2_bodies_0 : decode cX2_bodies 0 = .ok (.aload_n 0, 1) := by decide +kernel
theorem dX2_bodies_1 : decode cX2_bodies 1 = .ok (.getfield 60, 3) := by decide +kernel
theorem dX2_bodies_4 : decode cX2_bodies 4 = .ok (.ireturn, 1) := by decide +kernel
set_option maxRecDepth 20000 in
theorem ggX2_colour_X2_isBody : GoodIn wsX2_colour wsX2_isBody := goodIn_r _ [8, 9, 10, 11, 12, 13, 14, 15, 16, 17, 18, 19, 20, 21, 22, 23, 24, 25, 26] (by decide +kernel) (by decide +kernel)
set_option maxRecDepth 20000 in
theorem gX2_colour_X2_isBody : GoodIn wsX2_colour (wsV RX2 144 RX2 yX2_isBody wsX2_isBody) := goodIn_app (goodIn_of _ (by decide +kernel)) ggX2_colour_X2_isBody
theorem dX2_colour_0 : decode cX2_colour 0 = .ok (.aload_n 0, 1) := by decide +kernel
theorem dX2_colour_1 : decode cX2_colour 1 = .ok (.iload_n 1, 1) := by decide +kernel
theorem dX2_colour_2 : decode cX2_colour 2 = .ok (.invokevirtual 144, 3) := by decide +kernel
theorem dX2_colour_5 : decode cX2_colour 5 = .ok (.ifCond .ne 13, 3) := by decide +kernel
theorem dX2_colour_8 : decode cX2_colour 8 = .ok (.new 103, 3) := by decide +kernel
theorem dX2_colour_11 : decode cX2_colour 11 = .ok (.dup, 1) := by decide +kernel
theorem dX2_colour_12 : decode cX2_colour 12 = .ok (.ldc 147, 2) := by decide +kernel
theorem dX2_colour_14 : decode cX2_colour 14 = .ok (.invokespecial 107, 3) := by decide +kernel
theorem dX2_colour_17 : decode cX2_colour 17 = .ok (.athrow, 1) := by decide +kernel
theorem dX2_colour_18 : decode cX2_colour 18 = .ok (.aload_n 0, 1) := by decide +kernel
theorem dX2_colour_19 : decode cX2_colour 19 = .ok (.getfield 16, 3) := by decide +kernel
theorem dX2_colour_22 : decode cX2_colour 22 = .ok (.iload_n 1, 1) := by decide +kernel
theorem dX2_colour_23 : decode cX2_colour 23 = .ok (.iaload, 1) := by decide +kernel
theorem dX2_colour_24 : decode cX2_colour 24 = .ok (.ireturn, 1) := by decide +kernel
set_option maxRecDepth 20000 in
theorem ggX2_where_X2_isBody : GoodIn wsX2_where wsX2_isBody := goodIn_r _ [8, 9, 10, 11, 12, 13, 14, 15, 16, 17, 18, 19, 20, 21, 22, 23, 24, 25, 26] (by decide +kernel) (by decide +kernel)
set_option maxRecDepth 20000 in
theorem gX2_where_X2_isBody : GoodIn wsX2_where (wsV RX2 144 RX2 yX2_isBody wsX2_isBody) := goodIn_app (goodIn_of _ (by decide +kernel)) ggX2_where_X2_isBody
theorem dX2_where_0 : decode cX2_where 0 = .ok (.aload_n 0, 1) := by decide +kernel
theorem dX2_where_1 : decode cX2_where 1 = .ok (.iload_n 1, 1) := by decide +kernel
theorem dX2_where_2 : decode cX2_where 2 = .ok (.invokevirtual 144, 3) := by decide +kernel
theorem dX2_where_5 : decode cX2_where 5 = .ok (.ifCond .ne 13, 3) := by decide +kernel
theorem dX2_where_8 : decode cX2_where 8 = .ok (.new 103, 3) := by decide +kernel
theorem dX2_where_11 : decode cX2_where 11 = .ok (.dup, 1) := by decide +kernel
theorem dX2_where_12 : decode cX2_where 12 = .ok (.ldc 147, 2) := by decide +kernel
theorem dX2_where_14 : decode cX2_where 14 = .ok (.invokespecial 107, 3) := by decide +kernel
theorem dX2_where_17 : decode cX2_where 17 = .ok (.athrow, 1) := by decide +kernel
theorem dX2_where_18 : decode cX2_where 18 = .ok (.aload_n 0, 1) := by decide +kernel
theorem dX2_where_19 : decode cX2_where 19 = .ok (.getfield 20, 3) := by decide +kernel
theorem dX2_where_22 : decode cX2_where 22 = .ok (.iload_n 1, 1) := by decide +kernel
theorem dX2_where_23 : decode cX2_where 23 = .ok (.iaload, 1) := by decide +kernel
theorem dX2_where_24 : decode cX2_where 24 = .ok (.ireturn, 1) := by decide +kernel
set_option maxRecDepth 20000 in
theorem ggX2_inLane_X2_isLane : GoodIn wsX2_inLane wsX2_isLane := goodIn_r _ [8, 9, 16, 17, 18, 19, 20, 21, 22, 23, 24, 25, 26, 27, 28, 29, 30, 31, 32] (by decide +kernel) (by decide +kernel)
set_option maxRecDepth 20000 in
theorem gX2_inLane_X2_isLane : GoodIn wsX2_inLane (wsV RX2 100 RX2 yX2_isLane wsX2_isLane) := goodIn_app (goodIn_of _ (by decide +kernel)) ggX2_inLane_X2_isLane
set_option maxRecDepth 20000 in
theorem ggX2_inLane_X0_count : GoodIn wsX2_inLane wsX0_count := goodIn_r _ [14, 15, 33, 34] (by decide +kernel) (by decide +kernel)
set_option maxRecDepth 20000 in
theorem gX2_inLane_X0_count : GoodIn wsX2_inLane (wsV RX2 164 RX0 yX0_count wsX0_count) := goodIn_app (goodIn_of _ (by decide +kernel)) ggX2_inLane_X0_count
theorem dX2_inLane_0 : decode cX2_inLane 0 = .ok (.aload_n 0, 1) := by decide +kernel
theorem dX2_inLane_1 : decode cX2_inLane 1 = .ok (.iload_n 1, 1) := by decide +kernel
theorem dX2_inLane_2 : decode cX2_inLane 2 = .ok (.invokevirtual 100, 3) := by decide +kernel
theorem dX2_inLane_5 : decode cX2_inLane 5 = .ok (.ifCond .ne 13, 3) := by decide +kernel
theorem dX2_inLane_8 : decode cX2_inLane 8 = .ok (.new 103, 3) := by decide +kernel
theorem dX2_inLane_11 : decode cX2_inLane 11 = .ok (.dup, 1) := by decide +kernel
theorem dX2_inLane_12 : decode cX2_inLane 12 = .ok (.ldc 105, 2) := by decide +kernel
theorem dX2_inLane_14 : decode cX2_inLane 14 = .ok (.invokespecial 107, 3) := by decide +kernel
theorem dX2_inLane_17 : decode cX2_inLane 17 = .ok (.athrow, 1) := by decide +kernel
theorem dX2_inLane_18 : decode cX2_inLane 18 = .ok (.aload_n 0, 1) := by decide +kernel
theorem dX2_inLane_19 : decode cX2_inLane 19 = .ok (.getfield 11, 3) := by decide +kernel
theorem dX2_inLane_22 : decode cX2_inLane 22 = .ok (.iload_n 1, 1) := by decide +kernel
theorem dX2_inLane_23 : decode cX2_inLane 23 = .ok (.aaload, 1) := by decide +kernel
theorem dX2_inLane_24 : decode cX2_inLane 24 = .ok (.invokevirtual 164, 3) := by decide +kernel
theorem dX2_inLane_27 : decode cX2_inLane 27 = .ok (.ireturn, 1) := by decide +kernel
set_option maxRecDepth 20000 in
theorem ggX2_bodyAt_X2_isLane : GoodIn wsX2_bodyAt wsX2_isLane := goodIn_r _ [8, 9, 17, 18, 19, 20, 21, 22, 23, 24, 25, 26, 27, 28, 29, 30, 31, 32, 33] (by decide +kernel) (by decide +kernel)
set_option maxRecDepth 20000 in
theorem gX2_bodyAt_X2_isLane : GoodIn wsX2_bodyAt (wsV RX2 100 RX2 yX2_isLane wsX2_isLane) := goodIn_app (goodIn_of _ (by decide +kernel)) ggX2_bodyAt_X2_isLane
set_option maxRecDepth 20000 in
theorem ggX2_bodyAt_X0_at : GoodIn wsX2_bodyAt wsX0_at := goodIn_r _ [14, 15, 16, 34, 35] (by decide +kernel) (by decide +kernel)
set_option maxRecDepth 20000 in
theorem gX2_bodyAt_X0_at : GoodIn wsX2_bodyAt (wsV RX2 167 RX0 yX0_at wsX0_at) := goodIn_app (goodIn_of _ (by decide +kernel)) ggX2_bodyAt_X0_at
theorem dX2_bodyAt_0 : decode cX2_bodyAt 0 = .ok (.aload_n 0, 1) := by decide +kernel
theorem dX2_bodyAt_1 : decode cX2_bodyAt 1 = .ok (.iload_n 1, 1) := by decide +kernel
theorem dX2_bodyAt_2 : decode cX2_bodyAt 2 = .ok (.invokevirtual 100, 3) := by decide +kernel
theorem dX2_bodyAt_5 : decode cX2_bodyAt 5 = .ok (.ifCond .ne 13, 3) := by decide +kernel
theorem dX2_bodyAt_8 : decode cX2_bodyAt 8 = .ok (.new 103, 3) := by decide +kernel
theorem dX2_bodyAt_11 : decode cX2_bodyAt 11 = .ok (.dup, 1) := by decide +kernel
theorem dX2_bodyAt_12 : decode cX2_bodyAt 12 = .ok (.ldc 105, 2) := by decide +kernel
theorem dX2_bodyAt_14 : decode cX2_bodyAt 14 = .ok (.invokespecial 107, 3) := by decide +kernel
theorem dX2_bodyAt_17 : decode cX2_bodyAt 17 = .ok (.athrow, 1) := by decide +kernel
theorem dX2_bodyAt_18 : decode cX2_bodyAt 18 = .ok (.aload_n 0, 1) := by decide +kernel
theorem dX2_bodyAt_19 : decode cX2_bodyAt 19 = .ok (.getfield 11, 3) := by decide +kernel
theorem dX2_bodyAt_22 : decode cX2_bodyAt 22 = .ok (.iload_n 1, 1) := by decide +kernel
theorem dX2_bodyAt_23 : decode cX2_bodyAt 23 = .ok (.aaload, 1) := by decide +kernel
theorem dX2_bodyAt_24 : decode cX2_bodyAt 24 = .ok (.iload_n 2, 1) := by decide +kernel
theorem dX2_bodyAt_25 : decode cX2_bodyAt 25 = .ok (.invokevirtual 167, 3) := by decide +kernel
theorem dX2_bodyAt_28 : decode cX2_bodyAt 28 = .ok (.istore_n 3, 1) := by decide +kernel
theorem dX2_bodyAt_29 : decode cX2_bodyAt 29 = .ok (.iload_n 3, 1) := by decide +kernel
theorem dX2_bodyAt_30 : decode cX2_bodyAt 30 = .ok (.iconst (-1), 1) := by decide +kernel
theorem dX2_bodyAt_31 : decode cX2_bodyAt 31 = .ok (.if_icmp .ne 13, 3) := by decide +kernel
theorem dX2_bodyAt_34 : decode cX2_bodyAt 34 = .ok (.new 103, 3) := by decide +kernel
theorem dX2_bodyAt_37 : decode cX2_bodyAt 37 = .ok (.dup, 1) := by decide +kernel
theorem dX2_bodyAt_38 : decode cX2_bodyAt 38 = .ok (.ldc 170, 2) := by decide +kernel
theorem dX2_bodyAt_40 : decode cX2_bodyAt 40 = .ok (.invokespecial 107, 3) := by decide +kernel
theorem dX2_bodyAt_43 : decode cX2_bodyAt 43 = .ok (.athrow, 1) := by decide +kernel
theorem dX2_bodyAt_44 : decode cX2_bodyAt 44 = .ok (.iload_n 3, 1) := by decide +kernel
theorem dX2_bodyAt_45 : decode cX2_bodyAt 45 = .ok (.ireturn, 1) := by decide +kernel
set_option maxRecDepth 20000 in
theorem ggX2_block_X2_isLane : GoodIn wsX2_block wsX2_isLane := goodIn_r _ [7, 8, 35, 36, 37, 38, 39, 40, 41, 42, 43, 44, 45, 46, 47, 48, 49, 50, 51] (by decide +kernel) (by decide +kernel)
set_option maxRecDepth 20000 in
theorem gX2_block_X2_isLane : GoodIn wsX2_block (wsV RX2 100 RX2 yX2_isLane wsX2_isLane) := goodIn_app (goodIn_of _ (by decide +kernel)) ggX2_block_X2_isLane
set_option maxRecDepth 20000 in
theorem ggX2_block_X2_blockOf : GoodIn wsX2_block wsX2_blockOf := goodIn_r _ [12, 13, 14, 15, 16, 17, 18, 19, 20, 21, 22, 23, 24, 25, 26, 27, 6, 28, 29, 30, 31, 32, 33, 34, 35, 36, 37, 38, 39, 40, 41, 42, 43, 44, 45, 46, 47, 48, 49, 50, 51, 52, 53] (by decide +kernel) (by decide +kernel)
set_option maxRecDepth 20000 in
theorem gX2_block_X2_blockOf : GoodIn wsX2_block (wsV RX2 172 RX2 yX2_blockOf wsX2_blockOf) := goodIn_app (goodIn_of _ (by decide +kernel)) ggX2_block_X2_blockOf
theorem dX2_block_0 : decode cX2_block 0 = .ok (.aload_n 0, 1) := by decide +kernel
theorem dX2_block_1 : decode cX2_block 1 = .ok (.iload_n 1, 1) := by decide +kernel
theorem dX2_block_2 : decode cX2_block 2 = .ok (.invokevirtual 100, 3) := by decide +kernel
theorem dX2_block_5 : decode cX2_block 5 = .ok (.ifCond .ne 13, 3) := by decide +kernel
theorem dX2_block_8 : decode cX2_block 8 = .ok (.new 103, 3) := by decide +kernel
theorem dX2_block_11 : decode cX2_block 11 = .ok (.dup, 1) := by decide +kernel
theorem dX2_block_12 : decode cX2_block 12 = .ok (.ldc 105, 2) := by decide +kernel
theorem dX2_block_14 : decode cX2_block 14 = .ok (.invokespecial 107, 3) := by decide +kernel
theorem dX2_block_17 : decode cX2_block 17 = .ok (.athrow, 1) := by decide +kernel
theorem dX2_block_18 : decode cX2_block 18 = .ok (.aload_n 0, 1) := by decide +kernel
theorem dX2_block_19 : decode cX2_block 19 = .ok (.iload_n 1, 1) := by decide +kernel
theorem dX2_block_20 : decode cX2_block 20 = .ok (.invokevirtual 172, 3) := by decide +kernel
theorem dX2_block_23 : decode cX2_block 23 = .ok (.ireturn, 1) := by decide +kernel
set_option maxRecDepth 20000 in
theorem ggX2_stored_X2_countAt : GoodIn wsX2_stored wsX2_countAt := goodIn_r _ [5, 6, 7, 8, 9, 10, 11, 12, 13, 14, 15, 16, 17, 18, 19, 20, 21, 22, 23, 24] (by decide +kernel) (by decide +kernel)
set_option maxRecDepth 20000 in
theorem gX2_stored_X2_countAt : GoodIn wsX2_stored (wsV RX2 151 RX2 yX2_countAt wsX2_countAt) := goodIn_app (goodIn_of _ (by decide +kernel)) ggX2_stored_X2_countAt
theorem dX2_stored_0 : decode cX2_stored 0 = .ok (.aload_n 0, 1) := by decide +kernel
theorem dX2_stored_1 : decode cX2_stored 1 = .ok (.bipush 10, 2) := by decide +kernel
theorem dX2_stored_3 : decode cX2_stored 3 = .ok (.invokevirtual 151, 3) := by decide +kernel
theorem dX2_stored_6 : decode cX2_stored 6 = .ok (.ireturn, 1) := by decide +kernel
theorem dX2_changes_0 : decode cX2_changes 0 = .ok (.aload_n 0, 1) := by decide +kernel
theorem dX2_changes_1 : decode cX2_changes 1 = .ok (.getfield 175, 3) := by decide +kernel
theorem dX2_changes_4 : decode cX2_changes 4 = .ok (.ireturn, 1) := by decide +kernel
theorem dX2_released_0 : decode cX2_released 0 = .ok (.aload_n 0, 1) := by decide +kernel
theorem dX2_released_1 : decode cX2_released 1 = .ok (.getfield 178, 3) := by decide +kernel
theorem dX2_released_4 : decode cX2_released 4 = .ok (.ireturn, 1) := by decide +kernel
theorem dX2_assembledAt_0 : decode cX2_assembledAt 0 = .ok (.iload_n 1, 1) := by decide +kernel
theorem dX2_assembledAt_1 : decode cX2_assembledAt 1 = .ok (.ifCond .lt 11, 3) := by decide +kernel
theorem dX2_assembledAt_4 : decode cX2_assembledAt 4 = .ok (.iload_n 1, 1) := by decide +kernel
theorem dX2_assembledAt_5 : decode cX2_assembledAt 5 = .ok (.aload_n 0, 1) := by decide +kernel
theorem dX2_assembledAt_6 : decode cX2_assembledAt 6 = .ok (.getfield 161, 3) := by decide +kernel
theorem dX2_assembledAt_9 : decode cX2_assembledAt 9 = .ok (.if_icmp .lt 13, 3) := by decide +kernel
theorem dX2_assembledAt_12 : decode cX2_assembledAt 12 = .ok (.new 103, 3) := by decide +kernel
theorem dX2_assembledAt_15 : decode cX2_assembledAt 15 = .ok (.dup, 1) := by decide +kernel
theorem dX2_assembledAt_16 : decode cX2_assembledAt 16 = .ok (.ldc 181, 2) := by decide +kernel
theorem dX2_assembledAt_18 : decode cX2_assembledAt 18 = .ok (.invokespecial 107, 3) := by decide +kernel
theorem dX2_assembledAt_21 : decode cX2_assembledAt 21 = .ok (.athrow, 1) := by decide +kernel
theorem dX2_assembledAt_22 : decode cX2_assembledAt 22 = .ok (.aload_n 0, 1) := by decide +kernel
theorem dX2_assembledAt_23 : decode cX2_assembledAt 23 = .ok (.getfield 26, 3) := by decide +kernel
theorem dX2_assembledAt_26 : decode cX2_assembledAt 26 = .ok (.iload_n 1, 1) := by decide +kernel
theorem dX2_assembledAt_27 : decode cX2_assembledAt 27 = .ok (.iaload, 1) := by decide +kernel
theorem dX2_assembledAt_28 : decode cX2_assembledAt 28 = .ok (.ireturn, 1) := by decide +kernel
set_option maxRecDepth 20000 in
theorem ggX2_lateness_X2_isBody : GoodIn wsX2_lateness wsX2_isBody := goodIn_r _ [11, 12, 13, 14, 15, 16, 17, 18, 19, 20, 21, 22, 23, 24, 25, 26, 27, 28, 29] (by decide +kernel) (by decide +kernel)
set_option maxRecDepth 20000 in
theorem gX2_lateness_X2_isBody : GoodIn wsX2_lateness (wsV RX2 144 RX2 yX2_isBody wsX2_isBody) := goodIn_app (goodIn_of _ (by decide +kernel)) ggX2_lateness_X2_isBody
theorem dX2_lateness_0 : decode cX2_lateness 0 = .ok (.aload_n 0, 1) := by decide +kernel
theorem dX2_lateness_1 : decode cX2_lateness 1 = .ok (.iload_n 1, 1) := by decide +kernel
theorem dX2_lateness_2 : decode cX2_lateness 2 = .ok (.invokevirtual 144, 3) := by decide +kernel
theorem dX2_lateness_5 : decode cX2_lateness 5 = .ok (.ifCond .ne 13, 3) := by decide +kernel
theorem dX2_lateness_8 : decode cX2_lateness 8 = .ok (.new 103, 3) := by decide +kernel
theorem dX2_lateness_11 : decode cX2_lateness 11 = .ok (.dup, 1) := by decide +kernel
theorem dX2_lateness_12 : decode cX2_lateness 12 = .ok (.ldc 147, 2) := by decide +kernel
theorem dX2_lateness_14 : decode cX2_lateness 14 = .ok (.invokespecial 107, 3) := by decide +kernel
theorem dX2_lateness_17 : decode cX2_lateness 17 = .ok (.athrow, 1) := by decide +kernel
theorem dX2_lateness_18 : decode cX2_lateness 18 = .ok (.aload_n 0, 1) := by decide +kernel
theorem dX2_lateness_19 : decode cX2_lateness 19 = .ok (.getfield 20, 3) := by decide +kernel
theorem dX2_lateness_22 : decode cX2_lateness 22 = .ok (.iload_n 1, 1) := by decide +kernel
theorem dX2_lateness_23 : decode cX2_lateness 23 = .ok (.iaload, 1) := by decide +kernel
theorem dX2_lateness_24 : decode cX2_lateness 24 = .ok (.bipush 12, 2) := by decide +kernel
theorem dX2_lateness_26 : decode cX2_lateness 26 = .ok (.if_icmp .eq 13, 3) := by decide +kernel
theorem dX2_lateness_29 : decode cX2_lateness 29 = .ok (.new 82, 3) := by decide +kernel
theorem dX2_lateness_32 : decode cX2_lateness 32 = .ok (.dup, 1) := by decide +kernel
theorem dX2_lateness_33 : decode cX2_lateness 33 = .ok (.ldc 183, 2) := by decide +kernel
theorem dX2_lateness_35 : decode cX2_lateness 35 = .ok (.invokespecial 86, 3) := by decide +kernel
theorem dX2_lateness_38 : decode cX2_lateness 38 = .ok (.athrow, 1) := by decide +kernel
theorem dX2_lateness_39 : decode cX2_lateness 39 = .ok (.aload_n 0, 1) := by decide +kernel
theorem dX2_lateness_40 : decode cX2_lateness 40 = .ok (.getfield 23, 3) := by decide +kernel
theorem dX2_lateness_43 : decode cX2_lateness 43 = .ok (.iload_n 1, 1) := by decide +kernel
theorem dX2_lateness_44 : decode cX2_lateness 44 = .ok (.iaload, 1) := by decide +kernel
theorem dX2_lateness_45 : decode cX2_lateness 45 = .ok (.iload_n 1, 1) := by decide +kernel
theorem dX2_lateness_46 : decode cX2_lateness 46 = .ok (.isub, 1) := by decide +kernel
theorem dX2_lateness_47 : decode cX2_lateness 47 = .ok (.ireturn, 1) := by decide +kernel
theorem dX2_worstLateness_0 : decode cX2_worstLateness 0 = .ok (.iconst 0, 1) := by decide +kernel
theorem dX2_worstLateness_1 : decode cX2_worstLateness 1 = .ok (.istore_n 1, 1) := by decide +kernel
theorem dX2_worstLateness_2 : decode cX2_worstLateness 2 = .ok (.iconst 0, 1) := by decide +kernel
theorem dX2_worstLateness_3 : decode cX2_worstLateness 3 = .ok (.istore_n 2, 1) := by decide +kernel
theorem dX2_worstLateness_4 : decode cX2_worstLateness 4 = .ok (.iload_n 2, 1) := by decide +kernel
theorem dX2_worstLateness_5 : decode cX2_worstLateness 5 = .ok (.aload_n 0, 1) := by decide +kernel
theorem dX2_worstLateness_6 : decode cX2_worstLateness 6 = .ok (.getfield 161, 3) := by decide +kernel
theorem dX2_worstLateness_9 : decode cX2_worstLateness 9 = .ok (.if_icmp .ge 25, 3) := by decide +kernel
theorem dX2_worstLateness_12 : decode cX2_worstLateness 12 = .ok (.iload_n 2, 1) := by decide +kernel
theorem dX2_worstLateness_13 : decode cX2_worstLateness 13 = .ok (.aload_n 0, 1) := by decide +kernel
theorem dX2_worstLateness_14 : decode cX2_worstLateness 14 = .ok (.getfield 26, 3) := by decide +kernel
theorem dX2_worstLateness_17 : decode cX2_worstLateness 17 = .ok (.iload_n 2, 1) := by decide +kernel
theorem dX2_worstLateness_18 : decode cX2_worstLateness 18 = .ok (.iaload, 1) := by decide +kernel
theorem dX2_worstLateness_19 : decode cX2_worstLateness 19 = .ok (.isub, 1) := by decide +kernel
theorem dX2_worstLateness_20 : decode cX2_worstLateness 20 = .ok (.istore_n 3, 1) := by decide +kernel
theorem dX2_worstLateness_21 : decode cX2_worstLateness 21 = .ok (.iload_n 3, 1) := by decide +kernel
theorem dX2_worstLateness_22 : decode cX2_worstLateness 22 = .ok (.iload_n 1, 1) := by decide +kernel
theorem dX2_worstLateness_23 : decode cX2_worstLateness 23 = .ok (.if_icmp .le 5, 3) := by decide +kernel
theorem dX2_worstLateness_26 : decode cX2_worstLateness 26 = .ok (.iload_n 3, 1) := by decide +kernel
theorem dX2_worstLateness_27 : decode cX2_worstLateness 27 = .ok (.istore_n 1, 1) := by decide +kernel
theorem dX2_worstLateness_28 : decode cX2_worstLateness 28 = .ok (.iinc 2 1, 3) := by decide +kernel
theorem dX2_worstLateness_31 : decode cX2_worstLateness 31 = .ok (.goto (-27), 3) := by decide +kernel
theorem dX2_worstLateness_34 : decode cX2_worstLateness 34 = .ok (.iload_n 1, 1) := by decide +kernel
theorem dX2_worstLateness_35 : decode cX2_worstLateness 35 = .ok (.ireturn, 1) := by decide +kernel
set_option maxRecDepth 20000 in
theorem ggX2_fewestChanges_X2_countInLanes : GoodIn wsX2_fewestChanges wsX2_countInLanes := goodIn_r _ [9, 10, 11, 12, 13, 14, 15, 16, 17, 76, 77, 78, 79, 80, 81, 82, 83, 84, 85, 86, 87, 88, 89, 90, 91, 92, 93, 94] (by decide +kernel) (by decide +kernel)
set_option maxRecDepth 20000 in
theorem gX2_fewestChanges_X2_countInLanes : GoodIn wsX2_fewestChanges (wsV RX2 133 RX2 yX2_countInLanes wsX2_countInLanes) := goodIn_app (goodIn_of _ (by decide +kernel)) ggX2_fewestChanges_X2_countInLanes
set_option maxRecDepth 20000 in
theorem ggX2_fewestChanges_X2_copyLanesIntoPlan : GoodIn wsX2_fewestChanges wsX2_copyLanesIntoPlan := goodIn_r _ [21, 3, 10, 11, 22, 23, 24, 25, 26, 27, 12, 13, 14, 15, 16, 17, 28, 29, 30, 31, 32, 33, 34, 35, 8, 36, 37, 38, 39, 40, 41, 42, 43, 44, 45, 46, 47, 76, 77, 78, 79, 80, 81, 82, 83, 84, 85, 86, 87, 88, 89, 90, 91, 92, 95, 96, 97, 98, 99, 100, 93, 94] (by decide +kernel) (by decide +kernel)
set_option maxRecDepth 20000 in
theorem gX2_fewestChanges_X2_copyLanesIntoPlan : GoodIn wsX2_fewestChanges (wsV RX2 138 RX2 yX2_copyLanesIntoPlan wsX2_copyLanesIntoPlan) := goodIn_app (goodIn_of _ (by decide +kernel)) ggX2_fewestChanges_X2_copyLanesIntoPlan
set_option maxRecDepth 20000 in
theorem ggX2_fewestChanges_X1_fewest : GoodIn wsX2_fewestChanges wsX1_fewest := goodIn_r _ [51, 52, 53, 54, 25, 55, 56, 27, 57, 58, 59, 60, 61, 62, 63, 64, 65, 47, 66, 67, 68, 69, 70, 71, 72, 73, 74, 75, 95, 96, 97, 98, 99, 100] (by decide +kernel) (by decide +kernel)
set_option maxRecDepth 20000 in
theorem gX2_fewestChanges_X1_fewest : GoodIn wsX2_fewestChanges (wsV RX2 185 RX1 yX1_fewest wsX1_fewest) := goodIn_app (goodIn_of _ (by decide +kernel)) ggX2_fewestChanges_X1_fewest
theorem dX2_fewestChanges_0 : decode cX2_fewestChanges 0 = .ok (.aload_n 0, 1) := by decide +kernel
theorem dX2_fewestChanges_1 : decode cX2_fewestChanges 1 = .ok (.invokevirtual 133, 3) := by decide +kernel
theorem dX2_fewestChanges_4 : decode cX2_fewestChanges 4 = .ok (.bipush 12, 2) := by decide +kernel
theorem dX2_fewestChanges_6 : decode cX2_fewestChanges 6 = .ok (.if_icmp .le 13, 3) := by decide +kernel
theorem dX2_fewestChanges_9 : decode cX2_fewestChanges 9 = .ok (.new 82, 3) := by decide +kernel
theorem dX2_fewestChanges_12 : decode cX2_fewestChanges 12 = .ok (.dup, 1) := by decide +kernel
theorem dX2_fewestChanges_13 : decode cX2_fewestChanges 13 = .ok (.ldc 136, 2) := by decide +kernel
theorem dX2_fewestChanges_15 : decode cX2_fewestChanges 15 = .ok (.invokespecial 86, 3) := by decide +kernel
theorem dX2_fewestChanges_18 : decode cX2_fewestChanges 18 = .ok (.athrow, 1) := by decide +kernel
theorem dX2_fewestChanges_19 : decode cX2_fewestChanges 19 = .ok (.aload_n 0, 1) := by decide +kernel
theorem dX2_fewestChanges_20 : decode cX2_fewestChanges 20 = .ok (.invokevirtual 138, 3) := by decide +kernel
theorem dX2_fewestChanges_23 : decode cX2_fewestChanges 23 = .ok (.aload_n 0, 1) := by decide +kernel
theorem dX2_fewestChanges_24 : decode cX2_fewestChanges 24 = .ok (.getfield 32, 3) := by decide +kernel
theorem dX2_fewestChanges_27 : decode cX2_fewestChanges 27 = .ok (.aload_n 0, 1) := by decide +kernel
theorem dX2_fewestChanges_28 : decode cX2_fewestChanges 28 = .ok (.getfield 46, 3) := by decide +kernel
theorem dX2_fewestChanges_31 : decode cX2_fewestChanges 31 = .ok (.invokevirtual 185, 3) := by decide +kernel
theorem dX2_fewestChanges_34 : decode cX2_fewestChanges 34 = .ok (.ireturn, 1) := by decide +kernel
set_option maxRecDepth 20000 in
theorem ggX2_fewestByAll_X2_countInLanes : GoodIn wsX2_fewestByAll wsX2_countInLanes := goodIn_r _ [9, 10, 11, 12, 13, 14, 15, 16, 17, 58, 59, 60, 61, 62, 63, 64, 65, 66, 67, 68, 69, 70, 71, 72, 73, 74, 75, 76] (by decide +kernel) (by decide +kernel)
set_option maxRecDepth 20000 in
theorem gX2_fewestByAll_X2_countInLanes : GoodIn wsX2_fewestByAll (wsV RX2 133 RX2 yX2_countInLanes wsX2_countInLanes) := goodIn_app (goodIn_of _ (by decide +kernel)) ggX2_fewestByAll_X2_countInLanes
set_option maxRecDepth 20000 in
theorem ggX2_fewestByAll_X2_copyLanesIntoPlan : GoodIn wsX2_fewestByAll wsX2_copyLanesIntoPlan := goodIn_r _ [21, 3, 10, 11, 22, 23, 24, 25, 26, 27, 12, 13, 14, 15, 16, 17, 28, 29, 30, 31, 32, 33, 34, 35, 8, 36, 37, 38, 39, 40, 41, 42, 43, 44, 45, 46, 47, 58, 59, 60, 61, 62, 63, 64, 65, 66, 67, 68, 69, 70, 71, 72, 73, 74, 77, 78, 79, 80, 81, 82, 75, 76] (by decide +kernel) (by decide +kernel)
set_option maxRecDepth 20000 in
theorem gX2_fewestByAll_X2_copyLanesIntoPlan : GoodIn wsX2_fewestByAll (wsV RX2 138 RX2 yX2_copyLanesIntoPlan wsX2_copyLanesIntoPlan) := goodIn_app (goodIn_of _ (by decide +kernel)) ggX2_fewestByAll_X2_copyLanesIntoPlan
set_option maxRecDepth 20000 in
theorem ggX2_fewestByAll_X1_fewestOfAllOrders : GoodIn wsX2_fewestByAll wsX1_fewestOfAllOrders := goodIn_r _ [51, 52, 27, 53, 54, 25, 55, 47, 56, 8, 57, 77, 78, 79, 80, 81, 82] (by decide +kernel) (by decide +kernel)
set_option maxRecDepth 20000 in
theorem gX2_fewestByAll_X1_fewestOfAllOrders : GoodIn wsX2_fewestByAll (wsV RX2 190 RX1 yX1_fewestOfAllOrders wsX1_fewestOfAllOrders) := goodIn_app (goodIn_of _ (by decide +kernel)) ggX2_fewestByAll_X1_fewestOfAllOrders
theorem dX2_fewestByAll_0 : decode cX2_fewestByAll 0 = .ok (.aload_n 0, 1) := by decide +kernel
theorem dX2_fewestByAll_1 : decode cX2_fewestByAll 1 = .ok (.invokevirtual 133, 3) := by decide +kernel
theorem dX2_fewestByAll_4 : decode cX2_fewestByAll 4 = .ok (.bipush 8, 2) := by decide +kernel
theorem dX2_fewestByAll_6 : decode cX2_fewestByAll 6 = .ok (.if_icmp .le 13, 3) := by decide +kernel
theorem dX2_fewestByAll_9 : decode cX2_fewestByAll 9 = .ok (.new 82, 3) := by decide +kernel
theorem dX2_fewestByAll_12 : decode cX2_fewestByAll 12 = .ok (.dup, 1) := by decide +kernel
theorem dX2_fewestByAll_13 : decode cX2_fewestByAll 13 = .ok (.ldc 188, 2) := by decide +kernel
theorem dX2_fewestByAll_15 : decode cX2_fewestByAll 15 = .ok (.invokespecial 86, 3) := by decide +kernel
theorem dX2_fewestByAll_18 : decode cX2_fewestByAll 18 = .ok (.athrow, 1) := by decide +kernel
theorem dX2_fewestByAll_19 : decode cX2_fewestByAll 19 = .ok (.aload_n 0, 1) := by decide +kernel
theorem dX2_fewestByAll_20 : decode cX2_fewestByAll 20 = .ok (.invokevirtual 138, 3) := by decide +kernel
theorem dX2_fewestByAll_23 : decode cX2_fewestByAll 23 = .ok (.aload_n 0, 1) := by decide +kernel
theorem dX2_fewestByAll_24 : decode cX2_fewestByAll 24 = .ok (.getfield 32, 3) := by decide +kernel
theorem dX2_fewestByAll_27 : decode cX2_fewestByAll 27 = .ok (.aload_n 0, 1) := by decide +kernel
theorem dX2_fewestByAll_28 : decode cX2_fewestByAll 28 = .ok (.getfield 46, 3) := by decide +kernel
theorem dX2_fewestByAll_31 : decode cX2_fewestByAll 31 = .ok (.invokevirtual 190, 3) := by decide +kernel
theorem dX2_fewestByAll_34 : decode cX2_fewestByAll 34 = .ok (.ireturn, 1) := by decide +kernel
theorem dX2_isColour_0 : decode cX2_isColour 0 = .ok (.iload_n 0, 1) := by decide +kernel
theorem dX2_isColour_1 : decode cX2_isColour 1 = .ok (.ifCond .lt 12, 3) := by decide +kernel
theorem dX2_isColour_4 : decode cX2_isColour 4 = .ok (.iload_n 0, 1) := by decide +kernel
theorem dX2_isColour_5 : decode cX2_isColour 5 = .ok (.iconst 5, 1) := by decide +kernel
theorem dX2_isColour_6 : decode cX2_isColour 6 = .ok (.if_icmp .ge 7, 3) := by decide +kernel
theorem dX2_isColour_9 : decode cX2_isColour 9 = .ok (.iconst 1, 1) := by decide +kernel
theorem dX2_isColour_10 : decode cX2_isColour 10 = .ok (.goto 4, 3) := by decide +kernel
theorem dX2_isColour_13 : decode cX2_isColour 13 = .ok (.iconst 0, 1) := by decide +kernel
theorem dX2_isColour_14 : decode cX2_isColour 14 = .ok (.ireturn, 1) := by decide +kernel
theorem dX2_isLane_0 : decode cX2_isLane 0 = .ok (.iload_n 1, 1) := by decide +kernel
theorem dX2_isLane_1 : decode cX2_isLane 1 = .ok (.ifCond .lt 15, 3) := by decide +kernel
theorem dX2_isLane_4 : decode cX2_isLane 4 = .ok (.iload_n 1, 1) := by decide +kernel
theorem dX2_isLane_5 : decode cX2_isLane 5 = .ok (.aload_n 0, 1) := by decide +kernel
theorem dX2_isLane_6 : decode cX2_isLane 6 = .ok (.getfield 36, 3) := by decide +kernel
theorem dX2_isLane_9 : decode cX2_isLane 9 = .ok (.if_icmp .ge 7, 3) := by decide +kernel
theorem dX2_isLane_12 : decode cX2_isLane 12 = .ok (.iconst 1, 1) := by decide +kernel
theorem dX2_isLane_13 : decode cX2_isLane 13 = .ok (.goto 4, 3) := by decide +kernel
theorem dX2_isLane_16 : decode cX2_isLane 16 = .ok (.iconst 0, 1) := by decide +kernel
theorem dX2_isLane_17 : decode cX2_isLane 17 = .ok (.ireturn, 1) := by decide +kernel
theorem dX2_isBody_0 : decode cX2_isBody 0 = .ok (.iload_n 1, 1) := by decide +kernel
theorem dX2_isBody_1 : decode cX2_isBody 1 = .ok (.ifCond .lt 15, 3) := by decide +kernel
theorem dX2_isBody_4 : decode cX2_isBody 4 = .ok (.iload_n 1, 1) := by decide +kernel
theorem dX2_isBody_5 : decode cX2_isBody 5 = .ok (.aload_n 0, 1) := by decide +kernel
theorem dX2_isBody_6 : decode cX2_isBody 6 = .ok (.getfield 60, 3) := by decide +kernel
theorem dX2_isBody_9 : decode cX2_isBody 9 = .ok (.if_icmp .ge 7, 3) := by decide +kernel
theorem dX2_isBody_12 : decode cX2_isBody 12 = .ok (.iconst 1, 1) := by decide +kernel
theorem dX2_isBody_13 : decode cX2_isBody 13 = .ok (.goto 4, 3) := by decide +kernel
theorem dX2_isBody_16 : decode cX2_isBody 16 = .ok (.iconst 0, 1) := by decide +kernel
theorem dX2_isBody_17 : decode cX2_isBody 17 = .ok (.ireturn, 1) := by decide +kernel
set_option maxRecDepth 20000 in
theorem ggX2_hasRoom_X0_count : GoodIn wsX2_hasRoom wsX0_count := goodIn_r _ [7, 8, 26, 27] (by decide +kernel) (by decide +kernel)
set_option maxRecDepth 20000 in
theorem gX2_hasRoom_X0_count : GoodIn wsX2_hasRoom (wsV RX2 164 RX0 yX0_count wsX0_count) := goodIn_app (goodIn_of _ (by decide +kernel)) ggX2_hasRoom_X0_count
theorem dX2_hasRoom_0 : decode cX2_hasRoom 0 = .ok (.aload_n 0, 1) := by decide +kernel
theorem dX2_hasRoom_1 : decode cX2_hasRoom 1 = .ok (.getfield 11, 3) := by decide +kernel
theorem dX2_hasRoom_4 : decode cX2_hasRoom 4 = .ok (.iload_n 1, 1) := by decide +kernel
theorem dX2_hasRoom_5 : decode cX2_hasRoom 5 = .ok (.aaload, 1) := by decide +kernel
theorem dX2_hasRoom_6 : decode cX2_hasRoom 6 = .ok (.invokevirtual 164, 3) := by decide +kernel
theorem dX2_hasRoom_9 : decode cX2_hasRoom 9 = .ok (.aload_n 0, 1) := by decide +kernel
theorem dX2_hasRoom_10 : decode cX2_hasRoom 10 = .ok (.getfield 40, 3) := by decide +kernel
theorem dX2_hasRoom_13 : decode cX2_hasRoom 13 = .ok (.if_icmp .ge 7, 3) := by decide +kernel
theorem dX2_hasRoom_16 : decode cX2_hasRoom 16 = .ok (.iconst 1, 1) := by decide +kernel
theorem dX2_hasRoom_17 : decode cX2_hasRoom 17 = .ok (.goto 4, 3) := by decide +kernel
theorem dX2_hasRoom_20 : decode cX2_hasRoom 20 = .ok (.iconst 0, 1) := by decide +kernel
theorem dX2_hasRoom_21 : decode cX2_hasRoom 21 = .ok (.ireturn, 1) := by decide +kernel
set_option maxRecDepth 20000 in
theorem ggX2_storeIsFull_X2_countAt : GoodIn wsX2_storeIsFull wsX2_countAt := goodIn_r _ [6, 7, 8, 9, 10, 11, 12, 13, 14, 15, 16, 17, 18, 19, 20, 21, 22, 23, 24, 25] (by decide +kernel) (by decide +kernel)
set_option maxRecDepth 20000 in
theorem gX2_storeIsFull_X2_countAt : GoodIn wsX2_storeIsFull (wsV RX2 151 RX2 yX2_countAt wsX2_countAt) := goodIn_app (goodIn_of _ (by decide +kernel)) ggX2_storeIsFull_X2_countAt
theorem dX2_storeIsFull_0 : decode cX2_storeIsFull 0 = .ok (.aload_n 0, 1) := by decide +kernel
theorem dX2_storeIsFull_1 : decode cX2_storeIsFull 1 = .ok (.bipush 10, 2) := by decide +kernel
theorem dX2_storeIsFull_3 : decode cX2_storeIsFull 3 = .ok (.invokevirtual 151, 3) := by decide +kernel
theorem dX2_storeIsFull_6 : decode cX2_storeIsFull 6 = .ok (.aload_n 0, 1) := by decide +kernel
theorem dX2_storeIsFull_7 : decode cX2_storeIsFull 7 = .ok (.getfield 43, 3) := by decide +kernel
theorem dX2_storeIsFull_10 : decode cX2_storeIsFull 10 = .ok (.if_icmp .lt 7, 3) := by decide +kernel
theorem dX2_storeIsFull_13 : decode cX2_storeIsFull 13 = .ok (.iconst 1, 1) := by decide +kernel
theorem dX2_storeIsFull_14 : decode cX2_storeIsFull 14 = .ok (.goto 4, 3) := by decide +kernel
theorem dX2_storeIsFull_17 : decode cX2_storeIsFull 17 = .ok (.iconst 0, 1) := by decide +kernel
theorem dX2_storeIsFull_18 : decode cX2_storeIsFull 18 = .ok (.ireturn, 1) := by decide +kernel
theorem dX2_countAt_0 : decode cX2_countAt 0 = .ok (.iconst 0, 1) := by decide +kernel
theorem dX2_countAt_1 : decode cX2_countAt 1 = .ok (.istore_n 2, 1) := by decide +kernel
theorem dX2_countAt_2 : decode cX2_countAt 2 = .ok (.iconst 0, 1) := by decide +kernel
theorem dX2_countAt_3 : decode cX2_countAt 3 = .ok (.istore_n 3, 1) := by decide +kernel
theorem dX2_countAt_4 : decode cX2_countAt 4 = .ok (.iload_n 3, 1) := by decide +kernel
theorem dX2_countAt_5 : decode cX2_countAt 5 = .ok (.aload_n 0, 1) := by decide +kernel
theorem dX2_countAt_6 : decode cX2_countAt 6 = .ok (.getfield 60, 3) := by decide +kernel
theorem dX2_countAt_9 : decode cX2_countAt 9 = .ok (.if_icmp .ge 22, 3) := by decide +kernel
theorem dX2_countAt_12 : decode cX2_countAt 12 = .ok (.aload_n 0, 1) := by decide +kernel
theorem dX2_countAt_13 : decode cX2_countAt 13 = .ok (.getfield 20, 3) := by decide +kernel
theorem dX2_countAt_16 : decode cX2_countAt 16 = .ok (.iload_n 3, 1) := by decide +kernel
theorem dX2_countAt_17 : decode cX2_countAt 17 = .ok (.iaload, 1) := by decide +kernel
theorem dX2_countAt_18 : decode cX2_countAt 18 = .ok (.iload_n 1, 1) := by decide +kernel
theorem dX2_countAt_19 : decode cX2_countAt 19 = .ok (.if_icmp .ne 6, 3) := by decide +kernel
theorem dX2_countAt_22 : decode cX2_countAt 22 = .ok (.iinc 2 1, 3) := by decide +kernel
theorem dX2_countAt_25 : decode cX2_countAt 25 = .ok (.iinc 3 1, 3) := by decide +kernel
theorem dX2_countAt_28 : decode cX2_countAt 28 = .ok (.goto (-24), 3) := by decide +kernel
theorem dX2_countAt_31 : decode cX2_countAt 31 = .ok (.iload_n 2, 1) := by decide +kernel
theorem dX2_countAt_32 : decode cX2_countAt 32 = .ok (.ireturn, 1) := by decide +kernel
set_option maxRecDepth 20000 in
theorem ggX2_countInLanes_X0_count : GoodIn wsX2_countInLanes wsX0_count := goodIn_r _ [7, 8, 26, 27] (by decide +kernel) (by decide +kernel)
set_option maxRecDepth 20000 in
theorem gX2_countInLanes_X0_count : GoodIn wsX2_countInLanes (wsV RX2 164 RX0 yX0_count wsX0_count) := goodIn_app (goodIn_of _ (by decide +kernel)) ggX2_countInLanes_X0_count
theorem dX2_countInLanes_0 : decode cX2_countInLanes 0 = .ok (.iconst 0, 1) := by decide +kernel
theorem dX2_countInLanes_1 : decode cX2_countInLanes 1 = .ok (.istore_n 1, 1) := by decide +kernel
theorem dX2_countInLanes_2 : decode cX2_countInLanes 2 = .ok (.iconst 0, 1) := by decide +kernel
theorem dX2_countInLanes_3 : decode cX2_countInLanes 3 = .ok (.istore_n 2, 1) := by decide +kernel
theorem dX2_countInLanes_4 : decode cX2_countInLanes 4 = .ok (.iload_n 2, 1) := by decide +kernel
theorem dX2_countInLanes_5 : decode cX2_countInLanes 5 = .ok (.aload_n 0, 1) := by decide +kernel
theorem dX2_countInLanes_6 : decode cX2_countInLanes 6 = .ok (.getfield 36, 3) := by decide +kernel
theorem dX2_countInLanes_9 : decode cX2_countInLanes 9 = .ok (.if_icmp .ge 21, 3) := by decide +kernel
theorem dX2_countInLanes_12 : decode cX2_countInLanes 12 = .ok (.iload_n 1, 1) := by decide +kernel
theorem dX2_countInLanes_13 : decode cX2_countInLanes 13 = .ok (.aload_n 0, 1) := by decide +kernel
theorem dX2_countInLanes_14 : decode cX2_countInLanes 14 = .ok (.getfield 11, 3) := by decide +kernel
theorem dX2_countInLanes_17 : decode cX2_countInLanes 17 = .ok (.iload_n 2, 1) := by decide +kernel
theorem dX2_countInLanes_18 : decode cX2_countInLanes 18 = .ok (.aaload, 1) := by decide +kernel
theorem dX2_countInLanes_19 : decode cX2_countInLanes 19 = .ok (.invokevirtual 164, 3) := by decide +kernel
theorem dX2_countInLanes_22 : decode cX2_countInLanes 22 = .ok (.iadd, 1) := by decide +kernel
theorem dX2_countInLanes_23 : decode cX2_countInLanes 23 = .ok (.istore_n 1, 1) := by decide +kernel
theorem dX2_countInLanes_24 : decode cX2_countInLanes 24 = .ok (.iinc 2 1, 3) := by decide +kernel
theorem dX2_countInLanes_27 : decode cX2_countInLanes 27 = .ok (.goto (-23), 3) := by decide +kernel
theorem dX2_countInLanes_30 : decode cX2_countInLanes 30 = .ok (.iload_n 1, 1) := by decide +kernel
theorem dX2_countInLanes_31 : decode cX2_countInLanes 31 = .ok (.ireturn, 1) := by decide +kernel
theorem dX2_lowestInStore_0 : decode cX2_lowestInStore 0 = .ok (.iconst 0, 1) := by decide +kernel
theorem dX2_lowestInStore_1 : decode cX2_lowestInStore 1 = .ok (.istore_n 1, 1) := by decide +kernel
theorem dX2_lowestInStore_2 : decode cX2_lowestInStore 2 = .ok (.iload_n 1, 1) := by decide +kernel
theorem dX2_lowestInStore_3 : decode cX2_lowestInStore 3 = .ok (.aload_n 0, 1) := by decide +kernel
theorem dX2_lowestInStore_4 : decode cX2_lowestInStore 4 = .ok (.getfield 60, 3) := by decide +kernel
theorem dX2_lowestInStore_7 : decode cX2_lowestInStore 7 = .ok (.if_icmp .ge 22, 3) := by decide +kernel
theorem dX2_lowestInStore_10 : decode cX2_lowestInStore 10 = .ok (.aload_n 0, 1) := by decide +kernel
theorem dX2_lowestInStore_11 : decode cX2_lowestInStore 11 = .ok (.getfield 20, 3) := by decide +kernel
theorem dX2_lowestInStore_14 : decode cX2_lowestInStore 14 = .ok (.iload_n 1, 1) := by decide +kernel
theorem dX2_lowestInStore_15 : decode cX2_lowestInStore 15 = .ok (.iaload, 1) := by decide +kernel
theorem dX2_lowestInStore_16 : decode cX2_lowestInStore 16 = .ok (.bipush 10, 2) := by decide +kernel
theorem dX2_lowestInStore_18 : decode cX2_lowestInStore 18 = .ok (.if_icmp .ne 5, 3) := by decide +kernel
theorem dX2_lowestInStore_21 : decode cX2_lowestInStore 21 = .ok (.iload_n 1, 1) := by decide +kernel
theorem dX2_lowestInStore_22 : decode cX2_lowestInStore 22 = .ok (.ireturn, 1) := by decide +kernel
theorem dX2_lowestInStore_23 : decode cX2_lowestInStore 23 = .ok (.iinc 1 1, 3) := by decide +kernel
theorem dX2_lowestInStore_26 : decode cX2_lowestInStore 26 = .ok (.goto (-24), 3) := by decide +kernel
theorem dX2_lowestInStore_29 : decode cX2_lowestInStore 29 = .ok (.iconst (-1), 1) := by decide +kernel
theorem dX2_lowestInStore_30 : decode cX2_lowestInStore 30 = .ok (.ireturn, 1) := by decide +kernel
set_option maxRecDepth 20000 in
theorem ggX2_laneByEntryRule_X2_firstLaneEndingIn : GoodIn wsX2_laneByEntryRule wsX2_firstLaneEndingIn := goodIn_r _ [6, 7, 8, 9, 10, 11, 5, 12, 13, 14, 15, 16, 17, 18, 19, 20, 21, 22, 23, 24, 25, 26, 27, 28, 29, 30, 31, 32, 33, 34, 35, 36, 37, 38, 52, 53, 54, 55, 56, 57, 58, 59, 60, 61, 62, 63, 64, 65, 66, 67, 68, 69, 70] (by decide +kernel) (by decide +kernel)
set_option maxRecDepth 20000 in
theorem gX2_laneByEntryRule_X2_firstLaneEndingIn : GoodIn wsX2_laneByEntryRule (wsV RX2 193 RX2 yX2_firstLaneEndingIn wsX2_firstLaneEndingIn) := goodIn_app (goodIn_of _ (by decide +kernel)) ggX2_laneByEntryRule_X2_firstLaneEndingIn
set_option maxRecDepth 20000 in
theorem ggX2_laneByEntryRule_X2_firstLaneInTurn : GoodIn wsX2_laneByEntryRule wsX2_firstLaneInTurn := goodIn_r _ [42, 43, 7, 9, 10, 11, 5, 12, 8, 13, 14, 15, 16, 17, 18, 19, 44, 45, 46, 47, 52, 53, 54, 55, 56, 57, 58, 59, 60, 61, 62, 63, 64, 65, 66, 67, 68, 69, 70] (by decide +kernel) (by decide +kernel)
set_option maxRecDepth 20000 in
theorem gX2_laneByEntryRule_X2_firstLaneInTurn : GoodIn wsX2_laneByEntryRule (wsV RX2 196 RX2 yX2_firstLaneInTurn wsX2_firstLaneInTurn) := goodIn_app (goodIn_of _ (by decide +kernel)) ggX2_laneByEntryRule_X2_firstLaneInTurn
set_option maxRecDepth 20000 in
theorem ggX2_laneByEntryRule_X2_emptiestLane : GoodIn wsX2_laneByEntryRule wsX2_emptiestLane := goodIn_r _ [51, 13, 7, 8, 14, 15, 16, 17, 18, 19, 52, 53, 54, 55, 56, 57, 58, 59, 60, 61, 62, 63, 64, 65, 66, 67, 68, 69, 70] (by decide +kernel) (by decide +kernel)
set_option maxRecDepth 20000 in
theorem gX2_laneByEntryRule_X2_emptiestLane : GoodIn wsX2_laneByEntryRule (wsV RX2 199 RX2 yX2_emptiestLane wsX2_emptiestLane) := goodIn_app (goodIn_of _ (by decide +kernel)) ggX2_laneByEntryRule_X2_emptiestLane
theorem dX2_laneByEntryRule_0 : decode cX2_laneByEntryRule 0 = .ok (.iconst (-1), 1) := by decide +kernel
theorem dX2_laneByEntryRule_1 : decode cX2_laneByEntryRule 1 = .ok (.istore_n 2, 1) := by decide +kernel
theorem dX2_laneByEntryRule_2 : decode cX2_laneByEntryRule 2 = .ok (.aload_n 0, 1) := by decide +kernel
theorem dX2_laneByEntryRule_3 : decode cX2_laneByEntryRule 3 = .ok (.getfield 70, 3) := by decide +kernel
theorem dX2_laneByEntryRule_6 : decode cX2_laneByEntryRule 6 = .ok (.iconst 1, 1) := by decide +kernel
theorem dX2_laneByEntryRule_7 : decode cX2_laneByEntryRule 7 = .ok (.if_icmp .ne 9, 3) := by decide +kernel
theorem dX2_laneByEntryRule_10 : decode cX2_laneByEntryRule 10 = .ok (.aload_n 0, 1) := by decide +kernel
theorem dX2_laneByEntryRule_11 : decode cX2_laneByEntryRule 11 = .ok (.iload_n 1, 1) := by decide +kernel
theorem dX2_laneByEntryRule_12 : decode cX2_laneByEntryRule 12 = .ok (.invokevirtual 193, 3) := by decide +kernel
theorem dX2_laneByEntryRule_15 : decode cX2_laneByEntryRule 15 = .ok (.istore_n 2, 1) := by decide +kernel
theorem dX2_laneByEntryRule_16 : decode cX2_laneByEntryRule 16 = .ok (.aload_n 0, 1) := by decide +kernel
theorem dX2_laneByEntryRule_17 : decode cX2_laneByEntryRule 17 = .ok (.getfield 70, 3) := by decide +kernel
theorem dX2_laneByEntryRule_20 : decode cX2_laneByEntryRule 20 = .ok (.iconst 2, 1) := by decide +kernel
theorem dX2_laneByEntryRule_21 : decode cX2_laneByEntryRule 21 = .ok (.if_icmp .ne 8, 3) := by decide +kernel
theorem dX2_laneByEntryRule_24 : decode cX2_laneByEntryRule 24 = .ok (.aload_n 0, 1) := by decide +kernel
theorem dX2_laneByEntryRule_25 : decode cX2_laneByEntryRule 25 = .ok (.invokevirtual 196, 3) := by decide +kernel
theorem dX2_laneByEntryRule_28 : decode cX2_laneByEntryRule 28 = .ok (.istore_n 2, 1) := by decide +kernel
theorem dX2_laneByEntryRule_29 : decode cX2_laneByEntryRule 29 = .ok (.iload_n 2, 1) := by decide +kernel
theorem dX2_laneByEntryRule_30 : decode cX2_laneByEntryRule 30 = .ok (.iconst (-1), 1) := by decide +kernel
theorem dX2_laneByEntryRule_31 : decode cX2_laneByEntryRule 31 = .ok (.if_icmp .ne 10, 3) := by decide +kernel
theorem dX2_laneByEntryRule_34 : decode cX2_laneByEntryRule 34 = .ok (.aload_n 0, 1) := by decide +kernel
theorem dX2_laneByEntryRule_35 : decode cX2_laneByEntryRule 35 = .ok (.invokevirtual 199, 3) := by decide +kernel
theorem dX2_laneByEntryRule_38 : decode cX2_laneByEntryRule 38 = .ok (.goto 4, 3) := by decide +kernel
theorem dX2_laneByEntryRule_41 : decode cX2_laneByEntryRule 41 = .ok (.iload_n 2, 1) := by decide +kernel
theorem dX2_laneByEntryRule_42 : decode cX2_laneByEntryRule 42 = .ok (.ireturn, 1) := by decide +kernel
set_option maxRecDepth 20000 in
theorem ggX2_emptiestLane_X0_count : GoodIn wsX2_emptiestLane wsX0_count := goodIn_r _ [8, 9, 27, 28] (by decide +kernel) (by decide +kernel)
set_option maxRecDepth 20000 in
theorem gX2_emptiestLane_X0_count : GoodIn wsX2_emptiestLane (wsV RX2 164 RX0 yX0_count wsX0_count) := goodIn_app (goodIn_of _ (by decide +kernel)) ggX2_emptiestLane_X0_count
theorem dX2_emptiestLane_0 : decode cX2_emptiestLane 0 = .ok (.iconst (-1), 1) := by decide +kernel
theorem dX2_emptiestLane_1 : decode cX2_emptiestLane 1 = .ok (.istore_n 1, 1) := by decide +kernel
theorem dX2_emptiestLane_2 : decode cX2_emptiestLane 2 = .ok (.aload_n 0, 1) := by decide +kernel
theorem dX2_emptiestLane_3 : decode cX2_emptiestLane 3 = .ok (.getfield 40, 3) := by decide +kernel
theorem dX2_emptiestLane_6 : decode cX2_emptiestLane 6 = .ok (.istore_n 2, 1) := by decide +kernel
theorem dX2_emptiestLane_7 : decode cX2_emptiestLane 7 = .ok (.iconst 0, 1) := by decide +kernel
theorem dX2_emptiestLane_8 : decode cX2_emptiestLane 8 = .ok (.istore_n 3, 1) := by decide +kernel
theorem dX2_emptiestLane_9 : decode cX2_emptiestLane 9 = .ok (.iload_n 3, 1) := by decide +kernel
theorem dX2_emptiestLane_10 : decode cX2_emptiestLane 10 = .ok (.aload_n 0, 1) := by decide +kernel
theorem dX2_emptiestLane_11 : decode cX2_emptiestLane 11 = .ok (.getfield 36, 3) := by decide +kernel
theorem dX2_emptiestLane_14 : decode cX2_emptiestLane 14 = .ok (.if_icmp .ge 34, 3) := by decide +kernel
theorem dX2_emptiestLane_17 : decode cX2_emptiestLane 17 = .ok (.aload_n 0, 1) := by decide +kernel
theorem dX2_emptiestLane_18 : decode cX2_emptiestLane 18 = .ok (.getfield 11, 3) := by decide +kernel
theorem dX2_emptiestLane_21 : decode cX2_emptiestLane 21 = .ok (.iload_n 3, 1) := by decide +kernel
theorem dX2_emptiestLane_22 : decode cX2_emptiestLane 22 = .ok (.aaload, 1) := by decide +kernel
theorem dX2_emptiestLane_23 : decode cX2_emptiestLane 23 = .ok (.invokevirtual 164, 3) := by decide +kernel
theorem dX2_emptiestLane_26 : decode cX2_emptiestLane 26 = .ok (.iload_n 2, 1) := by decide +kernel
theorem dX2_emptiestLane_27 : decode cX2_emptiestLane 27 = .ok (.if_icmp .ge 15, 3) := by decide +kernel
theorem dX2_emptiestLane_30 : decode cX2_emptiestLane 30 = .ok (.iload_n 3, 1) := by decide +kernel
theorem dX2_emptiestLane_31 : decode cX2_emptiestLane 31 = .ok (.istore_n 1, 1) := by decide +kernel
theorem dX2_emptiestLane_32 : decode cX2_emptiestLane 32 = .ok (.aload_n 0, 1) := by decide +kernel
theorem dX2_emptiestLane_33 : decode cX2_emptiestLane 33 = .ok (.getfield 11, 3) := by decide +kernel
theorem dX2_emptiestLane_36 : decode cX2_emptiestLane 36 = .ok (.iload_n 3, 1) := by decide +kernel
theorem dX2_emptiestLane_37 : decode cX2_emptiestLane 37 = .ok (.aaload, 1) := by decide +kernel
theorem dX2_emptiestLane_38 : decode cX2_emptiestLane 38 = .ok (.invokevirtual 164, 3) := by decide +kernel
theorem dX2_emptiestLane_41 : decode cX2_emptiestLane 41 = .ok (.istore_n 2, 1) := by decide +kernel
theorem dX2_emptiestLane_42 : decode cX2_emptiestLane 42 = .ok (.iinc 3 1, 3) := by decide +kernel
theorem dX2_emptiestLane_45 : decode cX2_emptiestLane 45 = .ok (.goto (-36), 3) := by decide +kernel
theorem dX2_emptiestLane_48 : decode cX2_emptiestLane 48 = .ok (.iload_n 1, 1) := by decide +kernel
theorem dX2_emptiestLane_49 : decode cX2_emptiestLane 49 = .ok (.ireturn, 1) := by decide +kernel
set_option maxRecDepth 20000 in
theorem ggX2_firstLaneEndingIn_X2_hasRoom : GoodIn wsX2_firstLaneEndingIn wsX2_hasRoom := goodIn_r _ [7, 2, 8, 9, 10, 11, 12, 13, 14, 34, 35, 36, 37, 38, 39, 40, 41, 42, 43, 44, 45, 46, 47, 48, 49, 50, 51, 52] (by decide +kernel) (by decide +kernel)
set_option maxRecDepth 20000 in
theorem gX2_firstLaneEndingIn_X2_hasRoom : GoodIn wsX2_firstLaneEndingIn (wsV RX2 108 RX2 yX2_hasRoom wsX2_hasRoom) := goodIn_app (goodIn_of _ (by decide +kernel)) ggX2_firstLaneEndingIn_X2_hasRoom
set_option maxRecDepth 20000 in
theorem ggX2_firstLaneEndingIn_X0_last : GoodIn wsX2_firstLaneEndingIn wsX0_last := goodIn_r _ [18, 14, 19, 20, 21, 12, 22, 23, 51, 52] (by decide +kernel) (by decide +kernel)
set_option maxRecDepth 20000 in
theorem gX2_firstLaneEndingIn_X0_last : GoodIn wsX2_firstLaneEndingIn (wsV RX2 202 RX0 yX0_last wsX0_last) := goodIn_app (goodIn_of _ (by decide +kernel)) ggX2_firstLaneEndingIn_X0_last
set_option maxRecDepth 20000 in
theorem ggX2_firstLaneEndingIn_X2_colourOf : GoodIn wsX2_firstLaneEndingIn wsX2_colourOf := goodIn_r _ [27, 28, 29, 30, 31, 6, 32, 33, 34, 35, 36, 37, 38, 39, 40, 41, 42, 43, 44, 45, 46, 47, 48, 49, 50] (by decide +kernel) (by decide +kernel)
set_option maxRecDepth 20000 in
theorem gX2_firstLaneEndingIn_X2_colourOf : GoodIn wsX2_firstLaneEndingIn (wsV RX2 205 RX2 yX2_colourOf wsX2_colourOf) := goodIn_app (goodIn_of _ (by decide +kernel)) ggX2_firstLaneEndingIn_X2_colourOf
theorem dX2_firstLaneEndingIn_0 : decode cX2_firstLaneEndingIn 0 = .ok (.iconst 0, 1) := by decide +kernel
theorem dX2_firstLaneEndingIn_1 : decode cX2_firstLaneEndingIn 1 = .ok (.istore_n 2, 1) := by decide +kernel
theorem dX2_firstLaneEndingIn_2 : decode cX2_firstLaneEndingIn 2 = .ok (.iload_n 2, 1) := by decide +kernel
theorem dX2_firstLaneEndingIn_3 : decode cX2_firstLaneEndingIn 3 = .ok (.aload_n 0, 1) := by decide +kernel
theorem dX2_firstLaneEndingIn_4 : decode cX2_firstLaneEndingIn 4 = .ok (.getfield 36, 3) := by decide +kernel
theorem dX2_firstLaneEndingIn_7 : decode cX2_firstLaneEndingIn 7 = .ok (.if_icmp .ge 36, 3) := by decide +kernel
theorem dX2_firstLaneEndingIn_10 : decode cX2_firstLaneEndingIn 10 = .ok (.aload_n 0, 1) := by decide +kernel
theorem dX2_firstLaneEndingIn_11 : decode cX2_firstLaneEndingIn 11 = .ok (.iload_n 2, 1) := by decide +kernel
theorem dX2_firstLaneEndingIn_12 : decode cX2_firstLaneEndingIn 12 = .ok (.invokevirtual 108, 3) := by decide +kernel
theorem dX2_firstLaneEndingIn_15 : decode cX2_firstLaneEndingIn 15 = .ok (.ifCond .eq 22, 3) := by decide +kernel
theorem dX2_firstLaneEndingIn_18 : decode cX2_firstLaneEndingIn 18 = .ok (.aload_n 0, 1) := by decide +kernel
theorem dX2_firstLaneEndingIn_19 : decode cX2_firstLaneEndingIn 19 = .ok (.aload_n 0, 1) := by decide +kernel
theorem dX2_firstLaneEndingIn_20 : decode cX2_firstLaneEndingIn 20 = .ok (.getfield 11, 3) := by decide +kernel
theorem dX2_firstLaneEndingIn_23 : decode cX2_firstLaneEndingIn 23 = .ok (.iload_n 2, 1) := by decide +kernel
theorem dX2_firstLaneEndingIn_24 : decode cX2_firstLaneEndingIn 24 = .ok (.aaload, 1) := by decide +kernel
theorem dX2_firstLaneEndingIn_25 : decode cX2_firstLaneEndingIn 25 = .ok (.invokevirtual 202, 3) := by decide +kernel
theorem dX2_firstLaneEndingIn_28 : decode cX2_firstLaneEndingIn 28 = .ok (.invokevirtual 205, 3) := by decide +kernel
theorem dX2_firstLaneEndingIn_31 : decode cX2_firstLaneEndingIn 31 = .ok (.iload_n 1, 1) := by decide +kernel
theorem dX2_firstLaneEndingIn_32 : decode cX2_firstLaneEndingIn 32 = .ok (.if_icmp .ne 5, 3) := by decide +kernel
theorem dX2_firstLaneEndingIn_35 : decode cX2_firstLaneEndingIn 35 = .ok (.iload_n 2, 1) := by decide +kernel
theorem dX2_firstLaneEndingIn_36 : decode cX2_firstLaneEndingIn 36 = .ok (.ireturn, 1) := by decide +kernel
theorem dX2_firstLaneEndingIn_37 : decode cX2_firstLaneEndingIn 37 = .ok (.iinc 2 1, 3) := by decide +kernel
theorem dX2_firstLaneEndingIn_40 : decode cX2_firstLaneEndingIn 40 = .ok (.goto (-38), 3) := by decide +kernel
theorem dX2_firstLaneEndingIn_43 : decode cX2_firstLaneEndingIn 43 = .ok (.iconst (-1), 1) := by decide +kernel
theorem dX2_firstLaneEndingIn_44 : decode cX2_firstLaneEndingIn 44 = .ok (.ireturn, 1) := by decide +kernel
set_option maxRecDepth 20000 in
theorem ggX2_firstLaneInTurn_X2_hasRoom : GoodIn wsX2_firstLaneInTurn wsX2_hasRoom := goodIn_r _ [7, 8, 9, 10, 11, 12, 13, 14, 15, 20, 21, 22, 23, 24, 25, 26, 27, 28, 29, 30, 31, 32, 33, 34, 35, 36, 37, 38] (by decide +kernel) (by decide +kernel)
set_option maxRecDepth 20000 in
theorem gX2_firstLaneInTurn_X2_hasRoom : GoodIn wsX2_firstLaneInTurn (wsV RX2 108 RX2 yX2_hasRoom wsX2_hasRoom) := goodIn_app (goodIn_of _ (by decide +kernel)) ggX2_firstLaneInTurn_X2_hasRoom
set_option maxRecDepth 20000 in
theorem ggX2_firstLaneInTurn_X2_laneBehind : GoodIn wsX2_firstLaneInTurn wsX2_laneBehind := goodIn_r _ [19, 2, 20, 21, 22, 23, 24, 25, 26, 27, 28, 29, 30, 31, 32, 33, 34, 35, 36] (by decide +kernel) (by decide +kernel)
set_option maxRecDepth 20000 in
theorem gX2_firstLaneInTurn_X2_laneBehind : GoodIn wsX2_firstLaneInTurn (wsV RX2 211 RX2 yX2_laneBehind wsX2_laneBehind) := goodIn_app (goodIn_of _ (by decide +kernel)) ggX2_firstLaneInTurn_X2_laneBehind
theorem dX2_firstLaneInTurn_0 : decode cX2_firstLaneInTurn 0 = .ok (.aload_n 0, 1) := by decide +kernel
theorem dX2_firstLaneInTurn_1 : decode cX2_firstLaneInTurn 1 = .ok (.getfield 208, 3) := by decide +kernel
theorem dX2_firstLaneInTurn_4 : decode cX2_firstLaneInTurn 4 = .ok (.istore_n 1, 1) := by decide +kernel
theorem dX2_firstLaneInTurn_5 : decode cX2_firstLaneInTurn 5 = .ok (.iconst 0, 1) := by decide +kernel
theorem dX2_firstLaneInTurn_6 : decode cX2_firstLaneInTurn 6 = .ok (.istore_n 2, 1) := by decide +kernel
theorem dX2_firstLaneInTurn_7 : decode cX2_firstLaneInTurn 7 = .ok (.iload_n 2, 1) := by decide +kernel
theorem dX2_firstLaneInTurn_8 : decode cX2_firstLaneInTurn 8 = .ok (.aload_n 0, 1) := by decide +kernel
theorem dX2_firstLaneInTurn_9 : decode cX2_firstLaneInTurn 9 = .ok (.getfield 36, 3) := by decide +kernel
theorem dX2_firstLaneInTurn_12 : decode cX2_firstLaneInTurn 12 = .ok (.if_icmp .ge 25, 3) := by decide +kernel
theorem dX2_firstLaneInTurn_15 : decode cX2_firstLaneInTurn 15 = .ok (.aload_n 0, 1) := by decide +kernel
theorem dX2_firstLaneInTurn_16 : decode cX2_firstLaneInTurn 16 = .ok (.iload_n 1, 1) := by decide +kernel
theorem dX2_firstLaneInTurn_17 : decode cX2_firstLaneInTurn 17 = .ok (.invokevirtual 108, 3) := by decide +kernel
theorem dX2_firstLaneInTurn_20 : decode cX2_firstLaneInTurn 20 = .ok (.ifCond .eq 5, 3) := by decide +kernel
theorem dX2_firstLaneInTurn_23 : decode cX2_firstLaneInTurn 23 = .ok (.iload_n 1, 1) := by decide +kernel
theorem dX2_firstLaneInTurn_24 : decode cX2_firstLaneInTurn 24 = .ok (.ireturn, 1) := by decide +kernel
theorem dX2_firstLaneInTurn_25 : decode cX2_firstLaneInTurn 25 = .ok (.aload_n 0, 1) := by decide +kernel
theorem dX2_firstLaneInTurn_26 : decode cX2_firstLaneInTurn 26 = .ok (.iload_n 1, 1) := by decide +kernel
theorem dX2_firstLaneInTurn_27 : decode cX2_firstLaneInTurn 27 = .ok (.invokevirtual 211, 3) := by decide +kernel
theorem dX2_firstLaneInTurn_30 : decode cX2_firstLaneInTurn 30 = .ok (.istore_n 1, 1) := by decide +kernel
theorem dX2_firstLaneInTurn_31 : decode cX2_firstLaneInTurn 31 = .ok (.iinc 2 1, 3) := by decide +kernel
theorem dX2_firstLaneInTurn_34 : decode cX2_firstLaneInTurn 34 = .ok (.goto (-27), 3) := by decide +kernel
theorem dX2_firstLaneInTurn_37 : decode cX2_firstLaneInTurn 37 = .ok (.iconst (-1), 1) := by decide +kernel
theorem dX2_firstLaneInTurn_38 : decode cX2_firstLaneInTurn 38 = .ok (.ireturn, 1) := by decide +kernel
theorem dX2_laneBehind_0 : decode cX2_laneBehind 0 = .ok (.iload_n 1, 1) := by decide +kernel
theorem dX2_laneBehind_1 : decode cX2_laneBehind 1 = .ok (.iconst 1, 1) := by decide +kernel
theorem dX2_laneBehind_2 : decode cX2_laneBehind 2 = .ok (.iadd, 1) := by decide +kernel
theorem dX2_laneBehind_3 : decode cX2_laneBehind 3 = .ok (.aload_n 0, 1) := by decide +kernel
theorem dX2_laneBehind_4 : decode cX2_laneBehind 4 = .ok (.getfield 36, 3) := by decide +kernel
theorem dX2_laneBehind_7 : decode cX2_laneBehind 7 = .ok (.if_icmp .ge 9, 3) := by decide +kernel
theorem dX2_laneBehind_10 : decode cX2_laneBehind 10 = .ok (.iload_n 1, 1) := by decide +kernel
theorem dX2_laneBehind_11 : decode cX2_laneBehind 11 = .ok (.iconst 1, 1) := by decide +kernel
theorem dX2_laneBehind_12 : decode cX2_laneBehind 12 = .ok (.iadd, 1) := by decide +kernel
theorem dX2_laneBehind_13 : decode cX2_laneBehind 13 = .ok (.goto 4, 3) := by decide +kernel
theorem dX2_laneBehind_16 : decode cX2_laneBehind 16 = .ok (.iconst 0, 1) := by decide +kernel
theorem dX2_laneBehind_17 : decode cX2_laneBehind 17 = .ok (.ireturn, 1) := by decide +kernel
theorem dX2_newBody_0 : decode cX2_newBody 0 = .ok (.aload_n 0, 1) := by decide +kernel
theorem dX2_newBody_1 : decode cX2_newBody 1 = .ok (.getfield 60, 3) := by decide +kernel
theorem dX2_newBody_4 : decode cX2_newBody 4 = .ok (.istore_n 2, 1) := by decide +kernel
theorem dX2_newBody_5 : decode cX2_newBody 5 = .ok (.aload_n 0, 1) := by decide +kernel
theorem dX2_newBody_6 : decode cX2_newBody 6 = .ok (.getfield 16, 3) := by decide +kernel
theorem dX2_newBody_9 : decode cX2_newBody 9 = .ok (.iload_n 2, 1) := by decide +kernel
theorem dX2_newBody_10 : decode cX2_newBody 10 = .ok (.iload_n 1, 1) := by decide +kernel
theorem dX2_newBody_11 : decode cX2_newBody 11 = .ok (.iastore, 1) := by decide +kernel
theorem dX2_newBody_12 : decode cX2_newBody 12 = .ok (.aload_n 0, 1) := by decide +kernel
theorem dX2_newBody_13 : decode cX2_newBody 13 = .ok (.dup, 1) := by decide +kernel
theorem dX2_newBody_14 : decode cX2_newBody 14 = .ok (.getfield 60, 3) := by decide +kernel
theorem dX2_newBody_17 : decode cX2_newBody 17 = .ok (.iconst 1, 1) := by decide +kernel
theorem dX2_newBody_18 : decode cX2_newBody 18 = .ok (.iadd, 1) := by decide +kernel
theorem dX2_newBody_19 : decode cX2_newBody 19 = .ok (.putfield 60, 3) := by decide +kernel
theorem dX2_newBody_22 : decode cX2_newBody 22 = .ok (.iload_n 2, 1) := by decide +kernel
theorem dX2_newBody_23 : decode cX2_newBody 23 = .ok (.ireturn, 1) := by decide +kernel
set_option maxRecDepth 20000 in
theorem ggX2_putInto_X0_add : GoodIn wsX2_putInto wsX0_add := goodIn_r _ [8, 9, 10, 34, 35] (by decide +kernel) (by decide +kernel)
set_option maxRecDepth 20000 in
theorem gX2_putInto_X0_add : GoodIn wsX2_putInto (wsV RX2 214 RX0 yX0_add wsX0_add) := goodIn_app (goodIn_of _ (by decide +kernel)) ggX2_putInto_X0_add
set_option maxRecDepth 20000 in
theorem ggX2_putInto_X2_laneBehind : GoodIn wsX2_putInto wsX2_laneBehind := goodIn_r _ [15, 16, 17, 18, 19, 20, 21, 22, 23, 24, 25, 26, 27, 28, 29, 30, 31, 32, 33] (by decide +kernel) (by decide +kernel)
set_option maxRecDepth 20000 in
theorem gX2_putInto_X2_laneBehind : GoodIn wsX2_putInto (wsV RX2 211 RX2 yX2_laneBehind wsX2_laneBehind) := goodIn_app (goodIn_of _ (by decide +kernel)) ggX2_putInto_X2_laneBehind
theorem dX2_putInto_0 : decode cX2_putInto 0 = .ok (.aload_n 0, 1) := by decide +kernel
theorem dX2_putInto_1 : decode cX2_putInto 1 = .ok (.getfield 11, 3) := by decide +kernel
theorem dX2_putInto_4 : decode cX2_putInto 4 = .ok (.iload_n 1, 1) := by decide +kernel
theorem dX2_putInto_5 : decode cX2_putInto 5 = .ok (.aaload, 1) := by decide +kernel
theorem dX2_putInto_6 : decode cX2_putInto 6 = .ok (.iload_n 2, 1) := by decide +kernel
theorem dX2_putInto_7 : decode cX2_putInto 7 = .ok (.invokevirtual 214, 3) := by decide +kernel
theorem dX2_putInto_10 : decode cX2_putInto 10 = .ok (.aload_n 0, 1) := by decide +kernel
theorem dX2_putInto_11 : decode cX2_putInto 11 = .ok (.getfield 20, 3) := by decide +kernel
theorem dX2_putInto_14 : decode cX2_putInto 14 = .ok (.iload_n 2, 1) := by decide +kernel
theorem dX2_putInto_15 : decode cX2_putInto 15 = .ok (.iload_n 1, 1) := by decide +kernel
theorem dX2_putInto_16 : decode cX2_putInto 16 = .ok (.iastore, 1) := by decide +kernel
theorem dX2_putInto_17 : decode cX2_putInto 17 = .ok (.aload_n 0, 1) := by decide +kernel
theorem dX2_putInto_18 : decode cX2_putInto 18 = .ok (.aload_n 0, 1) := by decide +kernel
theorem dX2_putInto_19 : decode cX2_putInto 19 = .ok (.iload_n 1, 1) := by decide +kernel
theorem dX2_putInto_20 : decode cX2_putInto 20 = .ok (.invokevirtual 211, 3) := by decide +kernel
theorem dX2_putInto_23 : decode cX2_putInto 23 = .ok (.putfield 208, 3) := by decide +kernel
theorem dX2_putInto_26 : decode cX2_putInto 26 = .ok (.return_, 1) := by decide +kernel
set_option maxRecDepth 20000 in
theorem ggX2_laneByExitRule_X2_laneOfLowestHead : GoodIn wsX2_laneByExitRule wsX2_laneOfLowestHead := goodIn_r _ [7, 8, 9, 10, 11, 12, 13, 14, 15, 16, 17, 18, 19, 6, 20, 21, 22, 23, 24, 25, 26, 27, 28, 29, 30, 31, 32, 33, 34, 39, 40, 41, 42, 43, 44, 45, 46, 47, 48, 49, 50, 51, 52, 53, 54, 55, 56, 57] (by decide +kernel) (by decide +kernel)
set_option maxRecDepth 20000 in
theorem gX2_laneByExitRule_X2_laneOfLowestHead : GoodIn wsX2_laneByExitRule (wsV RX2 218 RX2 yX2_laneOfLowestHead wsX2_laneOfLowestHead) := goodIn_app (goodIn_of _ (by decide +kernel)) ggX2_laneByExitRule_X2_laneOfLowestHead
set_option maxRecDepth 20000 in
theorem ggX2_laneByExitRule_X2_longestBlock : GoodIn wsX2_laneByExitRule wsX2_longestBlock := goodIn_r _ [38, 8, 27, 28, 29, 6, 30, 9, 31, 32, 33, 13, 34, 15, 10, 11, 12, 14, 16, 17, 18, 19, 20, 21, 22, 23, 24, 25, 26, 39, 40, 41, 42, 43, 44, 45, 46, 47, 48, 49, 50, 51, 52, 53, 54, 55, 56, 57] (by decide +kernel) (by decide +kernel)
set_option maxRecDepth 20000 in
theorem gX2_laneByExitRule_X2_longestBlock : GoodIn wsX2_laneByExitRule (wsV RX2 222 RX2 yX2_longestBlock wsX2_longestBlock) := goodIn_app (goodIn_of _ (by decide +kernel)) ggX2_laneByExitRule_X2_longestBlock
theorem dX2_laneByExitRule_0 : decode cX2_laneByExitRule 0 = .ok (.aload_n 0, 1) := by decide +kernel
theorem dX2_laneByExitRule_1 : decode cX2_laneByExitRule 1 = .ok (.getfield 73, 3) := by decide +kernel
theorem dX2_laneByExitRule_4 : decode cX2_laneByExitRule 4 = .ok (.ifCond .ne 7, 3) := by decide +kernel
theorem dX2_laneByExitRule_7 : decode cX2_laneByExitRule 7 = .ok (.iconst (-1), 1) := by decide +kernel
theorem dX2_laneByExitRule_8 : decode cX2_laneByExitRule 8 = .ok (.goto 12, 3) := by decide +kernel
theorem dX2_laneByExitRule_11 : decode cX2_laneByExitRule 11 = .ok (.aload_n 0, 1) := by decide +kernel
theorem dX2_laneByExitRule_12 : decode cX2_laneByExitRule 12 = .ok (.aload_n 0, 1) := by decide +kernel
theorem dX2_laneByExitRule_13 : decode cX2_laneByExitRule 13 = .ok (.getfield 46, 3) := by decide +kernel
theorem dX2_laneByExitRule_16 : decode cX2_laneByExitRule 16 = .ok (.iconst 1, 1) := by decide +kernel
theorem dX2_laneByExitRule_17 : decode cX2_laneByExitRule 17 = .ok (.invokevirtual 218, 3) := by decide +kernel
theorem dX2_laneByExitRule_20 : decode cX2_laneByExitRule 20 = .ok (.istore_n 1, 1) := by decide +kernel
theorem dX2_laneByExitRule_21 : decode cX2_laneByExitRule 21 = .ok (.iload_n 1, 1) := by decide +kernel
theorem dX2_laneByExitRule_22 : decode cX2_laneByExitRule 22 = .ok (.iconst (-1), 1) := by decide +kernel
theorem dX2_laneByExitRule_23 : decode cX2_laneByExitRule 23 = .ok (.if_icmp .eq 5, 3) := by decide +kernel
theorem dX2_laneByExitRule_26 : decode cX2_laneByExitRule 26 = .ok (.iload_n 1, 1) := by decide +kernel
theorem dX2_laneByExitRule_27 : decode cX2_laneByExitRule 27 = .ok (.ireturn, 1) := by decide +kernel
theorem dX2_laneByExitRule_28 : decode cX2_laneByExitRule 28 = .ok (.aload_n 0, 1) := by decide +kernel
theorem dX2_laneByExitRule_29 : decode cX2_laneByExitRule 29 = .ok (.getfield 73, 3) := by decide +kernel
theorem dX2_laneByExitRule_32 : decode cX2_laneByExitRule 32 = .ok (.iconst 2, 1) := by decide +kernel
theorem dX2_laneByExitRule_33 : decode cX2_laneByExitRule 33 = .ok (.if_icmp .ne 10, 3) := by decide +kernel
theorem dX2_laneByExitRule_36 : decode cX2_laneByExitRule 36 = .ok (.aload_n 0, 1) := by decide +kernel
theorem dX2_laneByExitRule_37 : decode cX2_laneByExitRule 37 = .ok (.invokevirtual 222, 3) := by decide +kernel
theorem dX2_laneByExitRule_40 : decode cX2_laneByExitRule 40 = .ok (.goto 4, 3) := by decide +kernel
theorem dX2_laneByExitRule_43 : decode cX2_laneByExitRule 43 = .ok (.iconst 1, 1) := by decide +kernel
theorem dX2_laneByExitRule_44 : decode cX2_laneByExitRule 44 = .ok (.istore_n 2, 1) := by decide +kernel
theorem dX2_laneByExitRule_45 : decode cX2_laneByExitRule 45 = .ok (.aload_n 0, 1) := by decide +kernel
theorem dX2_laneByExitRule_46 : decode cX2_laneByExitRule 46 = .ok (.bipush (-2), 2) := by decide +kernel
theorem dX2_laneByExitRule_48 : decode cX2_laneByExitRule 48 = .ok (.iload_n 2, 1) := by decide +kernel
theorem dX2_laneByExitRule_49 : decode cX2_laneByExitRule 49 = .ok (.invokevirtual 218, 3) := by decide +kernel
theorem dX2_laneByExitRule_52 : decode cX2_laneByExitRule 52 = .ok (.ireturn, 1) := by decide +kernel
set_option maxRecDepth 20000 in
theorem ggX2_laneOfLowestHead_X0_at : GoodIn wsX2_laneOfLowestHead wsX0_at := goodIn_r _ [7, 8, 9, 46, 47] (by decide +kernel) (by decide +kernel)
set_option maxRecDepth 20000 in
theorem gX2_laneOfLowestHead_X0_at : GoodIn wsX2_laneOfLowestHead (wsV RX2 167 RX0 yX0_at wsX0_at) := goodIn_app (goodIn_of _ (by decide +kernel)) ggX2_laneOfLowestHead_X0_at
set_option maxRecDepth 20000 in
theorem ggX2_laneOfLowestHead_X2_colourOf : GoodIn wsX2_laneOfLowestHead wsX2_colourOf := goodIn_r _ [14, 15, 16, 17, 18, 13, 19, 20, 29, 30, 31, 32, 33, 34, 35, 36, 37, 38, 39, 40, 41, 42, 43, 44, 45] (by decide +kernel) (by decide +kernel)
set_option maxRecDepth 20000 in
theorem gX2_laneOfLowestHead_X2_colourOf : GoodIn wsX2_laneOfLowestHead (wsV RX2 205 RX2 yX2_colourOf wsX2_colourOf) := goodIn_app (goodIn_of _ (by decide +kernel)) ggX2_laneOfLowestHead_X2_colourOf
set_option maxRecDepth 20000 in
theorem ggX2_laneOfLowestHead_X2_blockOf : GoodIn wsX2_laneOfLowestHead wsX2_blockOf := goodIn_r _ [24, 2, 25, 26, 27, 6, 28, 8, 3, 4, 5, 7, 9, 10, 11, 12, 13, 14, 15, 16, 17, 18, 19, 20, 29, 30, 31, 32, 33, 34, 35, 36, 37, 38, 39, 40, 41, 42, 43, 44, 45, 46, 47] (by decide +kernel) (by decide +kernel)
set_option maxRecDepth 20000 in
theorem gX2_laneOfLowestHead_X2_blockOf : GoodIn wsX2_laneOfLowestHead (wsV RX2 172 RX2 yX2_blockOf wsX2_blockOf) := goodIn_app (goodIn_of _ (by decide +kernel)) ggX2_laneOfLowestHead_X2_blockOf
theorem dX2_laneOfLowestHead_0 : decode cX2_laneOfLowestHead 0 = .ok (.iconst (-1), 1) := by decide +kernel
theorem dX2_laneOfLowestHead_1 : decode cX2_laneOfLowestHead 1 = .ok (.istore_n 3, 1) := by decide +kernel
theorem dX2_laneOfLowestHead_2 : decode cX2_laneOfLowestHead 2 = .ok (.bipush 99, 2) := by decide +kernel
theorem dX2_laneOfLowestHead_4 : decode cX2_laneOfLowestHead 4 = .ok (.istore 4, 2) := by decide +kernel
theorem dX2_laneOfLowestHead_6 : decode cX2_laneOfLowestHead 6 = .ok (.iconst 0, 1) := by decide +kernel
theorem dX2_laneOfLowestHead_7 : decode cX2_laneOfLowestHead 7 = .ok (.istore 5, 2) := by decide +kernel
theorem dX2_laneOfLowestHead_9 : decode cX2_laneOfLowestHead 9 = .ok (.iload 5, 2) := by decide +kernel
theorem dX2_laneOfLowestHead_11 : decode cX2_laneOfLowestHead 11 = .ok (.aload_n 0, 1) := by decide +kernel
theorem dX2_laneOfLowestHead_12 : decode cX2_laneOfLowestHead 12 = .ok (.getfield 36, 3) := by decide +kernel
theorem dX2_laneOfLowestHead_15 : decode cX2_laneOfLowestHead 15 = .ok (.if_icmp .ge 80, 3) := by decide +kernel
theorem dX2_laneOfLowestHead_18 : decode cX2_laneOfLowestHead 18 = .ok (.aload_n 0, 1) := by decide +kernel
theorem dX2_laneOfLowestHead_19 : decode cX2_laneOfLowestHead 19 = .ok (.getfield 11, 3) := by decide +kernel
theorem dX2_laneOfLowestHead_22 : decode cX2_laneOfLowestHead 22 = .ok (.iload 5, 2) := by decide +kernel
theorem dX2_laneOfLowestHead_24 : decode cX2_laneOfLowestHead 24 = .ok (.aaload, 1) := by decide +kernel
theorem dX2_laneOfLowestHead_25 : decode cX2_laneOfLowestHead 25 = .ok (.iconst 0, 1) := by decide +kernel
theorem dX2_laneOfLowestHead_26 : decode cX2_laneOfLowestHead 26 = .ok (.invokevirtual 167, 3) := by decide +kernel
theorem dX2_laneOfLowestHead_29 : decode cX2_laneOfLowestHead 29 = .ok (.istore 6, 2) := by decide +kernel
theorem dX2_laneOfLowestHead_31 : decode cX2_laneOfLowestHead 31 = .ok (.iload 6, 2) := by decide +kernel
theorem dX2_laneOfLowestHead_33 : decode cX2_laneOfLowestHead 33 = .ok (.iconst (-1), 1) := by decide +kernel
theorem dX2_laneOfLowestHead_34 : decode cX2_laneOfLowestHead 34 = .ok (.if_icmp .eq 23, 3) := by decide +kernel
theorem dX2_laneOfLowestHead_37 : decode cX2_laneOfLowestHead 37 = .ok (.iload_n 1, 1) := by decide +kernel
theorem dX2_laneOfLowestHead_38 : decode cX2_laneOfLowestHead 38 = .ok (.bipush (-2), 2) := by decide +kernel
theorem dX2_laneOfLowestHead_40 : decode cX2_laneOfLowestHead 40 = .ok (.if_icmp .eq 13, 3) := by decide +kernel
theorem dX2_laneOfLowestHead_43 : decode cX2_laneOfLowestHead 43 = .ok (.aload_n 0, 1) := by decide +kernel
theorem dX2_laneOfLowestHead_44 : decode cX2_laneOfLowestHead 44 = .ok (.iload 6, 2) := by decide +kernel
theorem dX2_laneOfLowestHead_46 : decode cX2_laneOfLowestHead 46 = .ok (.invokevirtual 205, 3) := by decide +kernel
theorem dX2_laneOfLowestHead_49 : decode cX2_laneOfLowestHead 49 = .ok (.iload_n 1, 1) := by decide +kernel
theorem dX2_laneOfLowestHead_50 : decode cX2_laneOfLowestHead 50 = .ok (.if_icmp .ne 7, 3) := by decide +kernel
theorem dX2_laneOfLowestHead_53 : decode cX2_laneOfLowestHead 53 = .ok (.iconst 1, 1) := by decide +kernel
theorem dX2_laneOfLowestHead_54 : decode cX2_laneOfLowestHead 54 = .ok (.goto 4, 3) := by decide +kernel
theorem dX2_laneOfLowestHead_57 : decode cX2_laneOfLowestHead 57 = .ok (.iconst 0, 1) := by decide +kernel
theorem dX2_laneOfLowestHead_58 : decode cX2_laneOfLowestHead 58 = .ok (.istore 7, 2) := by decide +kernel
theorem dX2_laneOfLowestHead_60 : decode cX2_laneOfLowestHead 60 = .ok (.iload 7, 2) := by decide +kernel
theorem dX2_laneOfLowestHead_62 : decode cX2_laneOfLowestHead 62 = .ok (.ifCond .eq 27, 3) := by decide +kernel
theorem dX2_laneOfLowestHead_65 : decode cX2_laneOfLowestHead 65 = .ok (.iload 6, 2) := by decide +kernel
theorem dX2_laneOfLowestHead_67 : decode cX2_laneOfLowestHead 67 = .ok (.iload 4, 2) := by decide +kernel
theorem dX2_laneOfLowestHead_69 : decode cX2_laneOfLowestHead 69 = .ok (.if_icmp .ge 20, 3) := by decide +kernel
theorem dX2_laneOfLowestHead_72 : decode cX2_laneOfLowestHead 72 = .ok (.aload_n 0, 1) := by decide +kernel
theorem dX2_laneOfLowestHead_73 : decode cX2_laneOfLowestHead 73 = .ok (.iload 5, 2) := by decide +kernel
theorem dX2_laneOfLowestHead_75 : decode cX2_laneOfLowestHead 75 = .ok (.invokevirtual 172, 3) := by decide +kernel
theorem dX2_laneOfLowestHead_78 : decode cX2_laneOfLowestHead 78 = .ok (.iload_n 2, 1) := by decide +kernel
theorem dX2_laneOfLowestHead_79 : decode cX2_laneOfLowestHead 79 = .ok (.if_icmp .lt 10, 3) := by decide +kernel
theorem dX2_laneOfLowestHead_82 : decode cX2_laneOfLowestHead 82 = .ok (.iload 5, 2) := by decide +kernel
theorem dX2_laneOfLowestHead_84 : decode cX2_laneOfLowestHead 84 = .ok (.istore_n 3, 1) := by decide +kernel
theorem dX2_laneOfLowestHead_85 : decode cX2_laneOfLowestHead 85 = .ok (.iload 6, 2) := by decide +kernel
theorem dX2_laneOfLowestHead_87 : decode cX2_laneOfLowestHead 87 = .ok (.istore 4, 2) := by decide +kernel
theorem dX2_laneOfLowestHead_89 : decode cX2_laneOfLowestHead 89 = .ok (.iinc 5 1, 3) := by decide +kernel
theorem dX2_laneOfLowestHead_92 : decode cX2_laneOfLowestHead 92 = .ok (.goto (-83), 3) := by decide +kernel
theorem dX2_laneOfLowestHead_95 : decode cX2_laneOfLowestHead 95 = .ok (.iload_n 3, 1) := by decide +kernel
theorem dX2_laneOfLowestHead_96 : decode cX2_laneOfLowestHead 96 = .ok (.ireturn, 1) := by decide +kernel
set_option maxRecDepth 20000 in
theorem ggX2_longestBlock_X2_blockOf : GoodIn wsX2_longestBlock wsX2_blockOf := goodIn_r _ [6, 7, 8, 9, 10, 11, 12, 13, 14, 15, 16, 17, 18, 19, 20, 21, 5, 22, 23, 24, 25, 26, 27, 28, 29, 30, 31, 32, 33, 34, 35, 36, 37, 38, 39, 40, 41, 42, 43, 44, 45, 46, 47] (by decide +kernel) (by decide +kernel)
set_option maxRecDepth 20000 in
theorem gX2_longestBlock_X2_blockOf : GoodIn wsX2_longestBlock (wsV RX2 172 RX2 yX2_blockOf wsX2_blockOf) := goodIn_app (goodIn_of _ (by decide +kernel)) ggX2_longestBlock_X2_blockOf
theorem dX2_longestBlock_0 : decode cX2_longestBlock 0 = .ok (.iconst 0, 1) := by decide +kernel
theorem dX2_longestBlock_1 : decode cX2_longestBlock 1 = .ok (.istore_n 1, 1) := by decide +kernel
theorem dX2_longestBlock_2 : decode cX2_longestBlock 2 = .ok (.iconst 0, 1) := by decide +kernel
theorem dX2_longestBlock_3 : decode cX2_longestBlock 3 = .ok (.istore_n 2, 1) := by decide +kernel
theorem dX2_longestBlock_4 : decode cX2_longestBlock 4 = .ok (.iload_n 2, 1) := by decide +kernel
theorem dX2_longestBlock_5 : decode cX2_longestBlock 5 = .ok (.aload_n 0, 1) := by decide +kernel
theorem dX2_longestBlock_6 : decode cX2_longestBlock 6 = .ok (.getfield 36, 3) := by decide +kernel
theorem dX2_longestBlock_9 : decode cX2_longestBlock 9 = .ok (.if_icmp .ge 22, 3) := by decide +kernel
theorem dX2_longestBlock_12 : decode cX2_longestBlock 12 = .ok (.aload_n 0, 1) := by decide +kernel
theorem dX2_longestBlock_13 : decode cX2_longestBlock 13 = .ok (.iload_n 2, 1) := by decide +kernel
theorem dX2_longestBlock_14 : decode cX2_longestBlock 14 = .ok (.invokevirtual 172, 3) := by decide +kernel
theorem dX2_longestBlock_17 : decode cX2_longestBlock 17 = .ok (.istore_n 3, 1) := by decide +kernel
theorem dX2_longestBlock_18 : decode cX2_longestBlock 18 = .ok (.iload_n 3, 1) := by decide +kernel
theorem dX2_longestBlock_19 : decode cX2_longestBlock 19 = .ok (.iload_n 1, 1) := by decide +kernel
theorem dX2_longestBlock_20 : decode cX2_longestBlock 20 = .ok (.if_icmp .le 5, 3) := by decide +kernel
theorem dX2_longestBlock_23 : decode cX2_longestBlock 23 = .ok (.iload_n 3, 1) := by decide +kernel
theorem dX2_longestBlock_24 : decode cX2_longestBlock 24 = .ok (.istore_n 1, 1) := by decide +kernel
theorem dX2_longestBlock_25 : decode cX2_longestBlock 25 = .ok (.iinc 2 1, 3) := by decide +kernel
theorem dX2_longestBlock_28 : decode cX2_longestBlock 28 = .ok (.goto (-24), 3) := by decide +kernel
theorem dX2_longestBlock_31 : decode cX2_longestBlock 31 = .ok (.iload_n 1, 1) := by decide +kernel
theorem dX2_longestBlock_32 : decode cX2_longestBlock 32 = .ok (.ireturn, 1) := by decide +kernel
set_option maxRecDepth 20000 in
theorem ggX2_blockOf_X0_count : GoodIn wsX2_blockOf wsX0_count := goodIn_r _ [6, 7, 41, 42] (by decide +kernel) (by decide +kernel)
set_option maxRecDepth 20000 in
theorem gX2_blockOf_X0_count : GoodIn wsX2_blockOf (wsV RX2 164 RX0 yX0_count wsX0_count) := goodIn_app (goodIn_of _ (by decide +kernel)) ggX2_blockOf_X0_count
set_option maxRecDepth 20000 in
theorem ggX2_blockOf_X0_at : GoodIn wsX2_blockOf wsX0_at := goodIn_r _ [11, 7, 12, 41, 42] (by decide +kernel) (by decide +kernel)
set_option maxRecDepth 20000 in
theorem gX2_blockOf_X0_at : GoodIn wsX2_blockOf (wsV RX2 167 RX0 yX0_at wsX0_at) := goodIn_app (goodIn_of _ (by decide +kernel)) ggX2_blockOf_X0_at
set_option maxRecDepth 20000 in
theorem ggX2_blockOf_X2_colourOf : GoodIn wsX2_blockOf wsX2_colourOf := goodIn_r _ [17, 18, 19, 20, 21, 16, 22, 23, 24, 25, 26, 27, 28, 29, 30, 31, 32, 33, 34, 35, 36, 37, 38, 39, 40] (by decide +kernel) (by decide +kernel)
set_option maxRecDepth 20000 in
theorem gX2_blockOf_X2_colourOf : GoodIn wsX2_blockOf (wsV RX2 205 RX2 yX2_colourOf wsX2_colourOf) := goodIn_app (goodIn_of _ (by decide +kernel)) ggX2_blockOf_X2_colourOf
theorem dX2_blockOf_0 : decode cX2_blockOf 0 = .ok (.aload_n 0, 1) := by decide +kernel
theorem dX2_blockOf_1 : decode cX2_blockOf 1 = .ok (.getfield 11, 3) := by decide +kernel
theorem dX2_blockOf_4 : decode cX2_blockOf 4 = .ok (.iload_n 1, 1) := by decide +kernel
theorem dX2_blockOf_5 : decode cX2_blockOf 5 = .ok (.aaload, 1) := by decide +kernel
theorem dX2_blockOf_6 : decode cX2_blockOf 6 = .ok (.astore_n 2, 1) := by decide +kernel
theorem dX2_blockOf_7 : decode cX2_blockOf 7 = .ok (.iconst 0, 1) := by decide +kernel
theorem dX2_blockOf_8 : decode cX2_blockOf 8 = .ok (.istore_n 3, 1) := by decide +kernel
theorem dX2_blockOf_9 : decode cX2_blockOf 9 = .ok (.iload_n 3, 1) := by decide +kernel
theorem dX2_blockOf_10 : decode cX2_blockOf 10 = .ok (.aload_n 2, 1) := by decide +kernel
theorem dX2_blockOf_11 : decode cX2_blockOf 11 = .ok (.invokevirtual 164, 3) := by decide +kernel
theorem dX2_blockOf_14 : decode cX2_blockOf 14 = .ok (.if_icmp .ge 30, 3) := by decide +kernel
theorem dX2_blockOf_17 : decode cX2_blockOf 17 = .ok (.aload_n 0, 1) := by decide +kernel
theorem dX2_blockOf_18 : decode cX2_blockOf 18 = .ok (.aload_n 2, 1) := by decide +kernel
theorem dX2_blockOf_19 : decode cX2_blockOf 19 = .ok (.iload_n 3, 1) := by decide +kernel
theorem dX2_blockOf_20 : decode cX2_blockOf 20 = .ok (.invokevirtual 167, 3) := by decide +kernel
theorem dX2_blockOf_23 : decode cX2_blockOf 23 = .ok (.invokevirtual 205, 3) := by decide +kernel
theorem dX2_blockOf_26 : decode cX2_blockOf 26 = .ok (.aload_n 0, 1) := by decide +kernel
theorem dX2_blockOf_27 : decode cX2_blockOf 27 = .ok (.aload_n 2, 1) := by decide +kernel
theorem dX2_blockOf_28 : decode cX2_blockOf 28 = .ok (.iconst 0, 1) := by decide +kernel
theorem dX2_blockOf_29 : decode cX2_blockOf 29 = .ok (.invokevirtual 167, 3) := by decide +kernel
theorem dX2_blockOf_32 : decode cX2_blockOf 32 = .ok (.invokevirtual 205, 3) := by decide +kernel
theorem dX2_blockOf_35 : decode cX2_blockOf 35 = .ok (.if_icmp .ne 9, 3) := by decide +kernel
theorem dX2_blockOf_38 : decode cX2_blockOf 38 = .ok (.iinc 3 1, 3) := by decide +kernel
theorem dX2_blockOf_41 : decode cX2_blockOf 41 = .ok (.goto (-32), 3) := by decide +kernel
theorem dX2_blockOf_44 : decode cX2_blockOf 44 = .ok (.iload_n 3, 1) := by decide +kernel
theorem dX2_blockOf_45 : decode cX2_blockOf 45 = .ok (.ireturn, 1) := by decide +kernel
set_option maxRecDepth 20000 in
theorem ggX2_colourOf_X2_isBody : GoodIn wsX2_colourOf wsX2_isBody := goodIn_r _ [6, 7, 8, 9, 10, 11, 12, 13, 14, 15, 16, 17, 18, 19, 20, 21, 22, 23, 24] (by decide +kernel) (by decide +kernel)
set_option maxRecDepth 20000 in
theorem gX2_colourOf_X2_isBody : GoodIn wsX2_colourOf (wsV RX2 144 RX2 yX2_isBody wsX2_isBody) := goodIn_app (goodIn_of _ (by decide +kernel)) ggX2_colourOf_X2_isBody
theorem dX2_colourOf_0 : decode cX2_colourOf 0 = .ok (.aload_n 0, 1) := by decide +kernel
theorem dX2_colourOf_1 : decode cX2_colourOf 1 = .ok (.iload_n 1, 1) := by decide +kernel
theorem dX2_colourOf_2 : decode cX2_colourOf 2 = .ok (.invokevirtual 144, 3) := by decide +kernel
theorem dX2_colourOf_5 : decode cX2_colourOf 5 = .ok (.ifCond .eq 12, 3) := by decide +kernel
theorem dX2_colourOf_8 : decode cX2_colourOf 8 = .ok (.aload_n 0, 1) := by decide +kernel
theorem dX2_colourOf_9 : decode cX2_colourOf 9 = .ok (.getfield 16, 3) := by decide +kernel
theorem dX2_colourOf_12 : decode cX2_colourOf 12 = .ok (.iload_n 1, 1) := by decide +kernel
theorem dX2_colourOf_13 : decode cX2_colourOf 13 = .ok (.iaload, 1) := by decide +kernel
theorem dX2_colourOf_14 : decode cX2_colourOf 14 = .ok (.goto 4, 3) := by decide +kernel
theorem dX2_colourOf_17 : decode cX2_colourOf 17 = .ok (.iconst (-1), 1) := by decide +kernel
theorem dX2_colourOf_18 : decode cX2_colourOf 18 = .ok (.ireturn, 1) := by decide +kernel
set_option maxRecDepth 20000 in
theorem ggX2_takeHeadOf_X0_takeHead : GoodIn wsX2_takeHeadOf wsX0_takeHead := goodIn_r _ [11, 12, 13, 14, 15, 16, 10, 17, 44, 45] (by decide +kernel) (by decide +kernel)
set_option maxRecDepth 20000 in
theorem gX2_takeHeadOf_X0_takeHead : GoodIn wsX2_takeHeadOf (wsV RX2 225 RX0 yX0_takeHead wsX0_takeHead) := goodIn_app (goodIn_of _ (by decide +kernel)) ggX2_takeHeadOf_X0_takeHead
set_option maxRecDepth 20000 in
theorem ggX2_takeHeadOf_X2_isBody : GoodIn wsX2_takeHeadOf wsX2_isBody := goodIn_r _ [22, 23, 27, 28, 29, 30, 31, 32, 33, 34, 35, 36, 37, 38, 39, 40, 41, 42, 43] (by decide +kernel) (by decide +kernel)
set_option maxRecDepth 20000 in
theorem gX2_takeHeadOf_X2_isBody : GoodIn wsX2_takeHeadOf (wsV RX2 144 RX2 yX2_isBody wsX2_isBody) := goodIn_app (goodIn_of _ (by decide +kernel)) ggX2_takeHeadOf_X2_isBody
set_option maxRecDepth 20000 in
theorem ggX2_takeHeadOf_X2_changeBetween : GoodIn wsX2_takeHeadOf wsX2_changeBetween := goodIn_r _ [26] (by decide +kernel) (by decide +kernel)
set_option maxRecDepth 20000 in
theorem gX2_takeHeadOf_X2_changeBetween : GoodIn wsX2_takeHeadOf (va_wsS RX2 228 yX2_changeBetween wsX2_changeBetween) := goodIn_app (goodIn_of _ (by decide +kernel)) ggX2_takeHeadOf_X2_changeBetween
theorem dX2_takeHeadOf_0 : decode cX2_takeHeadOf 0 = .ok (.aload_n 0, 1) := by decide +kernel
theorem dX2_takeHeadOf_1 : decode cX2_takeHeadOf 1 = .ok (.getfield 11, 3) := by decide +kernel
theorem dX2_takeHeadOf_4 : decode cX2_takeHeadOf 4 = .ok (.iload_n 1, 1) := by decide +kernel
theorem dX2_takeHeadOf_5 : decode cX2_takeHeadOf 5 = .ok (.aaload, 1) := by decide +kernel
theorem dX2_takeHeadOf_6 : decode cX2_takeHeadOf 6 = .ok (.invokevirtual 225, 3) := by decide +kernel
theorem dX2_takeHeadOf_9 : decode cX2_takeHeadOf 9 = .ok (.istore_n 2, 1) := by decide +kernel
theorem dX2_takeHeadOf_10 : decode cX2_takeHeadOf 10 = .ok (.aload_n 0, 1) := by decide +kernel
theorem dX2_takeHeadOf_11 : decode cX2_takeHeadOf 11 = .ok (.iload_n 2, 1) := by decide +kernel
theorem dX2_takeHeadOf_12 : decode cX2_takeHeadOf 12 = .ok (.invokevirtual 144, 3) := by decide +kernel
theorem dX2_takeHeadOf_15 : decode cX2_takeHeadOf 15 = .ok (.ifCond .ne 5, 3) := by decide +kernel
theorem dX2_takeHeadOf_18 : decode cX2_takeHeadOf 18 = .ok (.iconst (-1), 1) := by decide +kernel
theorem dX2_takeHeadOf_19 : decode cX2_takeHeadOf 19 = .ok (.ireturn, 1) := by decide +kernel
theorem dX2_takeHeadOf_20 : decode cX2_takeHeadOf 20 = .ok (.aload_n 0, 1) := by decide +kernel
theorem dX2_takeHeadOf_21 : decode cX2_takeHeadOf 21 = .ok (.getfield 20, 3) := by decide +kernel
theorem dX2_takeHeadOf_24 : decode cX2_takeHeadOf 24 = .ok (.iload_n 2, 1) := by decide +kernel
theorem dX2_takeHeadOf_25 : decode cX2_takeHeadOf 25 = .ok (.bipush 10, 2) := by decide +kernel
theorem dX2_takeHeadOf_27 : decode cX2_takeHeadOf 27 = .ok (.iastore, 1) := by decide +kernel
theorem dX2_takeHeadOf_28 : decode cX2_takeHeadOf 28 = .ok (.aload_n 0, 1) := by decide +kernel
theorem dX2_takeHeadOf_29 : decode cX2_takeHeadOf 29 = .ok (.dup, 1) := by decide +kernel
theorem dX2_takeHeadOf_30 : decode cX2_takeHeadOf 30 = .ok (.getfield 175, 3) := by decide +kernel
theorem dX2_takeHeadOf_33 : decode cX2_takeHeadOf 33 = .ok (.aload_n 0, 1) := by decide +kernel
theorem dX2_takeHeadOf_34 : decode cX2_takeHeadOf 34 = .ok (.getfield 46, 3) := by decide +kernel
theorem dX2_takeHeadOf_37 : decode cX2_takeHeadOf 37 = .ok (.aload_n 0, 1) := by decide +kernel
theorem dX2_takeHeadOf_38 : decode cX2_takeHeadOf 38 = .ok (.getfield 16, 3) := by decide +kernel
theorem dX2_takeHeadOf_41 : decode cX2_takeHeadOf 41 = .ok (.iload_n 2, 1) := by decide +kernel
theorem dX2_takeHeadOf_42 : decode cX2_takeHeadOf 42 = .ok (.iaload, 1) := by decide +kernel
theorem dX2_takeHeadOf_43 : decode cX2_takeHeadOf 43 = .ok (.invokestatic 228, 3) := by decide +kernel
theorem dX2_takeHeadOf_46 : decode cX2_takeHeadOf 46 = .ok (.iadd, 1) := by decide +kernel
theorem dX2_takeHeadOf_47 : decode cX2_takeHeadOf 47 = .ok (.putfield 175, 3) := by decide +kernel
theorem dX2_takeHeadOf_50 : decode cX2_takeHeadOf 50 = .ok (.aload_n 0, 1) := by decide +kernel
theorem dX2_takeHeadOf_51 : decode cX2_takeHeadOf 51 = .ok (.dup, 1) := by decide +kernel
theorem dX2_takeHeadOf_52 : decode cX2_takeHeadOf 52 = .ok (.getfield 178, 3) := by decide +kernel
theorem dX2_takeHeadOf_55 : decode cX2_takeHeadOf 55 = .ok (.iconst 1, 1) := by decide +kernel
theorem dX2_takeHeadOf_56 : decode cX2_takeHeadOf 56 = .ok (.iadd, 1) := by decide +kernel
theorem dX2_takeHeadOf_57 : decode cX2_takeHeadOf 57 = .ok (.putfield 178, 3) := by decide +kernel
theorem dX2_takeHeadOf_60 : decode cX2_takeHeadOf 60 = .ok (.aload_n 0, 1) := by decide +kernel
theorem dX2_takeHeadOf_61 : decode cX2_takeHeadOf 61 = .ok (.aload_n 0, 1) := by decide +kernel
theorem dX2_takeHeadOf_62 : decode cX2_takeHeadOf 62 = .ok (.getfield 16, 3) := by decide +kernel
theorem dX2_takeHeadOf_65 : decode cX2_takeHeadOf 65 = .ok (.iload_n 2, 1) := by decide +kernel
theorem dX2_takeHeadOf_66 : decode cX2_takeHeadOf 66 = .ok (.iaload, 1) := by decide +kernel
theorem dX2_takeHeadOf_67 : decode cX2_takeHeadOf 67 = .ok (.putfield 46, 3) := by decide +kernel
theorem dX2_takeHeadOf_70 : decode cX2_takeHeadOf 70 = .ok (.iload_n 2, 1) := by decide +kernel
theorem dX2_takeHeadOf_71 : decode cX2_takeHeadOf 71 = .ok (.ireturn, 1) := by decide +kernel
theorem dX2_changeBetween_0 : decode cX2_changeBetween 0 = .ok (.iload_n 0, 1) := by decide +kernel
theorem dX2_changeBetween_1 : decode cX2_changeBetween 1 = .ok (.iconst (-1), 1) := by decide +kernel
theorem dX2_changeBetween_2 : decode cX2_changeBetween 2 = .ok (.if_icmp .eq 8, 3) := by decide +kernel
theorem dX2_changeBetween_5 : decode cX2_changeBetween 5 = .ok (.iload_n 0, 1) := by decide +kernel
theorem dX2_changeBetween_6 : decode cX2_changeBetween 6 = .ok (.iload_n 1, 1) := by decide +kernel
theorem dX2_changeBetween_7 : decode cX2_changeBetween 7 = .ok (.if_icmp .ne 7, 3) := by decide +kernel
theorem dX2_changeBetween_10 : decode cX2_changeBetween 10 = .ok (.iconst 0, 1) := by decide +kernel
theorem dX2_changeBetween_11 : decode cX2_changeBetween 11 = .ok (.goto 4, 3) := by decide +kernel
theorem dX2_changeBetween_14 : decode cX2_changeBetween 14 = .ok (.iconst 1, 1) := by decide +kernel
theorem dX2_changeBetween_15 : decode cX2_changeBetween 15 = .ok (.ireturn, 1) := by decide +kernel
set_option maxRecDepth 20000 in
theorem ggX2_forgetBodies_X0_clear : GoodIn wsX2_forgetBodies wsX0_clear := goodIn_r _ [12, 13, 31, 32] (by decide +kernel) (by decide +kernel)
set_option maxRecDepth 20000 in
theorem gX2_forgetBodies_X0_clear : GoodIn wsX2_forgetBodies (wsV RX2 231 RX0 yX0_clear wsX0_clear) := goodIn_app (goodIn_of _ (by decide +kernel)) ggX2_forgetBodies_X0_clear
theorem dX2_forgetBodies_0 : decode cX2_forgetBodies 0 = .ok (.iconst 0, 1) := by decide +kernel
theorem dX2_forgetBodies_1 : decode cX2_forgetBodies 1 = .ok (.istore_n 1, 1) := by decide +kernel
theorem dX2_forgetBodies_2 : decode cX2_forgetBodies 2 = .ok (.iload_n 1, 1) := by decide +kernel
theorem dX2_forgetBodies_3 : decode cX2_forgetBodies 3 = .ok (.iconst 5, 1) := by decide +kernel
theorem dX2_forgetBodies_4 : decode cX2_forgetBodies 4 = .ok (.if_icmp .ge 18, 3) := by decide +kernel
theorem dX2_forgetBodies_7 : decode cX2_forgetBodies 7 = .ok (.aload_n 0, 1) := by decide +kernel
theorem dX2_forgetBodies_8 : decode cX2_forgetBodies 8 = .ok (.getfield 11, 3) := by decide +kernel
theorem dX2_forgetBodies_11 : decode cX2_forgetBodies 11 = .ok (.iload_n 1, 1) := by decide +kernel
theorem dX2_forgetBodies_12 : decode cX2_forgetBodies 12 = .ok (.aaload, 1) := by decide +kernel
theorem dX2_forgetBodies_13 : decode cX2_forgetBodies 13 = .ok (.invokevirtual 231, 3) := by decide +kernel
theorem dX2_forgetBodies_16 : decode cX2_forgetBodies 16 = .ok (.iinc 1 1, 3) := by decide +kernel
theorem dX2_forgetBodies_19 : decode cX2_forgetBodies 19 = .ok (.goto (-17), 3) := by decide +kernel
theorem dX2_forgetBodies_22 : decode cX2_forgetBodies 22 = .ok (.aload_n 0, 1) := by decide +kernel
theorem dX2_forgetBodies_23 : decode cX2_forgetBodies 23 = .ok (.iconst 0, 1) := by decide +kernel
theorem dX2_forgetBodies_24 : decode cX2_forgetBodies 24 = .ok (.putfield 60, 3) := by decide +kernel
theorem dX2_forgetBodies_27 : decode cX2_forgetBodies 27 = .ok (.aload_n 0, 1) := by decide +kernel
theorem dX2_forgetBodies_28 : decode cX2_forgetBodies 28 = .ok (.iconst 0, 1) := by decide +kernel
theorem dX2_forgetBodies_29 : decode cX2_forgetBodies 29 = .ok (.putfield 161, 3) := by decide +kernel
theorem dX2_forgetBodies_32 : decode cX2_forgetBodies 32 = .ok (.aload_n 0, 1) := by decide +kernel
theorem dX2_forgetBodies_33 : decode cX2_forgetBodies 33 = .ok (.iconst 0, 1) := by decide +kernel
theorem dX2_forgetBodies_34 : decode cX2_forgetBodies 34 = .ok (.putfield 208, 3) := by decide +kernel
theorem dX2_forgetBodies_37 : decode cX2_forgetBodies 37 = .ok (.aload_n 0, 1) := by decide +kernel
theorem dX2_forgetBodies_38 : decode cX2_forgetBodies 38 = .ok (.iconst (-1), 1) := by decide +kernel
theorem dX2_forgetBodies_39 : decode cX2_forgetBodies 39 = .ok (.putfield 46, 3) := by decide +kernel
theorem dX2_forgetBodies_42 : decode cX2_forgetBodies 42 = .ok (.aload_n 0, 1) := by decide +kernel
theorem dX2_forgetBodies_43 : decode cX2_forgetBodies 43 = .ok (.iconst 0, 1) := by decide +kernel
theorem dX2_forgetBodies_44 : decode cX2_forgetBodies 44 = .ok (.putfield 175, 3) := by decide +kernel
theorem dX2_forgetBodies_47 : decode cX2_forgetBodies 47 = .ok (.aload_n 0, 1) := by decide +kernel
theorem dX2_forgetBodies_48 : decode cX2_forgetBodies 48 = .ok (.iconst 0, 1) := by decide +kernel
theorem dX2_forgetBodies_49 : decode cX2_forgetBodies 49 = .ok (.putfield 178, 3) := by decide +kernel
theorem dX2_forgetBodies_52 : decode cX2_forgetBodies 52 = .ok (.return_, 1) := by decide +kernel
set_option maxRecDepth 20000 in
theorem ggX2_copyLanesIntoPlan_X1_clear : GoodIn wsX2_copyLanesIntoPlan wsX1_clear := goodIn_r _ [8, 9, 54, 55, 56, 57, 58, 59] (by decide +kernel) (by decide +kernel)
set_option maxRecDepth 20000 in
theorem gX2_copyLanesIntoPlan_X1_clear : GoodIn wsX2_copyLanesIntoPlan (wsV RX2 234 RX1 yX1_clear wsX1_clear) := goodIn_app (goodIn_of _ (by decide +kernel)) ggX2_copyLanesIntoPlan_X1_clear
set_option maxRecDepth 20000 in
theorem ggX2_copyLanesIntoPlan_X0_count : GoodIn wsX2_copyLanesIntoPlan wsX0_count := goodIn_r _ [14, 15, 60, 61] (by decide +kernel) (by decide +kernel)
set_option maxRecDepth 20000 in
theorem gX2_copyLanesIntoPlan_X0_count : GoodIn wsX2_copyLanesIntoPlan (wsV RX2 164 RX0 yX0_count wsX0_count) := goodIn_app (goodIn_of _ (by decide +kernel)) ggX2_copyLanesIntoPlan_X0_count
set_option maxRecDepth 20000 in
theorem ggX2_copyLanesIntoPlan_X0_at : GoodIn wsX2_copyLanesIntoPlan wsX0_at := goodIn_r _ [19, 15, 20, 60, 61] (by decide +kernel) (by decide +kernel)
set_option maxRecDepth 20000 in
theorem gX2_copyLanesIntoPlan_X0_at : GoodIn wsX2_copyLanesIntoPlan (wsV RX2 167 RX0 yX0_at wsX0_at) := goodIn_app (goodIn_of _ (by decide +kernel)) ggX2_copyLanesIntoPlan_X0_at
set_option maxRecDepth 20000 in
theorem ggX2_copyLanesIntoPlan_X2_colourOf : GoodIn wsX2_copyLanesIntoPlan wsX2_colourOf := goodIn_r _ [25, 26, 27, 28, 29, 24, 30, 31, 37, 38, 39, 40, 41, 42, 43, 44, 45, 46, 47, 48, 49, 50, 51, 52, 53] (by decide +kernel) (by decide +kernel)
set_option maxRecDepth 20000 in
theorem gX2_copyLanesIntoPlan_X2_colourOf : GoodIn wsX2_copyLanesIntoPlan (wsV RX2 205 RX2 yX2_colourOf wsX2_colourOf) := goodIn_app (goodIn_of _ (by decide +kernel)) ggX2_copyLanesIntoPlan_X2_colourOf
set_option maxRecDepth 20000 in
theorem ggX2_copyLanesIntoPlan_X1_add : GoodIn wsX2_copyLanesIntoPlan wsX1_add := goodIn_r _ [35, 9, 36, 54, 55, 56, 57, 58, 59] (by decide +kernel) (by decide +kernel)
set_option maxRecDepth 20000 in
theorem gX2_copyLanesIntoPlan_X1_add : GoodIn wsX2_copyLanesIntoPlan (wsV RX2 235 RX1 yX1_add wsX1_add) := goodIn_app (goodIn_of _ (by decide +kernel)) ggX2_copyLanesIntoPlan_X1_add
theorem dX2_copyLanesIntoPlan_0 : decode cX2_copyLanesIntoPlan 0 = .ok (.aload_n 0, 1) := by decide +kernel
theorem dX2_copyLanesIntoPlan_1 : decode cX2_copyLanesIntoPlan 1 = .ok (.getfield 32, 3) := by decide +kernel
theorem dX2_copyLanesIntoPlan_4 : decode cX2_copyLanesIntoPlan 4 = .ok (.invokevirtual 234, 3) := by decide +kernel
theorem dX2_copyLanesIntoPlan_7 : decode cX2_copyLanesIntoPlan 7 = .ok (.iconst 0, 1) := by decide +kernel
theorem dX2_copyLanesIntoPlan_8 : decode cX2_copyLanesIntoPlan 8 = .ok (.istore_n 1, 1) := by decide +kernel
theorem dX2_copyLanesIntoPlan_9 : decode cX2_copyLanesIntoPlan 9 = .ok (.iload_n 1, 1) := by decide +kernel
theorem dX2_copyLanesIntoPlan_10 : decode cX2_copyLanesIntoPlan 10 = .ok (.aload_n 0, 1) := by decide +kernel
theorem dX2_copyLanesIntoPlan_11 : decode cX2_copyLanesIntoPlan 11 = .ok (.getfield 36, 3) := by decide +kernel
theorem dX2_copyLanesIntoPlan_14 : decode cX2_copyLanesIntoPlan 14 = .ok (.if_icmp .ge 52, 3) := by decide +kernel
theorem dX2_copyLanesIntoPlan_17 : decode cX2_copyLanesIntoPlan 17 = .ok (.iconst 0, 1) := by decide +kernel
theorem dX2_copyLanesIntoPlan_18 : decode cX2_copyLanesIntoPlan 18 = .ok (.istore_n 2, 1) := by decide +kernel
theorem dX2_copyLanesIntoPlan_19 : decode cX2_copyLanesIntoPlan 19 = .ok (.iload_n 2, 1) := by decide +kernel
theorem dX2_copyLanesIntoPlan_20 : decode cX2_copyLanesIntoPlan 20 = .ok (.aload_n 0, 1) := by decide +kernel
theorem dX2_copyLanesIntoPlan_21 : decode cX2_copyLanesIntoPlan 21 = .ok (.getfield 11, 3) := by decide +kernel
theorem dX2_copyLanesIntoPlan_24 : decode cX2_copyLanesIntoPlan 24 = .ok (.iload_n 1, 1) := by decide +kernel
theorem dX2_copyLanesIntoPlan_25 : decode cX2_copyLanesIntoPlan 25 = .ok (.aaload, 1) := by decide +kernel
theorem dX2_copyLanesIntoPlan_26 : decode cX2_copyLanesIntoPlan 26 = .ok (.invokevirtual 164, 3) := by decide +kernel
theorem dX2_copyLanesIntoPlan_29 : decode cX2_copyLanesIntoPlan 29 = .ok (.if_icmp .ge 31, 3) := by decide +kernel
theorem dX2_copyLanesIntoPlan_32 : decode cX2_copyLanesIntoPlan 32 = .ok (.aload_n 0, 1) := by decide +kernel
theorem dX2_copyLanesIntoPlan_33 : decode cX2_copyLanesIntoPlan 33 = .ok (.getfield 32, 3) := by decide +kernel
theorem dX2_copyLanesIntoPlan_36 : decode cX2_copyLanesIntoPlan 36 = .ok (.iload_n 1, 1) := by decide +kernel
theorem dX2_copyLanesIntoPlan_37 : decode cX2_copyLanesIntoPlan 37 = .ok (.aload_n 0, 1) := by decide +kernel
theorem dX2_copyLanesIntoPlan_38 : decode cX2_copyLanesIntoPlan 38 = .ok (.aload_n 0, 1) := by decide +kernel
theorem dX2_copyLanesIntoPlan_39 : decode cX2_copyLanesIntoPlan 39 = .ok (.getfield 11, 3) := by decide +kernel
theorem dX2_copyLanesIntoPlan_42 : decode cX2_copyLanesIntoPlan 42 = .ok (.iload_n 1, 1) := by decide +kernel
theorem dX2_copyLanesIntoPlan_43 : decode cX2_copyLanesIntoPlan 43 = .ok (.aaload, 1) := by decide +kernel
theorem dX2_copyLanesIntoPlan_44 : decode cX2_copyLanesIntoPlan 44 = .ok (.iload_n 2, 1) := by decide +kernel
theorem dX2_copyLanesIntoPlan_45 : decode cX2_copyLanesIntoPlan 45 = .ok (.invokevirtual 167, 3) := by decide +kernel
theorem dX2_copyLanesIntoPlan_48 : decode cX2_copyLanesIntoPlan 48 = .ok (.invokevirtual 205, 3) := by decide +kernel
theorem dX2_copyLanesIntoPlan_51 : decode cX2_copyLanesIntoPlan 51 = .ok (.invokevirtual 235, 3) := by decide +kernel
theorem dX2_copyLanesIntoPlan_54 : decode cX2_copyLanesIntoPlan 54 = .ok (.iinc 2 1, 3) := by decide +kernel
theorem dX2_copyLanesIntoPlan_57 : decode cX2_copyLanesIntoPlan 57 = .ok (.goto (-38), 3) := by decide +kernel
theorem dX2_copyLanesIntoPlan_60 : decode cX2_copyLanesIntoPlan 60 = .ok (.iinc 1 1, 3) := by decide +kernel
theorem dX2_copyLanesIntoPlan_63 : decode cX2_copyLanesIntoPlan 63 = .ok (.goto (-54), 3) := by decide +kernel
theorem dX2_copyLanesIntoPlan_66 : decode cX2_copyLanesIntoPlan 66 = .ok (.return_, 1) := by decide +kernel
