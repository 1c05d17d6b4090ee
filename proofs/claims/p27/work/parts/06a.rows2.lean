set_option maxRecDepth 20000 in
theorem ggX2_init_X0_init : GoodIn wsX2_init wsX0_init := goodIn_r _ [22, 23, 2, 3, 8, 24, 52, 53] (by decide +kernel) (by decide +kernel)
set_option maxRecDepth 20000 in
theorem gX2_init_X0_init_n15 : GoodIn wsX2_init (wsX0_init) := ggX2_init_X0_init
set_option maxRecDepth 20000 in
theorem ggX2_init_X1_init : GoodIn wsX2_init wsX1_init := goodIn_r _ [26, 27, 2, 3, 28, 8, 29, 30, 31, 32, 33, 34, 54, 55, 56, 57, 58, 59] (by decide +kernel) (by decide +kernel)
set_option maxRecDepth 20000 in
theorem gX2_init_X1_init_n31 : GoodIn wsX2_init (wsX1_init) := ggX2_init_X1_init
theorem dX2_init_0 : decode cX2_init 0 = .ok (.aload_n 0, 1) := by decide +kernel
theorem dX2_init_1 : decode cX2_init 1 = .ok (.invokespecial 1, 3) := by decide +kernel
theorem dX2_init_4 : decode cX2_init 4 = .ok (.aload_n 0, 1) := by decide +kernel
theorem dX2_init_5 : decode cX2_init 5 = .ok (.iconst 5, 1) := by decide +kernel
theorem dX2_init_6 : decode cX2_init 6 = .ok (.anewarray 9, 3) := by decide +kernel
theorem dX2_init_9 : decode cX2_init 9 = .ok (.putfield 11, 3) := by decide +kernel
theorem dX2_init_12 : decode cX2_init 12 = .ok (.iconst 0, 1) := by decide +kernel
theorem dX2_init_13 : decode cX2_init 13 = .ok (.istore_n 1, 1) := by decide +kernel
theorem dX2_init_14 : decode cX2_init 14 = .ok (.iload_n 1, 1) := by decide +kernel
theorem dX2_init_15 : decode cX2_init 15 = .ok (.iconst 5, 1) := by decide +kernel
theorem dX2_init_16 : decode cX2_init 16 = .ok (.if_icmp .ge 22, 3) := by decide +kernel
theorem dX2_init_19 : decode cX2_init 19 = .ok (.aload_n 0, 1) := by decide +kernel
theorem dX2_init_20 : decode cX2_init 20 = .ok (.getfield 11, 3) := by decide +kernel
theorem dX2_init_23 : decode cX2_init 23 = .ok (.iload_n 1, 1) := by decide +kernel
theorem dX2_init_24 : decode cX2_init 24 = .ok (.new 9, 3) := by decide +kernel
theorem dX2_init_27 : decode cX2_init 27 = .ok (.dup, 1) := by decide +kernel
theorem dX2_init_28 : decode cX2_init 28 = .ok (.invokespecial 15, 3) := by decide +kernel
theorem dX2_init_31 : decode cX2_init 31 = .ok (.aastore, 1) := by decide +kernel
theorem dX2_init_32 : decode cX2_init 32 = .ok (.iinc 1 1, 3) := by decide +kernel
theorem dX2_init_35 : decode cX2_init 35 = .ok (.goto (-21), 3) := by decide +kernel
theorem dX2_init_38 : decode cX2_init 38 = .ok (.aload_n 0, 1) := by decide +kernel
theorem dX2_init_39 : decode cX2_init 39 = .ok (.bipush 99, 2) := by decide +kernel
theorem dX2_init_41 : decode cX2_init 41 = .ok (.newarray .int, 2) := by decide +kernel
theorem dX2_init_43 : decode cX2_init 43 = .ok (.putfield 16, 3) := by decide +kernel
theorem dX2_init_46 : decode cX2_init 46 = .ok (.aload_n 0, 1) := by decide +kernel
theorem dX2_init_47 : decode cX2_init 47 = .ok (.bipush 99, 2) := by decide +kernel
theorem dX2_init_49 : decode cX2_init 49 = .ok (.newarray .int, 2) := by decide +kernel
theorem dX2_init_51 : decode cX2_init 51 = .ok (.putfield 20, 3) := by decide +kernel
theorem dX2_init_54 : decode cX2_init 54 = .ok (.aload_n 0, 1) := by decide +kernel
theorem dX2_init_55 : decode cX2_init 55 = .ok (.bipush 99, 2) := by decide +kernel
theorem dX2_init_57 : decode cX2_init 57 = .ok (.newarray .int, 2) := by decide +kernel
theorem dX2_init_59 : decode cX2_init 59 = .ok (.putfield 23, 3) := by decide +kernel
theorem dX2_init_62 : decode cX2_init 62 = .ok (.aload_n 0, 1) := by decide +kernel
theorem dX2_init_63 : decode cX2_init 63 = .ok (.bipush 99, 2) := by decide +kernel
theorem dX2_init_65 : decode cX2_init 65 = .ok (.newarray .int, 2) := by decide +kernel
theorem dX2_init_67 : decode cX2_init 67 = .ok (.putfield 26, 3) := by decide +kernel
theorem dX2_init_70 : decode cX2_init 70 = .ok (.aload_n 0, 1) := by decide +kernel
theorem dX2_init_71 : decode cX2_init 71 = .ok (.new 29, 3) := by decide +kernel
theorem dX2_init_74 : decode cX2_init 74 = .ok (.dup, 1) := by decide +kernel
theorem dX2_init_75 : decode cX2_init 75 = .ok (.invokespecial 31, 3) := by decide +kernel
theorem dX2_init_78 : decode cX2_init 78 = .ok (.putfield 32, 3) := by decide +kernel
theorem dX2_init_81 : decode cX2_init 81 = .ok (.aload_n 0, 1) := by decide +kernel
theorem dX2_init_82 : decode cX2_init 82 = .ok (.iconst 3, 1) := by decide +kernel
theorem dX2_init_83 : decode cX2_init 83 = .ok (.putfield 36, 3) := by decide +kernel
theorem dX2_init_86 : decode cX2_init 86 = .ok (.aload_n 0, 1) := by decide +kernel
theorem dX2_init_87 : decode cX2_init 87 = .ok (.iconst 4, 1) := by decide +kernel
theorem dX2_init_88 : decode cX2_init 88 = .ok (.putfield 40, 3) := by decide +kernel
theorem dX2_init_91 : decode cX2_init 91 = .ok (.aload_n 0, 1) := by decide +kernel
theorem dX2_init_92 : decode cX2_init 92 = .ok (.iconst 3, 1) := by decide +kernel
theorem dX2_init_93 : decode cX2_init 93 = .ok (.putfield 43, 3) := by decide +kernel
theorem dX2_init_96 : decode cX2_init 96 = .ok (.aload_n 0, 1) := by decide +kernel
theorem dX2_init_97 : decode cX2_init 97 = .ok (.iconst (-1), 1) := by decide +kernel
theorem dX2_init_98 : decode cX2_init 98 = .ok (.putfield 46, 3) := by decide +kernel
theorem dX2_init_101 : decode cX2_init 101 = .ok (.return_, 1) := by decide +kernel
set_option maxRecDepth 20000 in
theorem ggX2_begin_X2_forgetBodies : GoodIn wsX2_begin wsX2_forgetBodies := goodIn_r _ [11, 12, 3, 13, 14, 15, 16, 17, 18, 19, 20, 21, 22, 23, 24, 25, 26, 27, 28, 29, 30, 31, 32, 33, 34, 35, 36, 37, 38, 39, 40, 41, 42] (by decide +kernel) (by decide +kernel)
set_option maxRecDepth 20000 in
theorem gX2_begin_X2_forgetBodies : GoodIn wsX2_begin (wsV RX2 63 RX2 yX2_forgetBodies wsX2_forgetBodies) := goodIn_app (goodIn_of _ (by decide +kernel)) ggX2_begin_X2_forgetBodies
theorem dX2_begin_0 : decode cX2_begin 0 = .ok (.iload_n 1, 1) := by decide +kernel
theorem dX2_begin_1 : decode cX2_begin 1 = .ok (.iconst 1, 1) := by decide +kernel
theorem dX2_begin_2 : decode cX2_begin 2 = .ok (.if_icmp .lt 8, 3) := by decide +kernel
theorem dX2_begin_5 : decode cX2_begin 5 = .ok (.iload_n 1, 1) := by decide +kernel
theorem dX2_begin_6 : decode cX2_begin 6 = .ok (.iconst 5, 1) := by decide +kernel
theorem dX2_begin_7 : decode cX2_begin 7 = .ok (.if_icmp .le 13, 3) := by decide +kernel
theorem dX2_begin_10 : decode cX2_begin 10 = .ok (.new 49, 3) := by decide +kernel
theorem dX2_begin_13 : decode cX2_begin 13 = .ok (.dup, 1) := by decide +kernel
theorem dX2_begin_14 : decode cX2_begin 14 = .ok (.ldc 51, 2) := by decide +kernel
theorem dX2_begin_16 : decode cX2_begin 16 = .ok (.invokespecial 53, 3) := by decide +kernel
theorem dX2_begin_19 : decode cX2_begin 19 = .ok (.athrow, 1) := by decide +kernel
theorem dX2_begin_20 : decode cX2_begin 20 = .ok (.iload_n 2, 1) := by decide +kernel
theorem dX2_begin_21 : decode cX2_begin 21 = .ok (.iconst 1, 1) := by decide +kernel
theorem dX2_begin_22 : decode cX2_begin 22 = .ok (.if_icmp .lt 9, 3) := by decide +kernel
theorem dX2_begin_25 : decode cX2_begin 25 = .ok (.iload_n 2, 1) := by decide +kernel
theorem dX2_begin_26 : decode cX2_begin 26 = .ok (.bipush 6, 2) := by decide +kernel
theorem dX2_begin_28 : decode cX2_begin 28 = .ok (.if_icmp .le 13, 3) := by decide +kernel
theorem dX2_begin_31 : decode cX2_begin 31 = .ok (.new 49, 3) := by decide +kernel
theorem dX2_begin_34 : decode cX2_begin 34 = .ok (.dup, 1) := by decide +kernel
theorem dX2_begin_35 : decode cX2_begin 35 = .ok (.ldc 56, 2) := by decide +kernel
theorem dX2_begin_37 : decode cX2_begin 37 = .ok (.invokespecial 53, 3) := by decide +kernel
theorem dX2_begin_40 : decode cX2_begin 40 = .ok (.athrow, 1) := by decide +kernel
theorem dX2_begin_41 : decode cX2_begin 41 = .ok (.iload_n 3, 1) := by decide +kernel
theorem dX2_begin_42 : decode cX2_begin 42 = .ok (.iconst 1, 1) := by decide +kernel
theorem dX2_begin_43 : decode cX2_begin 43 = .ok (.if_icmp .lt 9, 3) := by decide +kernel
theorem dX2_begin_46 : decode cX2_begin 46 = .ok (.iload_n 3, 1) := by decide +kernel
theorem dX2_begin_47 : decode cX2_begin 47 = .ok (.bipush 6, 2) := by decide +kernel
theorem dX2_begin_49 : decode cX2_begin 49 = .ok (.if_icmp .le 13, 3) := by decide +kernel
theorem dX2_begin_52 : decode cX2_begin 52 = .ok (.new 49, 3) := by decide +kernel
theorem dX2_begin_55 : decode cX2_begin 55 = .ok (.dup, 1) := by decide +kernel
theorem dX2_begin_56 : decode cX2_begin 56 = .ok (.ldc 58, 2) := by decide +kernel
theorem dX2_begin_58 : decode cX2_begin 58 = .ok (.invokespecial 53, 3) := by decide +kernel
theorem dX2_begin_61 : decode cX2_begin 61 = .ok (.athrow, 1) := by decide +kernel
theorem dX2_begin_62 : decode cX2_begin 62 = .ok (.aload_n 0, 1) := by decide +kernel
theorem dX2_begin_63 : decode cX2_begin 63 = .ok (.getfield 60, 3) := by decide +kernel
theorem dX2_begin_66 : decode cX2_begin 66 = .ok (.istore 4, 2) := by decide +kernel
theorem dX2_begin_68 : decode cX2_begin 68 = .ok (.aload_n 0, 1) := by decide +kernel
theorem dX2_begin_69 : decode cX2_begin 69 = .ok (.iload_n 1, 1) := by decide +kernel
theorem dX2_begin_70 : decode cX2_begin 70 = .ok (.putfield 36, 3) := by decide +kernel
theorem dX2_begin_73 : decode cX2_begin 73 = .ok (.aload_n 0, 1) := by decide +kernel
theorem dX2_begin_74 : decode cX2_begin 74 = .ok (.iload_n 2, 1) := by decide +kernel
theorem dX2_begin_75 : decode cX2_begin 75 = .ok (.putfield 40, 3) := by decide +kernel
theorem dX2_begin_78 : decode cX2_begin 78 = .ok (.aload_n 0, 1) := by decide +kernel
theorem dX2_begin_79 : decode cX2_begin 79 = .ok (.iload_n 3, 1) := by decide +kernel
theorem dX2_begin_80 : decode cX2_begin 80 = .ok (.putfield 43, 3) := by decide +kernel
theorem dX2_begin_83 : decode cX2_begin 83 = .ok (.aload_n 0, 1) := by decide +kernel
theorem dX2_begin_84 : decode cX2_begin 84 = .ok (.invokevirtual 63, 3) := by decide +kernel
theorem dX2_begin_87 : decode cX2_begin 87 = .ok (.iload 4, 2) := by decide +kernel
theorem dX2_begin_89 : decode cX2_begin 89 = .ok (.ireturn, 1) := by decide +kernel
set_option maxRecDepth 20000 in
theorem ggX2_arriveIn_X2_isColour : GoodIn wsX2_arriveIn wsX2_isColour := goodIn_r _ [11] (by decide +kernel) (by decide +kernel)
set_option maxRecDepth 20000 in
theorem gX2_arriveIn_X2_isColour : GoodIn wsX2_arriveIn (va_wsS RX2 76 yX2_isColour wsX2_isColour) := goodIn_app (goodIn_of _ (by decide +kernel)) ggX2_arriveIn_X2_isColour
set_option maxRecDepth 20000 in
theorem ggX2_arriveIn_X2_isLane : GoodIn wsX2_arriveIn wsX2_isLane := goodIn_r _ [15, 16, 49, 50, 51, 52, 53, 54, 55, 56, 57, 58, 59, 60, 61, 62, 63, 64, 65] (by decide +kernel) (by decide +kernel)
set_option maxRecDepth 20000 in
theorem gX2_arriveIn_X2_isLane : GoodIn wsX2_arriveIn (wsV RX2 100 RX2 yX2_isLane wsX2_isLane) := goodIn_app (goodIn_of _ (by decide +kernel)) ggX2_arriveIn_X2_isLane
set_option maxRecDepth 20000 in
theorem ggX2_arriveIn_X2_hasRoom : GoodIn wsX2_arriveIn wsX2_hasRoom := goodIn_r _ [20, 21, 22, 23, 24, 25, 26, 27, 28, 49, 50, 51, 52, 53, 54, 55, 56, 57, 58, 59, 60, 61, 62, 63, 64, 65, 66, 67] (by decide +kernel) (by decide +kernel)
set_option maxRecDepth 20000 in
theorem gX2_arriveIn_X2_hasRoom : GoodIn wsX2_arriveIn (wsV RX2 108 RX2 yX2_hasRoom wsX2_hasRoom) := goodIn_app (goodIn_of _ (by decide +kernel)) ggX2_arriveIn_X2_hasRoom
set_option maxRecDepth 20000 in
theorem ggX2_arriveIn_X2_newBody : GoodIn wsX2_arriveIn wsX2_newBody := goodIn_r _ [32, 7, 33, 49, 50, 51, 52, 53, 54, 55, 56, 57, 58, 59, 60, 61, 62, 63, 64, 65] (by decide +kernel) (by decide +kernel)
set_option maxRecDepth 20000 in
theorem gX2_arriveIn_X2_newBody : GoodIn wsX2_arriveIn (wsV RX2 93 RX2 yX2_newBody wsX2_newBody) := goodIn_app (goodIn_of _ (by decide +kernel)) ggX2_arriveIn_X2_newBody
set_option maxRecDepth 20000 in
theorem ggX2_arriveIn_X2_putInto : GoodIn wsX2_arriveIn wsX2_putInto := goodIn_r _ [37, 21, 38, 39, 40, 41, 42, 26, 43, 28, 44, 45, 46, 47, 10, 48, 16, 49, 50, 51, 52, 53, 54, 55, 56, 57, 58, 59, 60, 61, 62, 63, 64, 65, 66, 67] (by decide +kernel) (by decide +kernel)
set_option maxRecDepth 20000 in
theorem gX2_arriveIn_X2_putInto : GoodIn wsX2_arriveIn (wsV RX2 96 RX2 yX2_putInto wsX2_putInto) := goodIn_app (goodIn_of _ (by decide +kernel)) ggX2_arriveIn_X2_putInto
theorem dX2_arriveIn_0 : decode cX2_arriveIn 0 = .ok (.iload_n 1, 1) := by decide +kernel
theorem dX2_arriveIn_1 : decode cX2_arriveIn 1 = .ok (.invokestatic 76, 3) := by decide +kernel
theorem dX2_arriveIn_4 : decode cX2_arriveIn 4 = .ok (.ifCond .ne 13, 3) := by decide +kernel
theorem dX2_arriveIn_7 : decode cX2_arriveIn 7 = .ok (.new 49, 3) := by decide +kernel
theorem dX2_arriveIn_10 : decode cX2_arriveIn 10 = .ok (.dup, 1) := by decide +kernel
theorem dX2_arriveIn_11 : decode cX2_arriveIn 11 = .ok (.ldc 80, 2) := by decide +kernel
theorem dX2_arriveIn_13 : decode cX2_arriveIn 13 = .ok (.invokespecial 53, 3) := by decide +kernel
theorem dX2_arriveIn_16 : decode cX2_arriveIn 16 = .ok (.athrow, 1) := by decide +kernel
theorem dX2_arriveIn_17 : decode cX2_arriveIn 17 = .ok (.aload_n 0, 1) := by decide +kernel
theorem dX2_arriveIn_18 : decode cX2_arriveIn 18 = .ok (.iload_n 2, 1) := by decide +kernel
theorem dX2_arriveIn_19 : decode cX2_arriveIn 19 = .ok (.invokevirtual 100, 3) := by decide +kernel
theorem dX2_arriveIn_22 : decode cX2_arriveIn 22 = .ok (.ifCond .ne 13, 3) := by decide +kernel
theorem dX2_arriveIn_25 : decode cX2_arriveIn 25 = .ok (.new 103, 3) := by decide +kernel
theorem dX2_arriveIn_28 : decode cX2_arriveIn 28 = .ok (.dup, 1) := by decide +kernel
theorem dX2_arriveIn_29 : decode cX2_arriveIn 29 = .ok (.ldc 105, 2) := by decide +kernel
theorem dX2_arriveIn_31 : decode cX2_arriveIn 31 = .ok (.invokespecial 107, 3) := by decide +kernel
theorem dX2_arriveIn_34 : decode cX2_arriveIn 34 = .ok (.athrow, 1) := by decide +kernel
theorem dX2_arriveIn_35 : decode cX2_arriveIn 35 = .ok (.aload_n 0, 1) := by decide +kernel
theorem dX2_arriveIn_36 : decode cX2_arriveIn 36 = .ok (.getfield 60, 3) := by decide +kernel
theorem dX2_arriveIn_39 : decode cX2_arriveIn 39 = .ok (.bipush 99, 2) := by decide +kernel
theorem dX2_arriveIn_41 : decode cX2_arriveIn 41 = .ok (.if_icmp .lt 13, 3) := by decide +kernel
theorem dX2_arriveIn_44 : decode cX2_arriveIn 44 = .ok (.new 82, 3) := by decide +kernel
theorem dX2_arriveIn_47 : decode cX2_arriveIn 47 = .ok (.dup, 1) := by decide +kernel
theorem dX2_arriveIn_48 : decode cX2_arriveIn 48 = .ok (.ldc 84, 2) := by decide +kernel
theorem dX2_arriveIn_50 : decode cX2_arriveIn 50 = .ok (.invokespecial 86, 3) := by decide +kernel
theorem dX2_arriveIn_53 : decode cX2_arriveIn 53 = .ok (.athrow, 1) := by decide +kernel
theorem dX2_arriveIn_54 : decode cX2_arriveIn 54 = .ok (.aload_n 0, 1) := by decide +kernel
theorem dX2_arriveIn_55 : decode cX2_arriveIn 55 = .ok (.iload_n 2, 1) := by decide +kernel
theorem dX2_arriveIn_56 : decode cX2_arriveIn 56 = .ok (.invokevirtual 108, 3) := by decide +kernel
theorem dX2_arriveIn_59 : decode cX2_arriveIn 59 = .ok (.ifCond .ne 13, 3) := by decide +kernel
theorem dX2_arriveIn_62 : decode cX2_arriveIn 62 = .ok (.new 82, 3) := by decide +kernel
theorem dX2_arriveIn_65 : decode cX2_arriveIn 65 = .ok (.dup, 1) := by decide +kernel
theorem dX2_arriveIn_66 : decode cX2_arriveIn 66 = .ok (.ldc 111, 2) := by decide +kernel
theorem dX2_arriveIn_68 : decode cX2_arriveIn 68 = .ok (.invokespecial 86, 3) := by decide +kernel
theorem dX2_arriveIn_71 : decode cX2_arriveIn 71 = .ok (.athrow, 1) := by decide +kernel
theorem dX2_arriveIn_72 : decode cX2_arriveIn 72 = .ok (.aload_n 0, 1) := by decide +kernel
theorem dX2_arriveIn_73 : decode cX2_arriveIn 73 = .ok (.iload_n 1, 1) := by decide +kernel
theorem dX2_arriveIn_74 : decode cX2_arriveIn 74 = .ok (.invokevirtual 93, 3) := by decide +kernel
theorem dX2_arriveIn_77 : decode cX2_arriveIn 77 = .ok (.istore_n 3, 1) := by decide +kernel
theorem dX2_arriveIn_78 : decode cX2_arriveIn 78 = .ok (.aload_n 0, 1) := by decide +kernel
theorem dX2_arriveIn_79 : decode cX2_arriveIn 79 = .ok (.iload_n 2, 1) := by decide +kernel
theorem dX2_arriveIn_80 : decode cX2_arriveIn 80 = .ok (.iload_n 3, 1) := by decide +kernel
theorem dX2_arriveIn_81 : decode cX2_arriveIn 81 = .ok (.invokevirtual 96, 3) := by decide +kernel
theorem dX2_arriveIn_84 : decode cX2_arriveIn 84 = .ok (.iload_n 3, 1) := by decide +kernel
theorem dX2_arriveIn_85 : decode cX2_arriveIn 85 = .ok (.ireturn, 1) := by decide +kernel
set_option maxRecDepth 20000 in
theorem ggX2_releaseFrom_X2_isLane : GoodIn wsX2_releaseFrom wsX2_isLane := goodIn_r _ [10, 11, 53, 54, 55, 56, 57, 58, 59, 60, 61, 62, 63, 64, 65, 66, 67, 68, 69] (by decide +kernel) (by decide +kernel)
set_option maxRecDepth 20000 in
theorem gX2_releaseFrom_X2_isLane : GoodIn wsX2_releaseFrom (wsV RX2 100 RX2 yX2_isLane wsX2_isLane) := goodIn_app (goodIn_of _ (by decide +kernel)) ggX2_releaseFrom_X2_isLane
set_option maxRecDepth 20000 in
theorem ggX2_releaseFrom_X0_isEmpty : GoodIn wsX2_releaseFrom wsX0_isEmpty := goodIn_r _ [16, 17, 70, 71] (by decide +kernel) (by decide +kernel)
set_option maxRecDepth 20000 in
theorem gX2_releaseFrom_X0_isEmpty : GoodIn wsX2_releaseFrom (wsV RX2 128 RX0 yX0_isEmpty wsX0_isEmpty) := goodIn_app (goodIn_of _ (by decide +kernel)) ggX2_releaseFrom_X0_isEmpty
set_option maxRecDepth 20000 in
theorem ggX2_releaseFrom_X2_storeIsFull : GoodIn wsX2_releaseFrom wsX2_storeIsFull := goodIn_r _ [21, 22, 23, 24, 25, 9, 26, 27, 28, 53, 54, 55, 56, 57, 58, 59, 60, 61, 62, 63, 64, 65, 66, 67, 68, 69] (by decide +kernel) (by decide +kernel)
set_option maxRecDepth 20000 in
theorem gX2_releaseFrom_X2_storeIsFull : GoodIn wsX2_releaseFrom (wsV RX2 113 RX2 yX2_storeIsFull wsX2_storeIsFull) := goodIn_app (goodIn_of _ (by decide +kernel)) ggX2_releaseFrom_X2_storeIsFull
set_option maxRecDepth 20000 in
theorem ggX2_releaseFrom_X2_takeHeadOf : GoodIn wsX2_releaseFrom wsX2_takeHeadOf := goodIn_r _ [32, 5, 28, 33, 34, 35, 36, 37, 38, 39, 15, 40, 17, 41, 42, 43, 44, 45, 46, 47, 48, 9, 49, 27, 50, 51, 52, 53, 54, 55, 56, 57, 58, 59, 60, 61, 62, 63, 64, 65, 66, 67, 68, 69, 70, 71] (by decide +kernel) (by decide +kernel)
set_option maxRecDepth 20000 in
theorem gX2_releaseFrom_X2_takeHeadOf : GoodIn wsX2_releaseFrom (wsV RX2 125 RX2 yX2_takeHeadOf wsX2_takeHeadOf) := goodIn_app (goodIn_of _ (by decide +kernel)) ggX2_releaseFrom_X2_takeHeadOf
theorem dX2_releaseFrom_0 : decode cX2_releaseFrom 0 = .ok (.aload_n 0, 1) := by decide +kernel
theorem dX2_releaseFrom_1 : decode cX2_releaseFrom 1 = .ok (.iload_n 1, 1) := by decide +kernel
theorem dX2_releaseFrom_2 : decode cX2_releaseFrom 2 = .ok (.invokevirtual 100, 3) := by decide +kernel
theorem dX2_releaseFrom_5 : decode cX2_releaseFrom 5 = .ok (.ifCond .ne 13, 3) := by decide +kernel
theorem dX2_releaseFrom_8 : decode cX2_releaseFrom 8 = .ok (.new 103, 3) := by decide +kernel
theorem dX2_releaseFrom_11 : decode cX2_releaseFrom 11 = .ok (.dup, 1) := by decide +kernel
theorem dX2_releaseFrom_12 : decode cX2_releaseFrom 12 = .ok (.ldc 105, 2) := by decide +kernel
theorem dX2_releaseFrom_14 : decode cX2_releaseFrom 14 = .ok (.invokespecial 107, 3) := by decide +kernel
theorem dX2_releaseFrom_17 : decode cX2_releaseFrom 17 = .ok (.athrow, 1) := by decide +kernel
theorem dX2_releaseFrom_18 : decode cX2_releaseFrom 18 = .ok (.aload_n 0, 1) := by decide +kernel
theorem dX2_releaseFrom_19 : decode cX2_releaseFrom 19 = .ok (.getfield 11, 3) := by decide +kernel
theorem dX2_releaseFrom_22 : decode cX2_releaseFrom 22 = .ok (.iload_n 1, 1) := by decide +kernel
theorem dX2_releaseFrom_23 : decode cX2_releaseFrom 23 = .ok (.aaload, 1) := by decide +kernel
theorem dX2_releaseFrom_24 : decode cX2_releaseFrom 24 = .ok (.invokevirtual 128, 3) := by decide +kernel
theorem dX2_releaseFrom_27 : decode cX2_releaseFrom 27 = .ok (.ifCond .eq 13, 3) := by decide +kernel
theorem dX2_releaseFrom_30 : decode cX2_releaseFrom 30 = .ok (.new 82, 3) := by decide +kernel
theorem dX2_releaseFrom_33 : decode cX2_releaseFrom 33 = .ok (.dup, 1) := by decide +kernel
theorem dX2_releaseFrom_34 : decode cX2_releaseFrom 34 = .ok (.ldc 131, 2) := by decide +kernel
theorem dX2_releaseFrom_36 : decode cX2_releaseFrom 36 = .ok (.invokespecial 86, 3) := by decide +kernel
theorem dX2_releaseFrom_39 : decode cX2_releaseFrom 39 = .ok (.athrow, 1) := by decide +kernel
theorem dX2_releaseFrom_40 : decode cX2_releaseFrom 40 = .ok (.aload_n 0, 1) := by decide +kernel
theorem dX2_releaseFrom_41 : decode cX2_releaseFrom 41 = .ok (.invokevirtual 113, 3) := by decide +kernel
theorem dX2_releaseFrom_44 : decode cX2_releaseFrom 44 = .ok (.ifCond .eq 13, 3) := by decide +kernel
theorem dX2_releaseFrom_47 : decode cX2_releaseFrom 47 = .ok (.new 82, 3) := by decide +kernel
theorem dX2_releaseFrom_50 : decode cX2_releaseFrom 50 = .ok (.dup, 1) := by decide +kernel
theorem dX2_releaseFrom_51 : decode cX2_releaseFrom 51 = .ok (.ldc 117, 2) := by decide +kernel
theorem dX2_releaseFrom_53 : decode cX2_releaseFrom 53 = .ok (.invokespecial 86, 3) := by decide +kernel
theorem dX2_releaseFrom_56 : decode cX2_releaseFrom 56 = .ok (.athrow, 1) := by decide +kernel
theorem dX2_releaseFrom_57 : decode cX2_releaseFrom 57 = .ok (.aload_n 0, 1) := by decide +kernel
theorem dX2_releaseFrom_58 : decode cX2_releaseFrom 58 = .ok (.iload_n 1, 1) := by decide +kernel
theorem dX2_releaseFrom_59 : decode cX2_releaseFrom 59 = .ok (.invokevirtual 125, 3) := by decide +kernel
theorem dX2_releaseFrom_62 : decode cX2_releaseFrom 62 = .ok (.ireturn, 1) := by decide +kernel
set_option maxRecDepth 20000 in
theorem ggX2_releaseBest_X2_storeIsFull : GoodIn wsX2_releaseBest wsX2_storeIsFull := goodIn_r _ [9, 10, 11, 12, 13, 8, 14, 15, 16, 108, 109, 110, 111, 112, 113, 114, 115, 116, 117, 118, 119, 120, 121, 122, 123, 124] (by decide +kernel) (by decide +kernel)
set_option maxRecDepth 20000 in
theorem gX2_releaseBest_X2_storeIsFull : GoodIn wsX2_releaseBest (wsV RX2 113 RX2 yX2_storeIsFull wsX2_storeIsFull) := goodIn_app (goodIn_of _ (by decide +kernel)) ggX2_releaseBest_X2_storeIsFull
set_option maxRecDepth 20000 in
theorem ggX2_releaseBest_X2_countInLanes : GoodIn wsX2_releaseBest wsX2_countInLanes := goodIn_r _ [20, 21, 22, 23, 24, 25, 26, 27, 28, 108, 109, 110, 111, 112, 113, 114, 115, 116, 117, 118, 119, 120, 121, 122, 123, 124, 125, 126] (by decide +kernel) (by decide +kernel)
set_option maxRecDepth 20000 in
theorem gX2_releaseBest_X2_countInLanes : GoodIn wsX2_releaseBest (wsV RX2 133 RX2 yX2_countInLanes wsX2_countInLanes) := goodIn_app (goodIn_of _ (by decide +kernel)) ggX2_releaseBest_X2_countInLanes
set_option maxRecDepth 20000 in
theorem ggX2_releaseBest_X2_copyLanesIntoPlan : GoodIn wsX2_releaseBest wsX2_copyLanesIntoPlan := goodIn_r _ [32, 3, 21, 22, 33, 34, 35, 36, 37, 38, 23, 24, 25, 26, 27, 28, 39, 40, 41, 42, 43, 44, 45, 46, 8, 47, 48, 49, 50, 51, 52, 15, 53, 54, 55, 56, 57, 108, 109, 110, 111, 112, 113, 114, 115, 116, 117, 118, 119, 120, 121, 122, 123, 124, 127, 128, 129, 130, 131, 132, 125, 126] (by decide +kernel) (by decide +kernel)
set_option maxRecDepth 20000 in
theorem gX2_releaseBest_X2_copyLanesIntoPlan : GoodIn wsX2_releaseBest (wsV RX2 138 RX2 yX2_copyLanesIntoPlan wsX2_copyLanesIntoPlan) := goodIn_app (goodIn_of _ (by decide +kernel)) ggX2_releaseBest_X2_copyLanesIntoPlan
set_option maxRecDepth 20000 in
theorem ggX2_releaseBest_X1_bestLane : GoodIn wsX2_releaseBest wsX1_bestLane := goodIn_r _ [61, 38, 62, 63, 64, 36, 65, 66, 67, 68, 69, 70, 71, 72, 73, 74, 75, 76, 77, 78, 79, 57, 80, 81, 82, 83, 84, 85, 86, 87, 88, 89, 90, 91, 92, 93, 94, 8, 95, 127, 128, 129, 130, 131, 132] (by decide +kernel) (by decide +kernel)
set_option maxRecDepth 20000 in
theorem gX2_releaseBest_X1_bestLane : GoodIn wsX2_releaseBest (wsV RX2 141 RX1 yX1_bestLane wsX1_bestLane) := goodIn_app (goodIn_of _ (by decide +kernel)) ggX2_releaseBest_X1_bestLane
set_option maxRecDepth 20000 in
theorem ggX2_releaseBest_X2_takeHeadOf : GoodIn wsX2_releaseBest wsX2_takeHeadOf := goodIn_r _ [99, 22, 16, 100, 4, 48, 101, 102, 103, 104, 26, 105, 28, 43, 106, 40, 41, 42, 49, 50, 51, 8, 52, 15, 107, 94, 95, 108, 109, 110, 111, 112, 113, 114, 115, 116, 117, 118, 119, 120, 121, 122, 123, 124, 125, 126] (by decide +kernel) (by decide +kernel)
set_option maxRecDepth 20000 in
theorem gX2_releaseBest_X2_takeHeadOf : GoodIn wsX2_releaseBest (wsV RX2 125 RX2 yX2_takeHeadOf wsX2_takeHeadOf) := goodIn_app (goodIn_of _ (by decide +kernel)) ggX2_releaseBest_X2_takeHeadOf
theorem dX2_releaseBest_0 : decode cX2_releaseBest 0 = .ok (.aload_n 0, 1) := by decide +kernel
theorem dX2_releaseBest_1 : decode cX2_releaseBest 1 = .ok (.invokevirtual 113, 3) := by decide +kernel
theorem dX2_releaseBest_4 : decode cX2_releaseBest 4 = .ok (.ifCond .eq 13, 3) := by decide +kernel
theorem dX2_releaseBest_7 : decode cX2_releaseBest 7 = .ok (.new 82, 3) := by decide +kernel
theorem dX2_releaseBest_10 : decode cX2_releaseBest 10 = .ok (.dup, 1) := by decide +kernel
theorem dX2_releaseBest_11 : decode cX2_releaseBest 11 = .ok (.ldc 117, 2) := by decide +kernel
theorem dX2_releaseBest_13 : decode cX2_releaseBest 13 = .ok (.invokespecial 86, 3) := by decide +kernel
theorem dX2_releaseBest_16 : decode cX2_releaseBest 16 = .ok (.athrow, 1) := by decide +kernel
theorem dX2_releaseBest_17 : decode cX2_releaseBest 17 = .ok (.aload_n 0, 1) := by decide +kernel
theorem dX2_releaseBest_18 : decode cX2_releaseBest 18 = .ok (.invokevirtual 133, 3) := by decide +kernel
theorem dX2_releaseBest_21 : decode cX2_releaseBest 21 = .ok (.bipush 12, 2) := by decide +kernel
theorem dX2_releaseBest_23 : decode cX2_releaseBest 23 = .ok (.if_icmp .le 13, 3) := by decide +kernel
theorem dX2_releaseBest_26 : decode cX2_releaseBest 26 = .ok (.new 82, 3) := by decide +kernel
theorem dX2_releaseBest_29 : decode cX2_releaseBest 29 = .ok (.dup, 1) := by decide +kernel
theorem dX2_releaseBest_30 : decode cX2_releaseBest 30 = .ok (.ldc 136, 2) := by decide +kernel
theorem dX2_releaseBest_32 : decode cX2_releaseBest 32 = .ok (.invokespecial 86, 3) := by decide +kernel
theorem dX2_releaseBest_35 : decode cX2_releaseBest 35 = .ok (.athrow, 1) := by decide +kernel
theorem dX2_releaseBest_36 : decode cX2_releaseBest 36 = .ok (.aload_n 0, 1) := by decide +kernel
theorem dX2_releaseBest_37 : decode cX2_releaseBest 37 = .ok (.invokevirtual 138, 3) := by decide +kernel
theorem dX2_releaseBest_40 : decode cX2_releaseBest 40 = .ok (.aload_n 0, 1) := by decide +kernel
theorem dX2_releaseBest_41 : decode cX2_releaseBest 41 = .ok (.getfield 32, 3) := by decide +kernel
theorem dX2_releaseBest_44 : decode cX2_releaseBest 44 = .ok (.aload_n 0, 1) := by decide +kernel
theorem dX2_releaseBest_45 : decode cX2_releaseBest 45 = .ok (.getfield 46, 3) := by decide +kernel
theorem dX2_releaseBest_48 : decode cX2_releaseBest 48 = .ok (.invokevirtual 141, 3) := by decide +kernel
theorem dX2_releaseBest_51 : decode cX2_releaseBest 51 = .ok (.istore_n 1, 1) := by decide +kernel
theorem dX2_releaseBest_52 : decode cX2_releaseBest 52 = .ok (.iload_n 1, 1) := by decide +kernel
theorem dX2_releaseBest_53 : decode cX2_releaseBest 53 = .ok (.iconst (-1), 1) := by decide +kernel
theorem dX2_releaseBest_54 : decode cX2_releaseBest 54 = .ok (.if_icmp .ne 13, 3) := by decide +kernel
theorem dX2_releaseBest_57 : decode cX2_releaseBest 57 = .ok (.new 82, 3) := by decide +kernel
theorem dX2_releaseBest_60 : decode cX2_releaseBest 60 = .ok (.dup, 1) := by decide +kernel
theorem dX2_releaseBest_61 : decode cX2_releaseBest 61 = .ok (.ldc 123, 2) := by decide +kernel
theorem dX2_releaseBest_63 : decode cX2_releaseBest 63 = .ok (.invokespecial 86, 3) := by decide +kernel
theorem dX2_releaseBest_66 : decode cX2_releaseBest 66 = .ok (.athrow, 1) := by decide +kernel
theorem dX2_releaseBest_67 : decode cX2_releaseBest 67 = .ok (.aload_n 0, 1) := by decide +kernel
theorem dX2_releaseBest_68 : decode cX2_releaseBest 68 = .ok (.iload_n 1, 1) := by decide +kernel
theorem dX2_releaseBest_69 : decode cX2_releaseBest 69 = .ok (.invokevirtual 125, 3) := by decide +kernel
theorem dX2_releaseBest_72 : decode cX2_releaseBest 72 = .ok (.ireturn, 1) := by decide +kernel
set_option maxRecDepth 20000 in
theorem ggX2_assemble_X2_lowestInStore : GoodIn wsX2_assemble wsX2_lowestInStore := goodIn_r _ [11, 12, 3, 13, 14, 15, 16, 17, 18, 19, 20, 21, 22, 23, 24, 25, 26, 27, 28, 29] (by decide +kernel) (by decide +kernel)
set_option maxRecDepth 20000 in
theorem gX2_assemble_X2_lowestInStore : GoodIn wsX2_assemble (wsV RX2 156 RX2 yX2_lowestInStore wsX2_lowestInStore) := goodIn_app (goodIn_of _ (by decide +kernel)) ggX2_assemble_X2_lowestInStore
theorem dX2_assemble_0 : decode cX2_assemble 0 = .ok (.aload_n 0, 1) := by decide +kernel
theorem dX2_assemble_1 : decode cX2_assemble 1 = .ok (.invokevirtual 156, 3) := by decide +kernel
theorem dX2_assemble_4 : decode cX2_assemble 4 = .ok (.istore_n 1, 1) := by decide +kernel
theorem dX2_assemble_5 : decode cX2_assemble 5 = .ok (.iload_n 1, 1) := by decide +kernel
theorem dX2_assemble_6 : decode cX2_assemble 6 = .ok (.iconst (-1), 1) := by decide +kernel
theorem dX2_assemble_7 : decode cX2_assemble 7 = .ok (.if_icmp .ne 13, 3) := by decide +kernel
theorem dX2_assemble_10 : decode cX2_assemble 10 = .ok (.new 82, 3) := by decide +kernel
theorem dX2_assemble_13 : decode cX2_assemble 13 = .ok (.dup, 1) := by decide +kernel
theorem dX2_assemble_14 : decode cX2_assemble 14 = .ok (.ldc 159, 2) := by decide +kernel
theorem dX2_assemble_16 : decode cX2_assemble 16 = .ok (.invokespecial 86, 3) := by decide +kernel
theorem dX2_assemble_19 : decode cX2_assemble 19 = .ok (.athrow, 1) := by decide +kernel
theorem dX2_assemble_20 : decode cX2_assemble 20 = .ok (.aload_n 0, 1) := by decide +kernel
theorem dX2_assemble_21 : decode cX2_assemble 21 = .ok (.getfield 20, 3) := by decide +kernel
theorem dX2_assemble_24 : decode cX2_assemble 24 = .ok (.iload_n 1, 1) := by decide +kernel
theorem dX2_assemble_25 : decode cX2_assemble 25 = .ok (.bipush 12, 2) := by decide +kernel
theorem dX2_assemble_27 : decode cX2_assemble 27 = .ok (.iastore, 1) := by decide +kernel
theorem dX2_assemble_28 : decode cX2_assemble 28 = .ok (.aload_n 0, 1) := by decide +kernel
theorem dX2_assemble_29 : decode cX2_assemble 29 = .ok (.getfield 23, 3) := by decide +kernel
theorem dX2_assemble_32 : decode cX2_assemble 32 = .ok (.iload_n 1, 1) := by decide +kernel
theorem dX2_assemble_33 : decode cX2_assemble 33 = .ok (.aload_n 0, 1) := by decide +kernel
theorem dX2_assemble_34 : decode cX2_assemble 34 = .ok (.getfield 161, 3) := by decide +kernel
theorem dX2_assemble_37 : decode cX2_assemble 37 = .ok (.iastore, 1) := by decide +kernel
theorem dX2_assemble_38 : decode cX2_assemble 38 = .ok (.aload_n 0, 1) := by decide +kernel
theorem dX2_assemble_39 : decode cX2_assemble 39 = .ok (.getfield 26, 3) := by decide +kernel
theorem dX2_assemble_42 : decode cX2_assemble 42 = .ok (.aload_n 0, 1) := by decide +kernel
theorem dX2_assemble_43 : decode cX2_assemble 43 = .ok (.getfield 161, 3) := by decide +kernel
theorem dX2_assemble_46 : decode cX2_assemble 46 = .ok (.iload_n 1, 1) := by decide +kernel
theorem dX2_assemble_47 : decode cX2_assemble 47 = .ok (.iastore, 1) := by decide +kernel
theorem dX2_assemble_48 : decode cX2_assemble 48 = .ok (.aload_n 0, 1) := by decide +kernel
theorem dX2_assemble_49 : decode cX2_assemble 49 = .ok (.dup, 1) := by decide +kernel
theorem dX2_assemble_50 : decode cX2_assemble 50 = .ok (.getfield 161, 3) := by decide +kernel
theorem dX2_assemble_53 : decode cX2_assemble 53 = .ok (.iconst 1, 1) := by decide +kernel
theorem dX2_assemble_54 : decode cX2_assemble 54 = .ok (.iadd, 1) := by decide +kernel
theorem dX2_assemble_55 : decode cX2_assemble 55 = .ok (.putfield 161, 3) := by decide +kernel
theorem dX2_assemble_58 : decode cX2_assemble 58 = .ok (.iload_n 1, 1) := by decide +kernel
theorem dX2_assemble_59 : decode cX2_assemble 59 = .ok (.ireturn, 1) := by decide +kernel
theorem dX2_bodies_0 : decode cX2_bodies 0 = .ok (.aload_n 0, 1) := by decide +kernel
theorem dX2_bodies_1 : decode cX2_bodies 1 = .ok (.getfield 60, 3) := by decide +kernel
theorem dX2_bodies_4 : decode cX2_bodies 4 = .ok (.ireturn, 1) := by decide +kernel
set_option maxRecDepth 20000 in
theorem ggX2_where_X2_isBody : GoodIn wsX2_where wsX2_isBody := goodIn_r _ [8, 9, 10, 11, 12, 13, 14, 15, 16, 17, 18, 19, 20, 21, 22, 23, 24, 25, 26] (by decide +kernel) (by decide +kernel)
set_option maxRecDepth 20000 in
theorem gX2_where_X2_isBody : GoodIn wsX2_where (wsV RX2 144 RX2 yX2_isBody wsX2_isBody) := goodIn_app (goodIn_of _ (by decide +kernel)) ggX2_where_X2_isBody
theorem dX2_where_0 : decode cX2_where 0 = .ok (.aload_n 0, 1) := by decide +kernel
theorem dX2_where_1 : decode cX2_where 1 = .ok (.iload_n 1, 1) := by decide +kernel
theorem dX2_where_2 : decode cX2_where 2 = .ok (.invokevirtual 144, 3) := by decide +kernel
theorem dX2_where_5 : decode cX2_where 5 = .ok (.ifCond .ne 13, 3) := by decide +kernel
theorem dX2_where_8 : decode cX2_where 8 = .ok (.new 103, 3) := by decide +kernel
theorem dX2_where_11 : decode cX2_where 11 = .ok (.dup, 1) := by decide +kernel
theorem dX2_where_12 : decode cX2_where 12 = .ok (.ldc 147, 2) := by decide +kernel
theorem dX2_where_14 : decode cX2_where 14 = .ok (.invokespecial 107, 3) := by decide +kernel
theorem dX2_where_17 : decode cX2_where 17 = .ok (.athrow, 1) := by decide +kernel
theorem dX2_where_18 : decode cX2_where 18 = .ok (.aload_n 0, 1) := by decide +kernel
theorem dX2_where_19 : decode cX2_where 19 = .ok (.getfield 20, 3) := by decide +kernel
theorem dX2_where_22 : decode cX2_where 22 = .ok (.iload_n 1, 1) := by decide +kernel
theorem dX2_where_23 : decode cX2_where 23 = .ok (.iaload, 1) := by decide +kernel
theorem dX2_where_24 : decode cX2_where 24 = .ok (.ireturn, 1) := by decide +kernel
set_option maxRecDepth 20000 in
theorem ggX2_inLane_X2_isLane : GoodIn wsX2_inLane wsX2_isLane := goodIn_r _ [8, 9, 16, 17, 18, 19, 20, 21, 22, 23, 24, 25, 26, 27, 28, 29, 30, 31, 32] (by decide +kernel) (by decide +kernel)
set_option maxRecDepth 20000 in
theorem gX2_inLane_X2_isLane : GoodIn wsX2_inLane (wsV RX2 100 RX2 yX2_isLane wsX2_isLane) := goodIn_app (goodIn_of _ (by decide +kernel)) ggX2_inLane_X2_isLane
set_option maxRecDepth 20000 in
theorem ggX2_inLane_X0_count : GoodIn wsX2_inLane wsX0_count := goodIn_r _ [14, 15, 33, 34] (by decide +kernel) (by decide +kernel)
set_option maxRecDepth 20000 in
theorem gX2_inLane_X0_count : GoodIn wsX2_inLane (wsV RX2 164 RX0 yX0_count wsX0_count) := goodIn_app (goodIn_of _ (by decide +kernel)) ggX2_inLane_X0_count
theorem dX2_inLane_0 : decode cX2_inLane 0 = .ok (.aload_n 0, 1) := by decide +kernel
theorem dX2_inLane_1 : decode cX2_inLane 1 = .ok (.iload_n 1, 1) := by decide +kernel
theorem dX2_inLane_2 : decode cX2_inLane 2 = .ok (.invokevirtual 100, 3) := by decide +kernel
theorem dX2_inLane_5 : decode cX2_inLane 5 = .ok (.ifCond .ne 13, 3) := by decide +kernel
theorem dX2_inLane_8 : decode cX2_inLane 8 = .ok (.new 103, 3) := by decide +kernel
theorem dX2_inLane_11 : decode cX2_inLane 11 = .ok (.dup, 1) := by decide +kernel
theorem dX2_inLane_12 : decode cX2_inLane 12 = .ok (.ldc 105, 2) := by decide +kernel
theorem dX2_inLane_14 : decode cX2_inLane 14 = .ok (.invokespecial 107, 3) := by decide +kernel
theorem dX2_inLane_17 : decode cX2_inLane 17 = .ok (.athrow, 1) := by decide +kernel
theorem dX2_inLane_18 : decode cX2_inLane 18 = .ok (.aload_n 0, 1) := by decide +kernel
theorem dX2_inLane_19 : decode cX2_inLane 19 = .ok (.getfield 11, 3) := by decide +kernel
theorem dX2_inLane_22 : decode cX2_inLane 22 = .ok (.iload_n 1, 1) := by decide +kernel
theorem dX2_inLane_23 : decode cX2_inLane 23 = .ok (.aaload, 1) := by decide +kernel
theorem dX2_inLane_24 : decode cX2_inLane 24 = .ok (.invokevirtual 164, 3) := by decide +kernel
theorem dX2_inLane_27 : decode cX2_inLane 27 = .ok (.ireturn, 1) := by decide +kernel
set_option maxRecDepth 20000 in
theorem ggX2_stored_X2_countAt : GoodIn wsX2_stored wsX2_countAt := goodIn_r _ [5, 6, 7, 8, 9, 10, 11, 12, 13, 14, 15, 16, 17, 18, 19, 20, 21, 22, 23, 24] (by decide +kernel) (by decide +kernel)
set_option maxRecDepth 20000 in
theorem gX2_stored_X2_countAt : GoodIn wsX2_stored (wsV RX2 151 RX2 yX2_countAt wsX2_countAt) := goodIn_app (goodIn_of _ (by decide +kernel)) ggX2_stored_X2_countAt
theorem dX2_stored_0 : decode cX2_stored 0 = .ok (.aload_n 0, 1) := by decide +kernel
theorem dX2_stored_1 : decode cX2_stored 1 = .ok (.bipush 10, 2) := by decide +kernel
theorem dX2_stored_3 : decode cX2_stored 3 = .ok (.invokevirtual 151, 3) := by decide +kernel
theorem dX2_stored_6 : decode cX2_stored 6 = .ok (.ireturn, 1) := by decide +kernel
theorem dX2_changes_0 : decode cX2_changes 0 = .ok (.aload_n 0, 1) := by decide +kernel
theorem dX2_changes_1 : decode cX2_changes 1 = .ok (.getfield 175, 3) := by decide +kernel
theorem dX2_changes_4 : decode cX2_changes 4 = .ok (.ireturn, 1) := by decide +kernel
theorem dX2_released_0 : decode cX2_released 0 = .ok (.aload_n 0, 1) := by decide +kernel
theorem dX2_released_1 : decode cX2_released 1 = .ok (.getfield 178, 3) := by decide +kernel
theorem dX2_released_4 : decode cX2_released 4 = .ok (.ireturn, 1) := by decide +kernel
theorem dX2_assembledAt_0 : decode cX2_assembledAt 0 = .ok (.iload_n 1, 1) := by decide +kernel
theorem dX2_assembledAt_1 : decode cX2_assembledAt 1 = .ok (.ifCond .lt 11, 3) := by decide +kernel
theorem dX2_assembledAt_4 : decode cX2_assembledAt 4 = .ok (.iload_n 1, 1) := by decide +kernel
theorem dX2_assembledAt_5 : decode cX2_assembledAt 5 = .ok (.aload_n 0, 1) := by decide +kernel
theorem dX2_assembledAt_6 : decode cX2_assembledAt 6 = .ok (.getfield 161, 3) := by decide +kernel
theorem dX2_assembledAt_9 : decode cX2_assembledAt 9 = .ok (.if_icmp .lt 13, 3) := by decide +kernel
theorem dX2_assembledAt_12 : decode cX2_assembledAt 12 = .ok (.new 103, 3) := by decide +kernel
theorem dX2_assembledAt_15 : decode cX2_assembledAt 15 = .ok (.dup, 1) := by decide +kernel
theorem dX2_assembledAt_16 : decode cX2_assembledAt 16 = .ok (.ldc 181, 2) := by decide +kernel
theorem dX2_assembledAt_18 : decode cX2_assembledAt 18 = .ok (.invokespecial 107, 3) := by decide +kernel
theorem dX2_assembledAt_21 : decode cX2_assembledAt 21 = .ok (.athrow, 1) := by decide +kernel
theorem dX2_assembledAt_22 : decode cX2_assembledAt 22 = .ok (.aload_n 0, 1) := by decide +kernel
theorem dX2_assembledAt_23 : decode cX2_assembledAt 23 = .ok (.getfield 26, 3) := by decide +kernel
theorem dX2_assembledAt_26 : decode cX2_assembledAt 26 = .ok (.iload_n 1, 1) := by decide +kernel
theorem dX2_assembledAt_27 : decode cX2_assembledAt 27 = .ok (.iaload, 1) := by decide +kernel
theorem dX2_assembledAt_28 : decode cX2_assembledAt 28 = .ok (.ireturn, 1) := by decide +kernel
set_option maxRecDepth 20000 in
theorem ggX2_lateness_X2_isBody : GoodIn wsX2_lateness wsX2_isBody := goodIn_r _ [11, 12, 13, 14, 15, 16, 17, 18, 19, 20, 21, 22, 23, 24, 25, 26, 27, 28, 29] (by decide +kernel) (by decide +kernel)
set_option maxRecDepth 20000 in
theorem gX2_lateness_X2_isBody : GoodIn wsX2_lateness (wsV RX2 144 RX2 yX2_isBody wsX2_isBody) := goodIn_app (goodIn_of _ (by decide +kernel)) ggX2_lateness_X2_isBody
theorem dX2_lateness_0 : decode cX2_lateness 0 = .ok (.aload_n 0, 1) := by decide +kernel
theorem dX2_lateness_1 : decode cX2_lateness 1 = .ok (.iload_n 1, 1) := by decide +kernel
theorem dX2_lateness_2 : decode cX2_lateness 2 = .ok (.invokevirtual 144, 3) := by decide +kernel
theorem dX2_lateness_5 : decode cX2_lateness 5 = .ok (.ifCond .ne 13, 3) := by decide +kernel
theorem dX2_lateness_8 : decode cX2_lateness 8 = .ok (.new 103, 3) := by decide +kernel
theorem dX2_lateness_11 : decode cX2_lateness 11 = .ok (.dup, 1) := by decide +kernel
theorem dX2_lateness_12 : decode cX2_lateness 12 = .ok (.ldc 147, 2) := by decide +kernel
theorem dX2_lateness_14 : decode cX2_lateness 14 = .ok (.invokespecial 107, 3) := by decide +kernel
theorem dX2_lateness_17 : decode cX2_lateness 17 = .ok (.athrow, 1) := by decide +kernel
theorem dX2_lateness_18 : decode cX2_lateness 18 = .ok (.aload_n 0, 1) := by decide +kernel
theorem dX2_lateness_19 : decode cX2_lateness 19 = .ok (.getfield 20, 3) := by decide +kernel
theorem dX2_lateness_22 : decode cX2_lateness 22 = .ok (.iload_n 1, 1) := by decide +kernel
theorem dX2_lateness_23 : decode cX2_lateness 23 = .ok (.iaload, 1) := by decide +kernel
theorem dX2_lateness_24 : decode cX2_lateness 24 = .ok (.bipush 12, 2) := by decide +kernel
theorem dX2_lateness_26 : decode cX2_lateness 26 = .ok (.if_icmp .eq 13, 3) := by decide +kernel
theorem dX2_lateness_29 : decode cX2_lateness 29 = .ok (.new 82, 3) := by decide +kernel
theorem dX2_lateness_32 : decode cX2_lateness 32 = .ok (.dup, 1) := by decide +kernel
theorem dX2_lateness_33 : decode cX2_lateness 33 = .ok (.ldc 183, 2) := by decide +kernel
theorem dX2_lateness_35 : decode cX2_lateness 35 = .ok (.invokespecial 86, 3) := by decide +kernel
theorem dX2_lateness_38 : decode cX2_lateness 38 = .ok (.athrow, 1) := by decide +kernel
theorem dX2_lateness_39 : decode cX2_lateness 39 = .ok (.aload_n 0, 1) := by decide +kernel
theorem dX2_lateness_40 : decode cX2_lateness 40 = .ok (.getfield 23, 3) := by decide +kernel
theorem dX2_lateness_43 : decode cX2_lateness 43 = .ok (.iload_n 1, 1) := by decide +kernel
theorem dX2_lateness_44 : decode cX2_lateness 44 = .ok (.iaload, 1) := by decide +kernel
theorem dX2_lateness_45 : decode cX2_lateness 45 = .ok (.iload_n 1, 1) := by decide +kernel
theorem dX2_lateness_46 : decode cX2_lateness 46 = .ok (.isub, 1) := by decide +kernel
theorem dX2_lateness_47 : decode cX2_lateness 47 = .ok (.ireturn, 1) := by decide +kernel
theorem dX2_worstLateness_0 : decode cX2_worstLateness 0 = .ok (.iconst 0, 1) := by decide +kernel
theorem dX2_worstLateness_1 : decode cX2_worstLateness 1 = .ok (.istore_n 1, 1) := by decide +kernel
theorem dX2_worstLateness_2 : decode cX2_worstLateness 2 = .ok (.iconst 0, 1) := by decide +kernel
theorem dX2_worstLateness_3 : decode cX2_worstLateness 3 = .ok (.istore_n 2, 1) := by decide +kernel
theorem dX2_worstLateness_4 : decode cX2_worstLateness 4 = .ok (.iload_n 2, 1) := by decide +kernel
theorem dX2_worstLateness_5 : decode cX2_worstLateness 5 = .ok (.aload_n 0, 1) := by decide +kernel
theorem dX2_worstLateness_6 : decode cX2_worstLateness 6 = .ok (.getfield 161, 3) := by decide +kernel
theorem dX2_worstLateness_9 : decode cX2_worstLateness 9 = .ok (.if_icmp .ge 25, 3) := by decide +kernel
theorem dX2_worstLateness_12 : decode cX2_worstLateness 12 = .ok (.iload_n 2, 1) := by decide +kernel
theorem dX2_worstLateness_13 : decode cX2_worstLateness 13 = .ok (.aload_n 0, 1) := by decide +kernel
theorem dX2_worstLateness_14 : decode cX2_worstLateness 14 = .ok (.getfield 26, 3) := by decide +kernel
theorem dX2_worstLateness_17 : decode cX2_worstLateness 17 = .ok (.iload_n 2, 1) := by decide +kernel
theorem dX2_worstLateness_18 : decode cX2_worstLateness 18 = .ok (.iaload, 1) := by decide +kernel
theorem dX2_worstLateness_19 : decode cX2_worstLateness 19 = .ok (.isub, 1) := by decide +kernel
theorem dX2_worstLateness_20 : decode cX2_worstLateness 20 = .ok (.istore_n 3, 1) := by decide +kernel
theorem dX2_worstLateness_21 : decode cX2_worstLateness 21 = .ok (.iload_n 3, 1) := by decide +kernel
theorem dX2_worstLateness_22 : decode cX2_worstLateness 22 = .ok (.iload_n 1, 1) := by decide +kernel
theorem dX2_worstLateness_23 : decode cX2_worstLateness 23 = .ok (.if_icmp .le 5, 3) := by decide +kernel
theorem dX2_worstLateness_26 : decode cX2_worstLateness 26 = .ok (.iload_n 3, 1) := by decide +kernel
theorem dX2_worstLateness_27 : decode cX2_worstLateness 27 = .ok (.istore_n 1, 1) := by decide +kernel
theorem dX2_worstLateness_28 : decode cX2_worstLateness 28 = .ok (.iinc 2 1, 3) := by decide +kernel
theorem dX2_worstLateness_31 : decode cX2_worstLateness 31 = .ok (.goto (-27), 3) := by decide +kernel
theorem dX2_worstLateness_34 : decode cX2_worstLateness 34 = .ok (.iload_n 1, 1) := by decide +kernel
theorem dX2_worstLateness_35 : decode cX2_worstLateness 35 = .ok (.ireturn, 1) := by decide +kernel
set_option maxRecDepth 20000 in
theorem ggX2_fewestChanges_X2_countInLanes : GoodIn wsX2_fewestChanges wsX2_countInLanes := goodIn_r _ [9, 10, 11, 12, 13, 14, 15, 16, 17, 76, 77, 78, 79, 80, 81, 82, 83, 84, 85, 86, 87, 88, 89, 90, 91, 92, 93, 94] (by decide +kernel) (by decide +kernel)
set_option maxRecDepth 20000 in
theorem gX2_fewestChanges_X2_countInLanes : GoodIn wsX2_fewestChanges (wsV RX2 133 RX2 yX2_countInLanes wsX2_countInLanes) := goodIn_app (goodIn_of _ (by decide +kernel)) ggX2_fewestChanges_X2_countInLanes
set_option maxRecDepth 20000 in
theorem ggX2_fewestChanges_X2_copyLanesIntoPlan : GoodIn wsX2_fewestChanges wsX2_copyLanesIntoPlan := goodIn_r _ [21, 3, 10, 11, 22, 23, 24, 25, 26, 27, 12, 13, 14, 15, 16, 17, 28, 29, 30, 31, 32, 33, 34, 35, 8, 36, 37, 38, 39, 40, 41, 42, 43, 44, 45, 46, 47, 76, 77, 78, 79, 80, 81, 82, 83, 84, 85, 86, 87, 88, 89, 90, 91, 92, 95, 96, 97, 98, 99, 100, 93, 94] (by decide +kernel) (by decide +kernel)
set_option maxRecDepth 20000 in
theorem gX2_fewestChanges_X2_copyLanesIntoPlan : GoodIn wsX2_fewestChanges (wsV RX2 138 RX2 yX2_copyLanesIntoPlan wsX2_copyLanesIntoPlan) := goodIn_app (goodIn_of _ (by decide +kernel)) ggX2_fewestChanges_X2_copyLanesIntoPlan
set_option maxRecDepth 20000 in
theorem ggX2_fewestChanges_X1_fewest : GoodIn wsX2_fewestChanges wsX1_fewest := goodIn_r _ [51, 52, 53, 54, 25, 55, 56, 27, 57, 58, 59, 60, 61, 62, 63, 64, 65, 47, 66, 67, 68, 69, 70, 71, 72, 73, 74, 75, 95, 96, 97, 98, 99, 100] (by decide +kernel) (by decide +kernel)
set_option maxRecDepth 20000 in
theorem gX2_fewestChanges_X1_fewest : GoodIn wsX2_fewestChanges (wsV RX2 185 RX1 yX1_fewest wsX1_fewest) := goodIn_app (goodIn_of _ (by decide +kernel)) ggX2_fewestChanges_X1_fewest
theorem dX2_fewestChanges_0 : decode cX2_fewestChanges 0 = .ok (.aload_n 0, 1) := by decide +kernel
theorem dX2_fewestChanges_1 : decode cX2_fewestChanges 1 = .ok (.invokevirtual 133, 3) := by decide +kernel
theorem dX2_fewestChanges_4 : decode cX2_fewestChanges 4 = .ok (.bipush 12, 2) := by decide +kernel
theorem dX2_fewestChanges_6 : decode cX2_fewestChanges 6 = .ok (.if_icmp .le 13, 3) := by decide +kernel
theorem dX2_fewestChanges_9 : decode cX2_fewestChanges 9 = .ok (.new 82, 3) := by decide +kernel
theorem dX2_fewestChanges_12 : decode cX2_fewestChanges 12 = .ok (.dup, 1) := by decide +kernel
theorem dX2_fewestChanges_13 : decode cX2_fewestChanges 13 = .ok (.ldc 136, 2) := by decide +kernel
theorem dX2_fewestChanges_15 : decode cX2_fewestChanges 15 = .ok (.invokespecial 86, 3) := by decide +kernel
theorem dX2_fewestChanges_18 : decode cX2_fewestChanges 18 = .ok (.athrow, 1) := by decide +kernel
theorem dX2_fewestChanges_19 : decode cX2_fewestChanges 19 = .ok (.aload_n 0, 1) := by decide +kernel
theorem dX2_fewestChanges_20 : decode cX2_fewestChanges 20 = .ok (.invokevirtual 138, 3) := by decide +kernel
theorem dX2_fewestChanges_23 : decode cX2_fewestChanges 23 = .ok (.aload_n 0, 1) := by decide +kernel
theorem dX2_fewestChanges_24 : decode cX2_fewestChanges 24 = .ok (.getfield 32, 3) := by decide +kernel
theorem dX2_fewestChanges_27 : decode cX2_fewestChanges 27 = .ok (.aload_n 0, 1) := by decide +kernel
theorem dX2_fewestChanges_28 : decode cX2_fewestChanges 28 = .ok (.getfield 46, 3) := by decide +kernel
theorem dX2_fewestChanges_31 : decode cX2_fewestChanges 31 = .ok (.invokevirtual 185, 3) := by decide +kernel
theorem dX2_fewestChanges_34 : decode cX2_fewestChanges 34 = .ok (.ireturn, 1) := by decide +kernel
set_option maxRecDepth 20000 in
theorem ggX2_fewestByAll_X2_countInLanes : GoodIn wsX2_fewestByAll wsX2_countInLanes := goodIn_r _ [9, 10, 11, 12, 13, 14, 15, 16, 17, 58, 59, 60, 61, 62, 63, 64, 65, 66, 67, 68, 69, 70, 71, 72, 73, 74, 75, 76] (by decide +kernel) (by decide +kernel)
set_option maxRecDepth 20000 in
theorem gX2_fewestByAll_X2_countInLanes : GoodIn wsX2_fewestByAll (wsV RX2 133 RX2 yX2_countInLanes wsX2_countInLanes) := goodIn_app (goodIn_of _ (by decide +kernel)) ggX2_fewestByAll_X2_countInLanes
set_option maxRecDepth 20000 in
theorem ggX2_fewestByAll_X2_copyLanesIntoPlan : GoodIn wsX2_fewestByAll wsX2_copyLanesIntoPlan := goodIn_r _ [21, 3, 10, 11, 22, 23, 24, 25, 26, 27, 12, 13, 14, 15, 16, 17, 28, 29, 30, 31, 32, 33, 34, 35, 8, 36, 37, 38, 39, 40, 41, 42, 43, 44, 45, 46, 47, 58, 59, 60, 61, 62, 63, 64, 65, 66, 67, 68, 69, 70, 71, 72, 73, 74, 77, 78, 79, 80, 81, 82, 75, 76] (by decide +kernel) (by decide +kernel)
set_option maxRecDepth 20000 in
theorem gX2_fewestByAll_X2_copyLanesIntoPlan : GoodIn wsX2_fewestByAll (wsV RX2 138 RX2 yX2_copyLanesIntoPlan wsX2_copyLanesIntoPlan) := goodIn_app (goodIn_of _ (by decide +kernel)) ggX2_fewestByAll_X2_copyLanesIntoPlan
set_option maxRecDepth 20000 in
theorem ggX2_fewestByAll_X1_fewestOfAllOrders : GoodIn wsX2_fewestByAll wsX1_fewestOfAllOrders := goodIn_r _ [51, 52, 27, 53, 54, 25, 55, 47, 56, 8, 57, 77, 78, 79, 80, 81, 82] (by decide +kernel) (by decide +kernel)
set_option maxRecDepth 20000 in
theorem gX2_fewestByAll_X1_fewestOfAllOrders : GoodIn wsX2_fewestByAll (wsV RX2 190 RX1 yX1_fewestOfAllOrders wsX1_fewestOfAllOrders) := goodIn_app (goodIn_of _ (by decide +kernel)) ggX2_fewestByAll_X1_fewestOfAllOrders
theorem dX2_fewestByAll_0 : decode cX2_fewestByAll 0 = .ok (.aload_n 0, 1) := by decide +kernel
theorem dX2_fewestByAll_1 : decode cX2_fewestByAll 1 = .ok (.invokevirtual 133, 3) := by decide +kernel
theorem dX2_fewestByAll_4 : decode cX2_fewestByAll 4 = .ok (.bipush 8, 2) := by decide +kernel
theorem dX2_fewestByAll_6 : decode cX2_fewestByAll 6 = .ok (.if_icmp .le 13, 3) := by decide +kernel
theorem dX2_fewestByAll_9 : decode cX2_fewestByAll 9 = .ok (.new 82, 3) := by decide +kernel
theorem dX2_fewestByAll_12 : decode cX2_fewestByAll 12 = .ok (.dup, 1) := by decide +kernel
theorem dX2_fewestByAll_13 : decode cX2_fewestByAll 13 = .ok (.ldc 188, 2) := by decide +kernel
theorem dX2_fewestByAll_15 : decode cX2_fewestByAll 15 = .ok (.invokespecial 86, 3) := by decide +kernel
theorem dX2_fewestByAll_18 : decode cX2_fewestByAll 18 = .ok (.athrow, 1) := by decide +kernel
theorem dX2_fewestByAll_19 : decode cX2_fewestByAll 19 = .ok (.aload_n 0, 1) := by decide +kernel
theorem dX2_fewestByAll_20 : decode cX2_fewestByAll 20 = .ok (.invokevirtual 138, 3) := by decide +kernel
theorem dX2_fewestByAll_23 : decode cX2_fewestByAll 23 = .ok (.aload_n 0, 1) := by decide +kernel
theorem dX2_fewestByAll_24 : decode cX2_fewestByAll 24 = .ok (.getfield 32, 3) := by decide +kernel
theorem dX2_fewestByAll_27 : decode cX2_fewestByAll 27 = .ok (.aload_n 0, 1) := by decide +kernel
theorem dX2_fewestByAll_28 : decode cX2_fewestByAll 28 = .ok (.getfield 46, 3) := by decide +kernel
theorem dX2_fewestByAll_31 : decode cX2_fewestByAll 31 = .ok (.invokevirtual 190, 3) := by decide +kernel
theorem dX2_fewestByAll_34 : decode cX2_fewestByAll 34 = .ok (.ireturn, 1) := by decide +kernel
theorem dX2_isColour_0 : decode cX2_isColour 0 = .ok (.iload_n 0, 1) := by decide +kernel
theorem dX2_isColour_1 : decode cX2_isColour 1 = .ok (.ifCond .lt 12, 3) := by decide +kernel
theorem dX2_isColour_4 : decode cX2_isColour 4 = .ok (.iload_n 0, 1) := by decide +kernel
theorem dX2_isColour_5 : decode cX2_isColour 5 = .ok (.iconst 5, 1) := by decide +kernel
theorem dX2_isColour_6 : decode cX2_isColour 6 = .ok (.if_icmp .ge 7, 3) := by decide +kernel
theorem dX2_isColour_9 : decode cX2_isColour 9 = .ok (.iconst 1, 1) := by decide +kernel
theorem dX2_isColour_10 : decode cX2_isColour 10 = .ok (.goto 4, 3) := by decide +kernel
theorem dX2_isColour_13 : decode cX2_isColour 13 = .ok (.iconst 0, 1) := by decide +kernel
theorem dX2_isColour_14 : decode cX2_isColour 14 = .ok (.ireturn, 1) := by decide +kernel
theorem dX2_isLane_0 : decode cX2_isLane 0 = .ok (.iload_n 1, 1) := by decide +kernel
theorem dX2_isLane_1 : decode cX2_isLane 1 = .ok (.ifCond .lt 15, 3) := by decide +kernel
theorem dX2_isLane_4 : decode cX2_isLane 4 = .ok (.iload_n 1, 1) := by decide +kernel
theorem dX2_isLane_5 : decode cX2_isLane 5 = .ok (.aload_n 0, 1) := by decide +kernel
theorem dX2_isLane_6 : decode cX2_isLane 6 = .ok (.getfield 36, 3) := by decide +kernel
theorem dX2_isLane_9 : decode cX2_isLane 9 = .ok (.if_icmp .ge 7, 3) := by decide +kernel
theorem dX2_isLane_12 : decode cX2_isLane 12 = .ok (.iconst 1, 1) := by decide +kernel
theorem dX2_isLane_13 : decode cX2_isLane 13 = .ok (.goto 4, 3) := by decide +kernel
theorem dX2_isLane_16 : decode cX2_isLane 16 = .ok (.iconst 0, 1) := by decide +kernel
theorem dX2_isLane_17 : decode cX2_isLane 17 = .ok (.ireturn, 1) := by decide +kernel
theorem dX2_isBody_0 : decode cX2_isBody 0 = .ok (.iload_n 1, 1) := by decide +kernel
theorem dX2_isBody_1 : decode cX2_isBody 1 = .ok (.ifCond .lt 15, 3) := by decide +kernel
theorem dX2_isBody_4 : decode cX2_isBody 4 = .ok (.iload_n 1, 1) := by decide +kernel
theorem dX2_isBody_5 : decode cX2_isBody 5 = .ok (.aload_n 0, 1) := by decide +kernel
theorem dX2_isBody_6 : decode cX2_isBody 6 = .ok (.getfield 60, 3) := by decide +kernel
theorem dX2_isBody_9 : decode cX2_isBody 9 = .ok (.if_icmp .ge 7, 3) := by decide +kernel
theorem dX2_isBody_12 : decode cX2_isBody 12 = .ok (.iconst 1, 1) := by decide +kernel
theorem dX2_isBody_13 : decode cX2_isBody 13 = .ok (.goto 4, 3) := by decide +kernel
theorem dX2_isBody_16 : decode cX2_isBody 16 = .ok (.iconst 0, 1) := by decide +kernel
theorem dX2_isBody_17 : decode cX2_isBody 17 = .ok (.ireturn, 1) := by decide +kernel
set_option maxRecDepth 20000 in
theorem ggX2_hasRoom_X0_count : GoodIn wsX2_hasRoom wsX0_count := goodIn_r _ [7, 8, 26, 27] (by decide +kernel) (by decide +kernel)
set_option maxRecDepth 20000 in
theorem gX2_hasRoom_X0_count : GoodIn wsX2_hasRoom (wsV RX2 164 RX0 yX0_count wsX0_count) := goodIn_app (goodIn_of _ (by decide +kernel)) ggX2_hasRoom_X0_count
theorem dX2_hasRoom_0 : decode cX2_hasRoom 0 = .ok (.aload_n 0, 1) := by decide +kernel
theorem dX2_hasRoom_1 : decode cX2_hasRoom 1 = .ok (.getfield 11, 3) := by decide +kernel
theorem dX2_hasRoom_4 : decode cX2_hasRoom 4 = .ok (.iload_n 1, 1) := by decide +kernel
theorem dX2_hasRoom_5 : decode cX2_hasRoom 5 = .ok (.aaload, 1) := by decide +kernel
theorem dX2_hasRoom_6 : decode cX2_hasRoom 6 = .ok (.invokevirtual 164, 3) := by decide +kernel
theorem dX2_hasRoom_9 : decode cX2_hasRoom 9 = .ok (.aload_n 0, 1) := by decide +kernel
theorem dX2_hasRoom_10 : decode cX2_hasRoom 10 = .ok (.getfield 40, 3) := by decide +kernel
theorem dX2_hasRoom_13 : decode cX2_hasRoom 13 = .ok (.if_icmp .ge 7, 3) := by decide +kernel
theorem dX2_hasRoom_16 : decode cX2_hasRoom 16 = .ok (.iconst 1, 1) := by decide +kernel
theorem dX2_hasRoom_17 : decode cX2_hasRoom 17 = .ok (.goto 4, 3) := by decide +kernel
theorem dX2_hasRoom_20 : decode cX2_hasRoom 20 = .ok (.iconst 0, 1) := by decide +kernel
theorem dX2_hasRoom_21 : decode cX2_hasRoom 21 = .ok (.ireturn, 1) := by decide +kernel
set_option maxRecDepth 20000 in
theorem ggX2_storeIsFull_X2_countAt : GoodIn wsX2_storeIsFull wsX2_countAt := goodIn_r _ [6, 7, 8, 9, 10, 11, 12, 13, 14, 15, 16, 17, 18, 19, 20, 21, 22, 23, 24, 25] (by decide +kernel) (by decide +kernel)
set_option maxRecDepth 20000 in
theorem gX2_storeIsFull_X2_countAt : GoodIn wsX2_storeIsFull (wsV RX2 151 RX2 yX2_countAt wsX2_countAt) := goodIn_app (goodIn_of _ (by decide +kernel)) ggX2_storeIsFull_X2_countAt
theorem dX2_storeIsFull_0 : decode cX2_storeIsFull 0 = .ok (.aload_n 0, 1) := by decide +kernel
theorem dX2_storeIsFull_1 : decode cX2_storeIsFull 1 = .ok (.bipush 10, 2) := by decide +kernel
theorem dX2_storeIsFull_3 : decode cX2_storeIsFull 3 = .ok (.invokevirtual 151, 3) := by decide +kernel
theorem dX2_storeIsFull_6 : decode cX2_storeIsFull 6 = .ok (.aload_n 0, 1) := by decide +kernel
theorem dX2_storeIsFull_7 : decode cX2_storeIsFull 7 = .ok (.getfield 43, 3) := by decide +kernel
theorem dX2_storeIsFull_10 : decode cX2_storeIsFull 10 = .ok (.if_icmp .lt 7, 3) := by decide +kernel
theorem dX2_storeIsFull_13 : decode cX2_storeIsFull 13 = .ok (.iconst 1, 1) := by decide +kernel
theorem dX2_storeIsFull_14 : decode cX2_storeIsFull 14 = .ok (.goto 4, 3) := by decide +kernel
theorem dX2_storeIsFull_17 : decode cX2_storeIsFull 17 = .ok (.iconst 0, 1) := by decide +kernel
theorem dX2_storeIsFull_18 : decode cX2_storeIsFull 18 = .ok (.ireturn, 1) := by decide +kernel
theorem dX2_countAt_0 : decode cX2_countAt 0 = .ok (.iconst 0, 1) := by decide +kernel
theorem dX2_countAt_1 : decode cX2_countAt 1 = .ok (.istore_n 2, 1) := by decide +kernel
theorem dX2_countAt_2 : decode cX2_countAt 2 = .ok (.iconst 0, 1) := by decide +kernel
theorem dX2_countAt_3 : decode cX2_countAt 3 = .ok (.istore_n 3, 1) := by decide +kernel
theorem dX2_countAt_4 : decode cX2_countAt 4 = .ok (.iload_n 3, 1) := by decide +kernel
theorem dX2_countAt_5 : decode cX2_countAt 5 = .ok (.aload_n 0, 1) := by decide +kernel
theorem dX2_countAt_6 : decode cX2_countAt 6 = .ok (.getfield 60, 3) := by decide +kernel
theorem dX2_countAt_9 : decode cX2_countAt 9 = .ok (.if_icmp .ge 22, 3) := by decide +kernel
theorem dX2_countAt_12 : decode cX2_countAt 12 = .ok (.aload_n 0, 1) := by decide +kernel
theorem dX2_countAt_13 : decode cX2_countAt 13 = .ok (.getfield 20, 3) := by decide +kernel
theorem dX2_countAt_16 : decode cX2_countAt 16 = .ok (.iload_n 3, 1) := by decide +kernel
theorem dX2_countAt_17 : decode cX2_countAt 17 = .ok (.iaload, 1) := by decide +kernel
theorem dX2_countAt_18 : decode cX2_countAt 18 = .ok (.iload_n 1, 1) := by decide +kernel
theorem dX2_countAt_19 : decode cX2_countAt 19 = .ok (.if_icmp .ne 6, 3) := by decide +kernel
theorem dX2_countAt_22 : decode cX2_countAt 22 = .ok (.iinc 2 1, 3) := by decide +kernel
theorem dX2_countAt_25 : decode cX2_countAt 25 = .ok (.iinc 3 1, 3) := by decide +kernel
theorem dX2_countAt_28 : decode cX2_countAt 28 = .ok (.goto (-24), 3) := by decide +kernel
theorem dX2_countAt_31 : decode cX2_countAt 31 = .ok (.iload_n 2, 1) := by decide +kernel
theorem dX2_countAt_32 : decode cX2_countAt 32 = .ok (.ireturn, 1) := by decide +kernel
set_option maxRecDepth 20000 in
theorem ggX2_countInLanes_X0_count : GoodIn wsX2_countInLanes wsX0_count := goodIn_r _ [7, 8, 26, 27] (by decide +kernel) (by decide +kernel)
set_option maxRecDepth 20000 in
theorem gX2_countInLanes_X0_count : GoodIn wsX2_countInLanes (wsV RX2 164 RX0 yX0_count wsX0_count) := goodIn_app (goodIn_of _ (by decide +kernel)) ggX2_countInLanes_X0_count
theorem dX2_countInLanes_0 : decode cX2_countInLanes 0 = .ok (.iconst 0, 1) := by decide +kernel
theorem dX2_countInLanes_1 : decode cX2_countInLanes 1 = .ok (.istore_n 1, 1) := by decide +kernel
theorem dX2_countInLanes_2 : decode cX2_countInLanes 2 = .ok (.iconst 0, 1) := by decide +kernel
theorem dX2_countInLanes_3 : decode cX2_countInLanes 3 = .ok (.istore_n 2, 1) := by decide +kernel
theorem dX2_countInLanes_4 : decode cX2_countInLanes 4 = .ok (.iload_n 2, 1) := by decide +kernel
theorem dX2_countInLanes_5 : decode cX2_countInLanes 5 = .ok (.aload_n 0, 1) := by decide +kernel
theorem dX2_countInLanes_6 : decode cX2_countInLanes 6 = .ok (.getfield 36, 3) := by decide +kernel
theorem dX2_countInLanes_9 : decode cX2_countInLanes 9 = .ok (.if_icmp .ge 21, 3) := by decide +kernel
theorem dX2_countInLanes_12 : decode cX2_countInLanes 12 = .ok (.iload_n 1, 1) := by decide +kernel
theorem dX2_countInLanes_13 : decode cX2_countInLanes 13 = .ok (.aload_n 0, 1) := by decide +kernel
theorem dX2_countInLanes_14 : decode cX2_countInLanes 14 = .ok (.getfield 11, 3) := by decide +kernel
theorem dX2_countInLanes_17 : decode cX2_countInLanes 17 = .ok (.iload_n 2, 1) := by decide +kernel
theorem dX2_countInLanes_18 : decode cX2_countInLanes 18 = .ok (.aaload, 1) := by decide +kernel
theorem dX2_countInLanes_19 : decode cX2_countInLanes 19 = .ok (.invokevirtual 164, 3) := by decide +kernel
theorem dX2_countInLanes_22 : decode cX2_countInLanes 22 = .ok (.iadd, 1) := by decide +kernel
theorem dX2_countInLanes_23 : decode cX2_countInLanes 23 = .ok (.istore_n 1, 1) := by decide +kernel
theorem dX2_countInLanes_24 : decode cX2_countInLanes 24 = .ok (.iinc 2 1, 3) := by decide +kernel
theorem dX2_countInLanes_27 : decode cX2_countInLanes 27 = .ok (.goto (-23), 3) := by decide +kernel
theorem dX2_countInLanes_30 : decode cX2_countInLanes 30 = .ok (.iload_n 1, 1) := by decide +kernel
theorem dX2_countInLanes_31 : decode cX2_countInLanes 31 = .ok (.ireturn, 1) := by decide +kernel
theorem dX2_lowestInStore_0 : decode cX2_lowestInStore 0 = .ok (.iconst 0, 1) := by decide +kernel
theorem dX2_lowestInStore_1 : decode cX2_lowestInStore 1 = .ok (.istore_n 1, 1) := by decide +kernel
theorem dX2_lowestInStore_2 : decode cX2_lowestInStore 2 = .ok (.iload_n 1, 1) := by decide +kernel
theorem dX2_lowestInStore_3 : decode cX2_lowestInStore 3 = .ok (.aload_n 0, 1) := by decide +kernel
theorem dX2_lowestInStore_4 : decode cX2_lowestInStore 4 = .ok (.getfield 60, 3) := by decide +kernel
theorem dX2_lowestInStore_7 : decode cX2_lowestInStore 7 = .ok (.if_icmp .ge 22, 3) := by decide +kernel
theorem dX2_lowestInStore_10 : decode cX2_lowestInStore 10 = .ok (.aload_n 0, 1) := by decide +kernel
theorem dX2_lowestInStore_11 : decode cX2_lowestInStore 11 = .ok (.getfield 20, 3) := by decide +kernel
theorem dX2_lowestInStore_14 : decode cX2_lowestInStore 14 = .ok (.iload_n 1, 1) := by decide +kernel
theorem dX2_lowestInStore_15 : decode cX2_lowestInStore 15 = .ok (.iaload, 1) := by decide +kernel
theorem dX2_lowestInStore_16 : decode cX2_lowestInStore 16 = .ok (.bipush 10, 2) := by decide +kernel
theorem dX2_lowestInStore_18 : decode cX2_lowestInStore 18 = .ok (.if_icmp .ne 5, 3) := by decide +kernel
theorem dX2_lowestInStore_21 : decode cX2_lowestInStore 21 = .ok (.iload_n 1, 1) := by decide +kernel
theorem dX2_lowestInStore_22 : decode cX2_lowestInStore 22 = .ok (.ireturn, 1) := by decide +kernel
theorem dX2_lowestInStore_23 : decode cX2_lowestInStore 23 = .ok (.iinc 1 1, 3) := by decide +kernel
theorem dX2_lowestInStore_26 : decode cX2_lowestInStore 26 = .ok (.goto (-24), 3) := by decide +kernel
theorem dX2_lowestInStore_29 : decode cX2_lowestInStore 29 = .ok (.iconst (-1), 1) := by decide +kernel
theorem dX2_lowestInStore_30 : decode cX2_lowestInStore 30 = .ok (.ireturn, 1) := by decide +kernel
theorem dX2_laneBehind_0 : decode cX2_laneBehind 0 = .ok (.iload_n 1, 1) := by decide +kernel
theorem dX2_laneBehind_1 : decode cX2_laneBehind 1 = .ok (.iconst 1, 1) := by decide +kernel
theorem dX2_laneBehind_2 : decode cX2_laneBehind 2 = .ok (.iadd, 1) := by decide +kernel
theorem dX2_laneBehind_3 : decode cX2_laneBehind 3 = .ok (.aload_n 0, 1) := by decide +kernel
theorem dX2_laneBehind_4 : decode cX2_laneBehind 4 = .ok (.getfield 36, 3) := by decide +kernel
theorem dX2_laneBehind_7 : decode cX2_laneBehind 7 = .ok (.if_icmp .ge 9, 3) := by decide +kernel
theorem dX2_laneBehind_10 : decode cX2_laneBehind 10 = .ok (.iload_n 1, 1) := by decide +kernel
theorem dX2_laneBehind_11 : decode cX2_laneBehind 11 = .ok (.iconst 1, 1) := by decide +kernel
theorem dX2_laneBehind_12 : decode cX2_laneBehind 12 = .ok (.iadd, 1) := by decide +kernel
theorem dX2_laneBehind_13 : decode cX2_laneBehind 13 = .ok (.goto 4, 3) := by decide +kernel
theorem dX2_laneBehind_16 : decode cX2_laneBehind 16 = .ok (.iconst 0, 1) := by decide +kernel
theorem dX2_laneBehind_17 : decode cX2_laneBehind 17 = .ok (.ireturn, 1) := by decide +kernel
theorem dX2_newBody_0 : decode cX2_newBody 0 = .ok (.aload_n 0, 1) := by decide +kernel
theorem dX2_newBody_1 : decode cX2_newBody 1 = .ok (.getfield 60, 3) := by decide +kernel
theorem dX2_newBody_4 : decode cX2_newBody 4 = .ok (.istore_n 2, 1) := by decide +kernel
theorem dX2_newBody_5 : decode cX2_newBody 5 = .ok (.aload_n 0, 1) := by decide +kernel
theorem dX2_newBody_6 : decode cX2_newBody 6 = .ok (.getfield 16, 3) := by decide +kernel
theorem dX2_newBody_9 : decode cX2_newBody 9 = .ok (.iload_n 2, 1) := by decide +kernel
theorem dX2_newBody_10 : decode cX2_newBody 10 = .ok (.iload_n 1, 1) := by decide +kernel
theorem dX2_newBody_11 : decode cX2_newBody 11 = .ok (.iastore, 1) := by decide +kernel
theorem dX2_newBody_12 : decode cX2_newBody 12 = .ok (.aload_n 0, 1) := by decide +kernel
theorem dX2_newBody_13 : decode cX2_newBody 13 = .ok (.dup, 1) := by decide +kernel
theorem dX2_newBody_14 : decode cX2_newBody 14 = .ok (.getfield 60, 3) := by decide +kernel
theorem dX2_newBody_17 : decode cX2_newBody 17 = .ok (.iconst 1, 1) := by decide +kernel
theorem dX2_newBody_18 : decode cX2_newBody 18 = .ok (.iadd, 1) := by decide +kernel
theorem dX2_newBody_19 : decode cX2_newBody 19 = .ok (.putfield 60, 3) := by decide +kernel
theorem dX2_newBody_22 : decode cX2_newBody 22 = .ok (.iload_n 2, 1) := by decide +kernel
theorem dX2_newBody_23 : decode cX2_newBody 23 = .ok (.ireturn, 1) := by decide +kernel
set_option maxRecDepth 20000 in
theorem ggX2_putInto_X0_add : GoodIn wsX2_putInto wsX0_add := goodIn_r _ [8, 9, 10, 34, 35] (by decide +kernel) (by decide +kernel)
set_option maxRecDepth 20000 in
theorem gX2_putInto_X0_add : GoodIn wsX2_putInto (wsV RX2 214 RX0 yX0_add wsX0_add) := goodIn_app (goodIn_of _ (by decide +kernel)) ggX2_putInto_X0_add
set_option maxRecDepth 20000 in
theorem ggX2_putInto_X2_laneBehind : GoodIn wsX2_putInto wsX2_laneBehind := goodIn_r _ [15, 16, 17, 18, 19, 20, 21, 22, 23, 24, 25, 26, 27, 28, 29, 30, 31, 32, 33] (by decide +kernel) (by decide +kernel)
set_option maxRecDepth 20000 in
theorem gX2_putInto_X2_laneBehind : GoodIn wsX2_putInto (wsV RX2 211 RX2 yX2_laneBehind wsX2_laneBehind) := goodIn_app (goodIn_of _ (by decide +kernel)) ggX2_putInto_X2_laneBehind
theorem dX2_putInto_0 : decode cX2_putInto 0 = .ok (.aload_n 0, 1) := by decide +kernel
theorem dX2_putInto_1 : decode cX2_putInto 1 = .ok (.getfield 11, 3) := by decide +kernel
theorem dX2_putInto_4 : decode cX2_putInto 4 = .ok (.iload_n 1, 1) := by decide +kernel
theorem dX2_putInto_5 : decode cX2_putInto 5 = .ok (.aaload, 1) := by decide +kernel
theorem dX2_putInto_6 : decode cX2_putInto 6 = .ok (.iload_n 2, 1) := by decide +kernel
theorem dX2_putInto_7 : decode cX2_putInto 7 = .ok (.invokevirtual 214, 3) := by decide +kernel
theorem dX2_putInto_10 : decode cX2_putInto 10 = .ok (.aload_n 0, 1) := by decide +kernel
theorem dX2_putInto_11 : decode cX2_putInto 11 = .ok (.getfield 20, 3) := by decide +kernel
theorem dX2_putInto_14 : decode cX2_putInto 14 = .ok (.iload_n 2, 1) := by decide +kernel
theorem dX2_putInto_15 : decode cX2_putInto 15 = .ok (.iload_n 1, 1) := by decide +kernel
theorem dX2_putInto_16 : decode cX2_putInto 16 = .ok (.iastore, 1) := by decide +kernel
theorem dX2_putInto_17 : decode cX2_putInto 17 = .ok (.aload_n 0, 1) := by decide +kernel
theorem dX2_putInto_18 : decode cX2_putInto 18 = .ok (.aload_n 0, 1) := by decide +kernel
theorem dX2_putInto_19 : decode cX2_putInto 19 = .ok (.iload_n 1, 1) := by decide +kernel
theorem dX2_putInto_20 : decode cX2_putInto 20 = .ok (.invokevirtual 211, 3) := by decide +kernel
theorem dX2_putInto_23 : decode cX2_putInto 23 = .ok (.putfield 208, 3) := by decide +kernel
theorem dX2_putInto_26 : decode cX2_putInto 26 = .ok (.return_, 1) := by decide +kernel
set_option maxRecDepth 20000 in
theorem ggX2_colourOf_X2_isBody : GoodIn wsX2_colourOf wsX2_isBody := goodIn_r _ [6, 7, 8, 9, 10, 11, 12, 13, 14, 15, 16, 17, 18, 19, 20, 21, 22, 23, 24] (by decide +kernel) (by decide +kernel)
set_option maxRecDepth 20000 in
theorem gX2_colourOf_X2_isBody : GoodIn wsX2_colourOf (wsV RX2 144 RX2 yX2_isBody wsX2_isBody) := goodIn_app (goodIn_of _ (by decide +kernel)) ggX2_colourOf_X2_isBody
theorem dX2_colourOf_0 : decode cX2_colourOf 0 = .ok (.aload_n 0, 1) := by decide +kernel
theorem dX2_colourOf_1 : decode cX2_colourOf 1 = .ok (.iload_n 1, 1) := by decide +kernel
theorem dX2_colourOf_2 : decode cX2_colourOf 2 = .ok (.invokevirtual 144, 3) := by decide +kernel
theorem dX2_colourOf_5 : decode cX2_colourOf 5 = .ok (.ifCond .eq 12, 3) := by decide +kernel
theorem dX2_colourOf_8 : decode cX2_colourOf 8 = .ok (.aload_n 0, 1) := by decide +kernel
theorem dX2_colourOf_9 : decode cX2_colourOf 9 = .ok (.getfield 16, 3) := by decide +kernel
theorem dX2_colourOf_12 : decode cX2_colourOf 12 = .ok (.iload_n 1, 1) := by decide +kernel
theorem dX2_colourOf_13 : decode cX2_colourOf 13 = .ok (.iaload, 1) := by decide +kernel
theorem dX2_colourOf_14 : decode cX2_colourOf 14 = .ok (.goto 4, 3) := by decide +kernel
theorem dX2_colourOf_17 : decode cX2_colourOf 17 = .ok (.iconst (-1), 1) := by decide +kernel
theorem dX2_colourOf_18 : decode cX2_colourOf 18 = .ok (.ireturn, 1) := by decide +kernel
set_option maxRecDepth 20000 in
theorem ggX2_takeHeadOf_X0_takeHead : GoodIn wsX2_takeHeadOf wsX0_takeHead := goodIn_r _ [11, 12, 13, 14, 15, 16, 10, 17, 44, 45] (by decide +kernel) (by decide +kernel)
set_option maxRecDepth 20000 in
theorem gX2_takeHeadOf_X0_takeHead : GoodIn wsX2_takeHeadOf (wsV RX2 225 RX0 yX0_takeHead wsX0_takeHead) := goodIn_app (goodIn_of _ (by decide +kernel)) ggX2_takeHeadOf_X0_takeHead
set_option maxRecDepth 20000 in
theorem ggX2_takeHeadOf_X2_isBody : GoodIn wsX2_takeHeadOf wsX2_isBody := goodIn_r _ [22, 23, 27, 28, 29, 30, 31, 32, 33, 34, 35, 36, 37, 38, 39, 40, 41, 42, 43] (by decide +kernel) (by decide +kernel)
set_option maxRecDepth 20000 in
theorem gX2_takeHeadOf_X2_isBody : GoodIn wsX2_takeHeadOf (wsV RX2 144 RX2 yX2_isBody wsX2_isBody) := goodIn_app (goodIn_of _ (by decide +kernel)) ggX2_takeHeadOf_X2_isBody
set_option maxRecDepth 20000 in
theorem ggX2_takeHeadOf_X2_changeBetween : GoodIn wsX2_takeHeadOf wsX2_changeBetween := goodIn_r _ [26] (by decide +kernel) (by decide +kernel)
set_option maxRecDepth 20000 in
theorem gX2_takeHeadOf_X2_changeBetween : GoodIn wsX2_takeHeadOf (va_wsS RX2 228 yX2_changeBetween wsX2_changeBetween) := goodIn_app (goodIn_of _ (by decide +kernel)) ggX2_takeHeadOf_X2_changeBetween
theorem dX2_takeHeadOf_0 : decode cX2_takeHeadOf 0 = .ok (.aload_n 0, 1) := by decide +kernel
theorem dX2_takeHeadOf_1 : decode cX2_takeHeadOf 1 = .ok (.getfield 11, 3) := by decide +kernel
theorem dX2_takeHeadOf_4 : decode cX2_takeHeadOf 4 = .ok (.iload_n 1, 1) := by decide +kernel
theorem dX2_takeHeadOf_5 : decode cX2_takeHeadOf 5 = .ok (.aaload, 1) := by decide +kernel
theorem dX2_takeHeadOf_6 : decode cX2_takeHeadOf 6 = .ok (.invokevirtual 225, 3) := by decide +kernel
theorem dX2_takeHeadOf_9 : decode cX2_takeHeadOf 9 = .ok (.istore_n 2, 1) := by decide +kernel
theorem dX2_takeHeadOf_10 : decode cX2_takeHeadOf 10 = .ok (.aload_n 0, 1) := by decide +kernel
theorem dX2_takeHeadOf_11 : decode cX2_takeHeadOf 11 = .ok (.iload_n 2, 1) := by decide +kernel
theorem dX2_takeHeadOf_12 : decode cX2_takeHeadOf 12 = .ok (.invokevirtual 144, 3) := by decide +kernel
theorem dX2_takeHeadOf_15 : decode cX2_takeHeadOf 15 = .ok (.ifCond .ne 5, 3) := by decide +kernel
theorem dX2_takeHeadOf_18 : decode cX2_takeHeadOf 18 = .ok (.iconst (-1), 1) := by decide +kernel
theorem dX2_takeHeadOf_19 : decode cX2_takeHeadOf 19 = .ok (.ireturn, 1) := by decide +kernel
theorem dX2_takeHeadOf_20 : decode cX2_takeHeadOf 20 = .ok (.aload_n 0, 1) := by decide +kernel
theorem dX2_takeHeadOf_21 : decode cX2_takeHeadOf 21 = .ok (.getfield 20, 3) := by decide +kernel
theorem dX2_takeHeadOf_24 : decode cX2_takeHeadOf 24 = .ok (.iload_n 2, 1) := by decide +kernel
theorem dX2_takeHeadOf_25 : decode cX2_takeHeadOf 25 = .ok (.bipush 10, 2) := by decide +kernel
theorem dX2_takeHeadOf_27 : decode cX2_takeHeadOf 27 = .ok (.iastore, 1) := by decide +kernel
theorem dX2_takeHeadOf_28 : decode cX2_takeHeadOf 28 = .ok (.aload_n 0, 1) := by decide +kernel
theorem dX2_takeHeadOf_29 : decode cX2_takeHeadOf 29 = .ok (.dup, 1) := by decide +kernel
theorem dX2_takeHeadOf_30 : decode cX2_takeHeadOf 30 = .ok (.getfield 175, 3) := by decide +kernel
theorem dX2_takeHeadOf_33 : decode cX2_takeHeadOf 33 = .ok (.aload_n 0, 1) := by decide +kernel
theorem dX2_takeHeadOf_34 : decode cX2_takeHeadOf 34 = .ok (.getfield 46, 3) := by decide +kernel
theorem dX2_takeHeadOf_37 : decode cX2_takeHeadOf 37 = .ok (.aload_n 0, 1) := by decide +kernel
theorem dX2_takeHeadOf_38 : decode cX2_takeHeadOf 38 = .ok (.getfield 16, 3) := by decide +kernel
theorem dX2_takeHeadOf_41 : decode cX2_takeHeadOf 41 = .ok (.iload_n 2, 1) := by decide +kernel
theorem dX2_takeHeadOf_42 : decode cX2_takeHeadOf 42 = .ok (.iaload, 1) := by decide +kernel
theorem dX2_takeHeadOf_43 : decode cX2_takeHeadOf 43 = .ok (.invokestatic 228, 3) := by decide +kernel
theorem dX2_takeHeadOf_46 : decode cX2_takeHeadOf 46 = .ok (.iadd, 1) := by decide +kernel
theorem dX2_takeHeadOf_47 : decode cX2_takeHeadOf 47 = .ok (.putfield 175, 3) := by decide +kernel
theorem dX2_takeHeadOf_50 : decode cX2_takeHeadOf 50 = .ok (.aload_n 0, 1) := by decide +kernel
theorem dX2_takeHeadOf_51 : decode cX2_takeHeadOf 51 = .ok (.dup, 1) := by decide +kernel
theorem dX2_takeHeadOf_52 : decode cX2_takeHeadOf 52 = .ok (.getfield 178, 3) := by decide +kernel
theorem dX2_takeHeadOf_55 : decode cX2_takeHeadOf 55 = .ok (.iconst 1, 1) := by decide +kernel
theorem dX2_takeHeadOf_56 : decode cX2_takeHeadOf 56 = .ok (.iadd, 1) := by decide +kernel
theorem dX2_takeHeadOf_57 : decode cX2_takeHeadOf 57 = .ok (.putfield 178, 3) := by decide +kernel
theorem dX2_takeHeadOf_60 : decode cX2_takeHeadOf 60 = .ok (.aload_n 0, 1) := by decide +kernel
theorem dX2_takeHeadOf_61 : decode cX2_takeHeadOf 61 = .ok (.aload_n 0, 1) := by decide +kernel
theorem dX2_takeHeadOf_62 : decode cX2_takeHeadOf 62 = .ok (.getfield 16, 3) := by decide +kernel
theorem dX2_takeHeadOf_65 : decode cX2_takeHeadOf 65 = .ok (.iload_n 2, 1) := by decide +kernel
theorem dX2_takeHeadOf_66 : decode cX2_takeHeadOf 66 = .ok (.iaload, 1) := by decide +kernel
theorem dX2_takeHeadOf_67 : decode cX2_takeHeadOf 67 = .ok (.putfield 46, 3) := by decide +kernel
theorem dX2_takeHeadOf_70 : decode cX2_takeHeadOf 70 = .ok (.iload_n 2, 1) := by decide +kernel
theorem dX2_takeHeadOf_71 : decode cX2_takeHeadOf 71 = .ok (.ireturn, 1) := by decide +kernel
theorem dX2_changeBetween_0 : decode cX2_changeBetween 0 = .ok (.iload_n 0, 1) := by decide +kernel
theorem dX2_changeBetween_1 : decode cX2_changeBetween 1 = .ok (.iconst (-1), 1) := by decide +kernel
theorem dX2_changeBetween_2 : decode cX2_changeBetween 2 = .ok (.if_icmp .eq 8, 3) := by decide +kernel
theorem dX2_changeBetween_5 : decode cX2_changeBetween 5 = .ok (.iload_n 0, 1) := by decide +kernel
theorem dX2_changeBetween_6 : decode cX2_changeBetween 6 = .ok (.iload_n 1, 1) := by decide +kernel
theorem dX2_changeBetween_7 : decode cX2_changeBetween 7 = .ok (.if_icmp .ne 7, 3) := by decide +kernel
theorem dX2_changeBetween_10 : decode cX2_changeBetween 10 = .ok (.iconst 0, 1) := by decide +kernel
theorem dX2_changeBetween_11 : decode cX2_changeBetween 11 = .ok (.goto 4, 3) := by decide +kernel
theorem dX2_changeBetween_14 : decode cX2_changeBetween 14 = .ok (.iconst 1, 1) := by decide +kernel
theorem dX2_changeBetween_15 : decode cX2_changeBetween 15 = .ok (.ireturn, 1) := by decide +kernel
set_option maxRecDepth 20000 in
theorem ggX2_forgetBodies_X0_clear : GoodIn wsX2_forgetBodies wsX0_clear := goodIn_r _ [12, 13, 31, 32] (by decide +kernel) (by decide +kernel)
set_option maxRecDepth 20000 in
theorem gX2_forgetBodies_X0_clear : GoodIn wsX2_forgetBodies (wsV RX2 231 RX0 yX0_clear wsX0_clear) := goodIn_app (goodIn_of _ (by decide +kernel)) ggX2_forgetBodies_X0_clear
theorem dX2_forgetBodies_0 : decode cX2_forgetBodies 0 = .ok (.iconst 0, 1) := by decide +kernel
theorem dX2_forgetBodies_1 : decode cX2_forgetBodies 1 = .ok (.istore_n 1, 1) := by decide +kernel
theorem dX2_forgetBodies_2 : decode cX2_forgetBodies 2 = .ok (.iload_n 1, 1) := by decide +kernel
theorem dX2_forgetBodies_3 : decode cX2_forgetBodies 3 = .ok (.iconst 5, 1) := by decide +kernel
theorem dX2_forgetBodies_4 : decode cX2_forgetBodies 4 = .ok (.if_icmp .ge 18, 3) := by decide +kernel
theorem dX2_forgetBodies_7 : decode cX2_forgetBodies 7 = .ok (.aload_n 0, 1) := by decide +kernel
theorem dX2_forgetBodies_8 : decode cX2_forgetBodies 8 = .ok (.getfield 11, 3) := by decide +kernel
theorem dX2_forgetBodies_11 : decode cX2_forgetBodies 11 = .ok (.iload_n 1, 1) := by decide +kernel
theorem dX2_forgetBodies_12 : decode cX2_forgetBodies 12 = .ok (.aaload, 1) := by decide +kernel
theorem dX2_forgetBodies_13 : decode cX2_forgetBodies 13 = .ok (.invokevirtual 231, 3) := by decide +kernel
theorem dX2_forgetBodies_16 : decode cX2_forgetBodies 16 = .ok (.iinc 1 1, 3) := by decide +kernel
theorem dX2_forgetBodies_19 : decode cX2_forgetBodies 19 = .ok (.goto (-17), 3) := by decide +kernel
theorem dX2_forgetBodies_22 : decode cX2_forgetBodies 22 = .ok (.aload_n 0, 1) := by decide +kernel
theorem dX2_forgetBodies_23 : decode cX2_forgetBodies 23 = .ok (.iconst 0, 1) := by decide +kernel
theorem dX2_forgetBodies_24 : decode cX2_forgetBodies 24 = .ok (.putfield 60, 3) := by decide +kernel
theorem dX2_forgetBodies_27 : decode cX2_forgetBodies 27 = .ok (.aload_n 0, 1) := by decide +kernel
theorem dX2_forgetBodies_28 : decode cX2_forgetBodies 28 = .ok (.iconst 0, 1) := by decide +kernel
theorem dX2_forgetBodies_29 : decode cX2_forgetBodies 29 = .ok (.putfield 161, 3) := by decide +kernel
theorem dX2_forgetBodies_32 : decode cX2_forgetBodies 32 = .ok (.aload_n 0, 1) := by decide +kernel
theorem dX2_forgetBodies_33 : decode cX2_forgetBodies 33 = .ok (.iconst 0, 1) := by decide +kernel
theorem dX2_forgetBodies_34 : decode cX2_forgetBodies 34 = .ok (.putfield 208, 3) := by decide +kernel
theorem dX2_forgetBodies_37 : decode cX2_forgetBodies 37 = .ok (.aload_n 0, 1) := by decide +kernel
theorem dX2_forgetBodies_38 : decode cX2_forgetBodies 38 = .ok (.iconst (-1), 1) := by decide +kernel
theorem dX2_forgetBodies_39 : decode cX2_forgetBodies 39 = .ok (.putfield 46, 3) := by decide +kernel
theorem dX2_forgetBodies_42 : decode cX2_forgetBodies 42 = .ok (.aload_n 0, 1) := by decide +kernel
theorem dX2_forgetBodies_43 : decode cX2_forgetBodies 43 = .ok (.iconst 0, 1) := by decide +kernel
theorem dX2_forgetBodies_44 : decode cX2_forgetBodies 44 = .ok (.putfield 175, 3) := by decide +kernel
theorem dX2_forgetBodies_47 : decode cX2_forgetBodies 47 = .ok (.aload_n 0, 1) := by decide +kernel
theorem dX2_forgetBodies_48 : decode cX2_forgetBodies 48 = .ok (.iconst 0, 1) := by decide +kernel
theorem dX2_forgetBodies_49 : decode cX2_forgetBodies 49 = .ok (.putfield 178, 3) := by decide +kernel
theorem dX2_forgetBodies_52 : decode cX2_forgetBodies 52 = .ok (.return_, 1) := by decide +kernel
set_option maxRecDepth 20000 in
theorem ggX2_copyLanesIntoPlan_X1_clear : GoodIn wsX2_copyLanesIntoPlan wsX1_clear := goodIn_r _ [8, 9, 54, 55, 56, 57, 58, 59] (by decide +kernel) (by decide +kernel)
set_option maxRecDepth 20000 in
theorem gX2_copyLanesIntoPlan_X1_clear : GoodIn wsX2_copyLanesIntoPlan (wsV RX2 234 RX1 yX1_clear wsX1_clear) := goodIn_app (goodIn_of _ (by decide +kernel)) ggX2_copyLanesIntoPlan_X1_clear
set_option maxRecDepth 20000 in
theorem ggX2_copyLanesIntoPlan_X0_count : GoodIn wsX2_copyLanesIntoPlan wsX0_count := goodIn_r _ [14, 15, 60, 61] (by decide +kernel) (by decide +kernel)
set_option maxRecDepth 20000 in
theorem gX2_copyLanesIntoPlan_X0_count : GoodIn wsX2_copyLanesIntoPlan (wsV RX2 164 RX0 yX0_count wsX0_count) := goodIn_app (goodIn_of _ (by decide +kernel)) ggX2_copyLanesIntoPlan_X0_count
set_option maxRecDepth 20000 in
theorem ggX2_copyLanesIntoPlan_X0_at : GoodIn wsX2_copyLanesIntoPlan wsX0_at := goodIn_r _ [19, 15, 20, 60, 61] (by decide +kernel) (by decide +kernel)
set_option maxRecDepth 20000 in
theorem gX2_copyLanesIntoPlan_X0_at : GoodIn wsX2_copyLanesIntoPlan (wsV RX2 167 RX0 yX0_at wsX0_at) := goodIn_app (goodIn_of _ (by decide +kernel)) ggX2_copyLanesIntoPlan_X0_at
set_option maxRecDepth 20000 in
theorem ggX2_copyLanesIntoPlan_X2_colourOf : GoodIn wsX2_copyLanesIntoPlan wsX2_colourOf := goodIn_r _ [25, 26, 27, 28, 29, 24, 30, 31, 37, 38, 39, 40, 41, 42, 43, 44, 45, 46, 47, 48, 49, 50, 51, 52, 53] (by decide +kernel) (by decide +kernel)
set_option maxRecDepth 20000 in
theorem gX2_copyLanesIntoPlan_X2_colourOf : GoodIn wsX2_copyLanesIntoPlan (wsV RX2 205 RX2 yX2_colourOf wsX2_colourOf) := goodIn_app (goodIn_of _ (by decide +kernel)) ggX2_copyLanesIntoPlan_X2_colourOf
set_option maxRecDepth 20000 in
theorem ggX2_copyLanesIntoPlan_X1_add : GoodIn wsX2_copyLanesIntoPlan wsX1_add := goodIn_r _ [35, 9, 36, 54, 55, 56, 57, 58, 59] (by decide +kernel) (by decide +kernel)
set_option maxRecDepth 20000 in
theorem gX2_copyLanesIntoPlan_X1_add : GoodIn wsX2_copyLanesIntoPlan (wsV RX2 235 RX1 yX1_add wsX1_add) := goodIn_app (goodIn_of _ (by decide +kernel)) ggX2_copyLanesIntoPlan_X1_add
theorem dX2_copyLanesIntoPlan_0 : decode cX2_copyLanesIntoPlan 0 = .ok (.aload_n 0, 1) := by decide +kernel
theorem dX2_copyLanesIntoPlan_1 : decode cX2_copyLanesIntoPlan 1 = .ok (.getfield 32, 3) := by decide +kernel
theorem dX2_copyLanesIntoPlan_4 : decode cX2_copyLanesIntoPlan 4 = .ok (.invokevirtual 234, 3) := by decide +kernel
theorem dX2_copyLanesIntoPlan_7 : decode cX2_copyLanesIntoPlan 7 = .ok (.iconst 0, 1) := by decide +kernel
theorem dX2_copyLanesIntoPlan_8 : decode cX2_copyLanesIntoPlan 8 = .ok (.istore_n 1, 1) := by decide +kernel
theorem dX2_copyLanesIntoPlan_9 : decode cX2_copyLanesIntoPlan 9 = .ok (.iload_n 1, 1) := by decide +kernel
theorem dX2_copyLanesIntoPlan_10 : decode cX2_copyLanesIntoPlan 10 = .ok (.aload_n 0, 1) := by decide +kernel
theorem dX2_copyLanesIntoPlan_11 : decode cX2_copyLanesIntoPlan 11 = .ok (.getfield 36, 3) := by decide +kernel
theorem dX2_copyLanesIntoPlan_14 : decode cX2_copyLanesIntoPlan 14 = .ok (.if_icmp .ge 52, 3) := by decide +kernel
theorem dX2_copyLanesIntoPlan_17 : decode cX2_copyLanesIntoPlan 17 = .ok (.iconst 0, 1) := by decide +kernel
theorem dX2_copyLanesIntoPlan_18 : decode cX2_copyLanesIntoPlan 18 = .ok (.istore_n 2, 1) := by decide +kernel
theorem dX2_copyLanesIntoPlan_19 : decode cX2_copyLanesIntoPlan 19 = .ok (.iload_n 2, 1) := by decide +kernel
theorem dX2_copyLanesIntoPlan_20 : decode cX2_copyLanesIntoPlan 20 = .ok (.aload_n 0, 1) := by decide +kernel
theorem dX2_copyLanesIntoPlan_21 : decode cX2_copyLanesIntoPlan 21 = .ok (.getfield 11, 3) := by decide +kernel
theorem dX2_copyLanesIntoPlan_24 : decode cX2_copyLanesIntoPlan 24 = .ok (.iload_n 1, 1) := by decide +kernel
theorem dX2_copyLanesIntoPlan_25 : decode cX2_copyLanesIntoPlan 25 = .ok (.aaload, 1) := by decide +kernel
theorem dX2_copyLanesIntoPlan_26 : decode cX2_copyLanesIntoPlan 26 = .ok (.invokevirtual 164, 3) := by decide +kernel
theorem dX2_copyLanesIntoPlan_29 : decode cX2_copyLanesIntoPlan 29 = .ok (.if_icmp .ge 31, 3) := by decide +kernel
theorem dX2_copyLanesIntoPlan_32 : decode cX2_copyLanesIntoPlan 32 = .ok (.aload_n 0, 1) := by decide +kernel
theorem dX2_copyLanesIntoPlan_33 : decode cX2_copyLanesIntoPlan 33 = .ok (.getfield 32, 3) := by decide +kernel
theorem dX2_copyLanesIntoPlan_36 : decode cX2_copyLanesIntoPlan 36 = .ok (.iload_n 1, 1) := by decide +kernel
theorem dX2_copyLanesIntoPlan_37 : decode cX2_copyLanesIntoPlan 37 = .ok (.aload_n 0, 1) := by decide +kernel
theorem dX2_copyLanesIntoPlan_38 : decode cX2_copyLanesIntoPlan 38 = .ok (.aload_n 0, 1) := by decide +kernel
theorem dX2_copyLanesIntoPlan_39 : decode cX2_copyLanesIntoPlan 39 = .ok (.getfield 11, 3) := by decide +kernel
theorem dX2_copyLanesIntoPlan_42 : decode cX2_copyLanesIntoPlan 42 = .ok (.iload_n 1, 1) := by decide +kernel
theorem dX2_copyLanesIntoPlan_43 : decode cX2_copyLanesIntoPlan 43 = .ok (.aaload, 1) := by decide +kernel
theorem dX2_copyLanesIntoPlan_44 : decode cX2_copyLanesIntoPlan 44 = .ok (.iload_n 2, 1) := by decide +kernel
theorem dX2_copyLanesIntoPlan_45 : decode cX2_copyLanesIntoPlan 45 = .ok (.invokevirtual 167, 3) := by decide +kernel
theorem dX2_copyLanesIntoPlan_48 : decode cX2_copyLanesIntoPlan 48 = .ok (.invokevirtual 205, 3) := by decide +kernel
theorem dX2_copyLanesIntoPlan_51 : decode cX2_copyLanesIntoPlan 51 = .ok (.invokevirtual 235, 3) := by decide +kernel
theorem dX2_copyLanesIntoPlan_54 : decode cX2_copyLanesIntoPlan 54 = .ok (.iinc 2 1, 3) := by decide +kernel
theorem dX2_copyLanesIntoPlan_57 : decode cX2_copyLanesIntoPlan 57 = .ok (.goto (-38), 3) := by decide +kernel
theorem dX2_copyLanesIntoPlan_60 : decode cX2_copyLanesIntoPlan 60 = .ok (.iinc 1 1, 3) := by decide +kernel
theorem dX2_copyLanesIntoPlan_63 : decode cX2_copyLanesIntoPlan 63 = .ok (.goto (-54), 3) := by decide +kernel
theorem dX2_copyLanesIntoPlan_66 : decode cX2_copyLanesIntoPlan 66 = .ok (.return_, 1) := by decide +kernel
