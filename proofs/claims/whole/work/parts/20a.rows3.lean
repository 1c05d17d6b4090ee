set_option maxRecDepth 20000 in
theorem ggX3_init_X3_lay : GoodIn wsX3_init wsX3_lay := goodIn_r _ [16, 17, 18, 19, 6, 20, 21, 22, 23, 24, 25, 26, 27, 28, 29, 30, 31, 32, 33, 34, 35, 36, 37, 38, 39, 40, 41, 42, 43, 44] (by decide +kernel) (by decide +kernel)
set_option maxRecDepth 20000 in
theorem gX3_init_X3_lay : GoodIn wsX3_init (wsV RX3 31 RX3 yX3_lay wsX3_lay) := goodIn_app (goodIn_of _ (by decide +kernel)) ggX3_init_X3_lay
theorem dX3_init_0 : decode cX3_init 0 = .ok (.aload_n 0, 1) := by decide +kernel
theorem dX3_init_1 : decode cX3_init 1 = .ok (.invokespecial 1, 3) := by decide +kernel
theorem dX3_init_4 : decode cX3_init 4 = .ok (.aload_n 0, 1) := by decide +kernel
theorem dX3_init_5 : decode cX3_init 5 = .ok (.bipush 30, 2) := by decide +kernel
theorem dX3_init_7 : decode cX3_init 7 = .ok (.newarray .int, 2) := by decide +kernel
theorem dX3_init_9 : decode cX3_init 9 = .ok (.putfield 7, 3) := by decide +kernel
theorem dX3_init_12 : decode cX3_init 12 = .ok (.aload_n 0, 1) := by decide +kernel
theorem dX3_init_13 : decode cX3_init 13 = .ok (.iconst 5, 1) := by decide +kernel
theorem dX3_init_14 : decode cX3_init 14 = .ok (.newarray .int, 2) := by decide +kernel
theorem dX3_init_16 : decode cX3_init 16 = .ok (.putfield 13, 3) := by decide +kernel
theorem dX3_init_19 : decode cX3_init 19 = .ok (.aload_n 0, 1) := by decide +kernel
theorem dX3_init_20 : decode cX3_init 20 = .ok (.bipush 99, 2) := by decide +kernel
theorem dX3_init_22 : decode cX3_init 22 = .ok (.newarray .int, 2) := by decide +kernel
theorem dX3_init_24 : decode cX3_init 24 = .ok (.putfield 16, 3) := by decide +kernel
theorem dX3_init_27 : decode cX3_init 27 = .ok (.aload_n 0, 1) := by decide +kernel
theorem dX3_init_28 : decode cX3_init 28 = .ok (.bipush 99, 2) := by decide +kernel
theorem dX3_init_30 : decode cX3_init 30 = .ok (.newarray .int, 2) := by decide +kernel
theorem dX3_init_32 : decode cX3_init 32 = .ok (.putfield 19, 3) := by decide +kernel
theorem dX3_init_35 : decode cX3_init 35 = .ok (.aload_n 0, 1) := by decide +kernel
theorem dX3_init_36 : decode cX3_init 36 = .ok (.bipush 99, 2) := by decide +kernel
theorem dX3_init_38 : decode cX3_init 38 = .ok (.newarray .int, 2) := by decide +kernel
theorem dX3_init_40 : decode cX3_init 40 = .ok (.putfield 22, 3) := by decide +kernel
theorem dX3_init_43 : decode cX3_init 43 = .ok (.aload_n 0, 1) := by decide +kernel
theorem dX3_init_44 : decode cX3_init 44 = .ok (.bipush 6, 2) := by decide +kernel
theorem dX3_init_46 : decode cX3_init 46 = .ok (.newarray .int, 2) := by decide +kernel
theorem dX3_init_48 : decode cX3_init 48 = .ok (.putfield 25, 3) := by decide +kernel
theorem dX3_init_51 : decode cX3_init 51 = .ok (.aload_n 0, 1) := by decide +kernel
theorem dX3_init_52 : decode cX3_init 52 = .ok (.sipush 3000, 3) := by decide +kernel
theorem dX3_init_55 : decode cX3_init 55 = .ok (.newarray .int, 2) := by decide +kernel
theorem dX3_init_57 : decode cX3_init 57 = .ok (.putfield 28, 3) := by decide +kernel
theorem dX3_init_60 : decode cX3_init 60 = .ok (.aload_n 0, 1) := by decide +kernel
theorem dX3_init_61 : decode cX3_init 61 = .ok (.iconst 3, 1) := by decide +kernel
theorem dX3_init_62 : decode cX3_init 62 = .ok (.iconst 4, 1) := by decide +kernel
theorem dX3_init_63 : decode cX3_init 63 = .ok (.iconst 3, 1) := by decide +kernel
theorem dX3_init_64 : decode cX3_init 64 = .ok (.invokevirtual 31, 3) := by decide +kernel
theorem dX3_init_67 : decode cX3_init 67 = .ok (.return_, 1) := by decide +kernel
theorem dX3_thrown_0 : decode cX3_thrown 0 = .ok (.aload_n 0, 1) := by decide +kernel
theorem dX3_thrown_1 : decode cX3_thrown 1 = .ok (.getfield 35, 3) := by decide +kernel
theorem dX3_thrown_4 : decode cX3_thrown 4 = .ok (.ireturn, 1) := by decide +kernel
theorem dX3_fails_0 : decode cX3_fails 0 = .ok (.aload_n 0, 1) := by decide +kernel
theorem dX3_fails_1 : decode cX3_fails 1 = .ok (.iload_n 1, 1) := by decide +kernel
theorem dX3_fails_2 : decode cX3_fails 2 = .ok (.putfield 35, 3) := by decide +kernel
theorem dX3_fails_5 : decode cX3_fails 5 = .ok (.iconst 0, 1) := by decide +kernel
theorem dX3_fails_6 : decode cX3_fails 6 = .ok (.ireturn, 1) := by decide +kernel
theorem dX3_in_0 : decode cX3_in 0 = .ok (.iload_n 0, 1) := by decide +kernel
theorem dX3_in_1 : decode cX3_in 1 = .ok (.iload_n 1, 1) := by decide +kernel
theorem dX3_in_2 : decode cX3_in 2 = .ok (.if_icmp .lt 12, 3) := by decide +kernel
theorem dX3_in_5 : decode cX3_in 5 = .ok (.iload_n 0, 1) := by decide +kernel
theorem dX3_in_6 : decode cX3_in 6 = .ok (.iload_n 2, 1) := by decide +kernel
theorem dX3_in_7 : decode cX3_in 7 = .ok (.if_icmp .gt 7, 3) := by decide +kernel
theorem dX3_in_10 : decode cX3_in 10 = .ok (.iconst 1, 1) := by decide +kernel
theorem dX3_in_11 : decode cX3_in 11 = .ok (.goto 4, 3) := by decide +kernel
theorem dX3_in_14 : decode cX3_in 14 = .ok (.iconst 0, 1) := by decide +kernel
theorem dX3_in_15 : decode cX3_in 15 = .ok (.ireturn, 1) := by decide +kernel
theorem dX3_lay_0 : decode cX3_lay 0 = .ok (.aload_n 0, 1) := by decide +kernel
theorem dX3_lay_1 : decode cX3_lay 1 = .ok (.iload_n 1, 1) := by decide +kernel
theorem dX3_lay_2 : decode cX3_lay 2 = .ok (.putfield 39, 3) := by decide +kernel
theorem dX3_lay_5 : decode cX3_lay 5 = .ok (.aload_n 0, 1) := by decide +kernel
theorem dX3_lay_6 : decode cX3_lay 6 = .ok (.iload_n 2, 1) := by decide +kernel
theorem dX3_lay_7 : decode cX3_lay 7 = .ok (.putfield 42, 3) := by decide +kernel
theorem dX3_lay_10 : decode cX3_lay 10 = .ok (.aload_n 0, 1) := by decide +kernel
theorem dX3_lay_11 : decode cX3_lay 11 = .ok (.iload_n 3, 1) := by decide +kernel
theorem dX3_lay_12 : decode cX3_lay 12 = .ok (.putfield 45, 3) := by decide +kernel
theorem dX3_lay_15 : decode cX3_lay 15 = .ok (.iconst 0, 1) := by decide +kernel
theorem dX3_lay_16 : decode cX3_lay 16 = .ok (.istore 4, 2) := by decide +kernel
theorem dX3_lay_18 : decode cX3_lay 18 = .ok (.iload 4, 2) := by decide +kernel
theorem dX3_lay_20 : decode cX3_lay 20 = .ok (.iconst 5, 1) := by decide +kernel
theorem dX3_lay_21 : decode cX3_lay 21 = .ok (.if_icmp .ge 17, 3) := by decide +kernel
theorem dX3_lay_24 : decode cX3_lay 24 = .ok (.aload_n 0, 1) := by decide +kernel
theorem dX3_lay_25 : decode cX3_lay 25 = .ok (.getfield 13, 3) := by decide +kernel
theorem dX3_lay_28 : decode cX3_lay 28 = .ok (.iload 4, 2) := by decide +kernel
theorem dX3_lay_30 : decode cX3_lay 30 = .ok (.iconst 0, 1) := by decide +kernel
theorem dX3_lay_31 : decode cX3_lay 31 = .ok (.iastore, 1) := by decide +kernel
theorem dX3_lay_32 : decode cX3_lay 32 = .ok (.iinc 4 1, 3) := by decide +kernel
theorem dX3_lay_35 : decode cX3_lay 35 = .ok (.goto (-17), 3) := by decide +kernel
theorem dX3_lay_38 : decode cX3_lay 38 = .ok (.aload_n 0, 1) := by decide +kernel
theorem dX3_lay_39 : decode cX3_lay 39 = .ok (.iconst 0, 1) := by decide +kernel
theorem dX3_lay_40 : decode cX3_lay 40 = .ok (.putfield 48, 3) := by decide +kernel
theorem dX3_lay_43 : decode cX3_lay 43 = .ok (.aload_n 0, 1) := by decide +kernel
theorem dX3_lay_44 : decode cX3_lay 44 = .ok (.iconst 0, 1) := by decide +kernel
theorem dX3_lay_45 : decode cX3_lay 45 = .ok (.putfield 51, 3) := by decide +kernel
theorem dX3_lay_48 : decode cX3_lay 48 = .ok (.aload_n 0, 1) := by decide +kernel
theorem dX3_lay_49 : decode cX3_lay 49 = .ok (.iconst 0, 1) := by decide +kernel
theorem dX3_lay_50 : decode cX3_lay 50 = .ok (.putfield 54, 3) := by decide +kernel
theorem dX3_lay_53 : decode cX3_lay 53 = .ok (.aload_n 0, 1) := by decide +kernel
theorem dX3_lay_54 : decode cX3_lay 54 = .ok (.iconst 0, 1) := by decide +kernel
theorem dX3_lay_55 : decode cX3_lay 55 = .ok (.putfield 57, 3) := by decide +kernel
theorem dX3_lay_58 : decode cX3_lay 58 = .ok (.aload_n 0, 1) := by decide +kernel
theorem dX3_lay_59 : decode cX3_lay 59 = .ok (.iconst (-1), 1) := by decide +kernel
theorem dX3_lay_60 : decode cX3_lay 60 = .ok (.putfield 60, 3) := by decide +kernel
theorem dX3_lay_63 : decode cX3_lay 63 = .ok (.aload_n 0, 1) := by decide +kernel
theorem dX3_lay_64 : decode cX3_lay 64 = .ok (.iconst (-1), 1) := by decide +kernel
theorem dX3_lay_65 : decode cX3_lay 65 = .ok (.putfield 63, 3) := by decide +kernel
theorem dX3_lay_68 : decode cX3_lay 68 = .ok (.return_, 1) := by decide +kernel
set_option maxRecDepth 20000 in
theorem ggX3_begin_X3_in : GoodIn wsX3_begin wsX3_in := goodIn_r _ [6] (by decide +kernel) (by decide +kernel)
set_option maxRecDepth 20000 in
theorem gX3_begin_X3_in : GoodIn wsX3_begin (va_wsS RX3 66 yX3_in wsX3_in) := goodIn_app (goodIn_of _ (by decide +kernel)) ggX3_begin_X3_in
set_option maxRecDepth 20000 in
theorem ggX3_begin_X3_fails : GoodIn wsX3_begin wsX3_fails := goodIn_r _ [10, 1, 24, 25, 26, 27, 28, 29, 30, 31, 32, 33, 34, 35, 36, 37, 38, 39, 40, 41, 42] (by decide +kernel) (by decide +kernel)
set_option maxRecDepth 20000 in
theorem gX3_begin_X3_fails : GoodIn wsX3_begin (wsV RX3 70 RX3 yX3_fails wsX3_fails) := goodIn_app (goodIn_of _ (by decide +kernel)) ggX3_begin_X3_fails
set_option maxRecDepth 20000 in
theorem ggX3_begin_X3_lay : GoodIn wsX3_begin wsX3_lay := goodIn_r _ [14, 15, 16, 17, 18, 2, 19, 20, 21, 22, 23, 24, 25, 26, 27, 28, 29, 30, 31, 32, 33, 34, 35, 36, 37, 38, 39, 40, 41, 42] (by decide +kernel) (by decide +kernel)
set_option maxRecDepth 20000 in
theorem gX3_begin_X3_lay : GoodIn wsX3_begin (wsV RX3 31 RX3 yX3_lay wsX3_lay) := goodIn_app (goodIn_of _ (by decide +kernel)) ggX3_begin_X3_lay
theorem dX3_begin_0 : decode cX3_begin 0 = .ok (.aload_n 0, 1) := by decide +kernel
theorem dX3_begin_1 : decode cX3_begin 1 = .ok (.iconst 0, 1) := by decide +kernel
theorem dX3_begin_2 : decode cX3_begin 2 = .ok (.putfield 35, 3) := by decide +kernel
theorem dX3_begin_5 : decode cX3_begin 5 = .ok (.iload_n 1, 1) := by decide +kernel
theorem dX3_begin_6 : decode cX3_begin 6 = .ok (.iconst 1, 1) := by decide +kernel
theorem dX3_begin_7 : decode cX3_begin 7 = .ok (.iconst 5, 1) := by decide +kernel
theorem dX3_begin_8 : decode cX3_begin 8 = .ok (.invokestatic 66, 3) := by decide +kernel
theorem dX3_begin_11 : decode cX3_begin 11 = .ok (.ifCond .eq 23, 3) := by decide +kernel
theorem dX3_begin_14 : decode cX3_begin 14 = .ok (.iload_n 2, 1) := by decide +kernel
theorem dX3_begin_15 : decode cX3_begin 15 = .ok (.iconst 1, 1) := by decide +kernel
theorem dX3_begin_16 : decode cX3_begin 16 = .ok (.bipush 6, 2) := by decide +kernel
theorem dX3_begin_18 : decode cX3_begin 18 = .ok (.invokestatic 66, 3) := by decide +kernel
theorem dX3_begin_21 : decode cX3_begin 21 = .ok (.ifCond .eq 13, 3) := by decide +kernel
theorem dX3_begin_24 : decode cX3_begin 24 = .ok (.iload_n 3, 1) := by decide +kernel
theorem dX3_begin_25 : decode cX3_begin 25 = .ok (.iconst 1, 1) := by decide +kernel
theorem dX3_begin_26 : decode cX3_begin 26 = .ok (.bipush 6, 2) := by decide +kernel
theorem dX3_begin_28 : decode cX3_begin 28 = .ok (.invokestatic 66, 3) := by decide +kernel
theorem dX3_begin_31 : decode cX3_begin 31 = .ok (.ifCond .ne 9, 3) := by decide +kernel
theorem dX3_begin_34 : decode cX3_begin 34 = .ok (.aload_n 0, 1) := by decide +kernel
theorem dX3_begin_35 : decode cX3_begin 35 = .ok (.iconst 1, 1) := by decide +kernel
theorem dX3_begin_36 : decode cX3_begin 36 = .ok (.invokevirtual 70, 3) := by decide +kernel
theorem dX3_begin_39 : decode cX3_begin 39 = .ok (.ireturn, 1) := by decide +kernel
theorem dX3_begin_40 : decode cX3_begin 40 = .ok (.aload_n 0, 1) := by decide +kernel
theorem dX3_begin_41 : decode cX3_begin 41 = .ok (.getfield 48, 3) := by decide +kernel
theorem dX3_begin_44 : decode cX3_begin 44 = .ok (.istore 4, 2) := by decide +kernel
theorem dX3_begin_46 : decode cX3_begin 46 = .ok (.aload_n 0, 1) := by decide +kernel
theorem dX3_begin_47 : decode cX3_begin 47 = .ok (.iload_n 1, 1) := by decide +kernel
theorem dX3_begin_48 : decode cX3_begin 48 = .ok (.iload_n 2, 1) := by decide +kernel
theorem dX3_begin_49 : decode cX3_begin 49 = .ok (.iload_n 3, 1) := by decide +kernel
theorem dX3_begin_50 : decode cX3_begin 50 = .ok (.invokevirtual 31, 3) := by decide +kernel
theorem dX3_begin_53 : decode cX3_begin 53 = .ok (.iload 4, 2) := by decide +kernel
theorem dX3_begin_55 : decode cX3_begin 55 = .ok (.ireturn, 1) := by decide +kernel
set_option maxRecDepth 20000 in
theorem ggX3_setRules_X3_in : GoodIn wsX3_setRules wsX3_in := goodIn_r _ [7] (by decide +kernel) (by decide +kernel)
set_option maxRecDepth 20000 in
theorem gX3_setRules_X3_in : GoodIn wsX3_setRules (va_wsS RX3 66 yX3_in wsX3_in) := goodIn_app (goodIn_of _ (by decide +kernel)) ggX3_setRules_X3_in
set_option maxRecDepth 20000 in
theorem ggX3_setRules_X3_fails : GoodIn wsX3_setRules wsX3_fails := goodIn_r _ [11, 1, 12, 13, 14, 15, 16, 17, 18, 19, 20, 21, 22, 23, 24, 25, 26, 27, 28, 29, 30] (by decide +kernel) (by decide +kernel)
set_option maxRecDepth 20000 in
theorem gX3_setRules_X3_fails : GoodIn wsX3_setRules (wsV RX3 70 RX3 yX3_fails wsX3_fails) := goodIn_app (goodIn_of _ (by decide +kernel)) ggX3_setRules_X3_fails
theorem dX3_setRules_0 : decode cX3_setRules 0 = .ok (.aload_n 0, 1) := by decide +kernel
theorem dX3_setRules_1 : decode cX3_setRules 1 = .ok (.iconst 0, 1) := by decide +kernel
theorem dX3_setRules_2 : decode cX3_setRules 2 = .ok (.putfield 35, 3) := by decide +kernel
theorem dX3_setRules_5 : decode cX3_setRules 5 = .ok (.iload_n 1, 1) := by decide +kernel
theorem dX3_setRules_6 : decode cX3_setRules 6 = .ok (.iconst 0, 1) := by decide +kernel
theorem dX3_setRules_7 : decode cX3_setRules 7 = .ok (.iconst 2, 1) := by decide +kernel
theorem dX3_setRules_8 : decode cX3_setRules 8 = .ok (.invokestatic 66, 3) := by decide +kernel
theorem dX3_setRules_11 : decode cX3_setRules 11 = .ok (.ifCond .eq 12, 3) := by decide +kernel
theorem dX3_setRules_14 : decode cX3_setRules 14 = .ok (.iload_n 2, 1) := by decide +kernel
theorem dX3_setRules_15 : decode cX3_setRules 15 = .ok (.iconst 0, 1) := by decide +kernel
theorem dX3_setRules_16 : decode cX3_setRules 16 = .ok (.iconst 2, 1) := by decide +kernel
theorem dX3_setRules_17 : decode cX3_setRules 17 = .ok (.invokestatic 66, 3) := by decide +kernel
theorem dX3_setRules_20 : decode cX3_setRules 20 = .ok (.ifCond .ne 10, 3) := by decide +kernel
theorem dX3_setRules_23 : decode cX3_setRules 23 = .ok (.aload_n 0, 1) := by decide +kernel
theorem dX3_setRules_24 : decode cX3_setRules 24 = .ok (.iconst 1, 1) := by decide +kernel
theorem dX3_setRules_25 : decode cX3_setRules 25 = .ok (.invokevirtual 70, 3) := by decide +kernel
theorem dX3_setRules_28 : decode cX3_setRules 28 = .ok (.pop, 1) := by decide +kernel
theorem dX3_setRules_29 : decode cX3_setRules 29 = .ok (.return_, 1) := by decide +kernel
theorem dX3_setRules_30 : decode cX3_setRules 30 = .ok (.aload_n 0, 1) := by decide +kernel
theorem dX3_setRules_31 : decode cX3_setRules 31 = .ok (.iload_n 1, 1) := by decide +kernel
theorem dX3_setRules_32 : decode cX3_setRules 32 = .ok (.putfield 74, 3) := by decide +kernel
theorem dX3_setRules_35 : decode cX3_setRules 35 = .ok (.aload_n 0, 1) := by decide +kernel
theorem dX3_setRules_36 : decode cX3_setRules 36 = .ok (.iload_n 2, 1) := by decide +kernel
theorem dX3_setRules_37 : decode cX3_setRules 37 = .ok (.putfield 77, 3) := by decide +kernel
theorem dX3_setRules_40 : decode cX3_setRules 40 = .ok (.return_, 1) := by decide +kernel
theorem dX3_hasRoom_0 : decode cX3_hasRoom 0 = .ok (.aload_n 0, 1) := by decide +kernel
theorem dX3_hasRoom_1 : decode cX3_hasRoom 1 = .ok (.getfield 13, 3) := by decide +kernel
theorem dX3_hasRoom_4 : decode cX3_hasRoom 4 = .ok (.iload_n 1, 1) := by decide +kernel
theorem dX3_hasRoom_5 : decode cX3_hasRoom 5 = .ok (.iaload, 1) := by decide +kernel
theorem dX3_hasRoom_6 : decode cX3_hasRoom 6 = .ok (.aload_n 0, 1) := by decide +kernel
theorem dX3_hasRoom_7 : decode cX3_hasRoom 7 = .ok (.getfield 42, 3) := by decide +kernel
theorem dX3_hasRoom_10 : decode cX3_hasRoom 10 = .ok (.if_icmp .ge 7, 3) := by decide +kernel
theorem dX3_hasRoom_13 : decode cX3_hasRoom 13 = .ok (.iconst 1, 1) := by decide +kernel
theorem dX3_hasRoom_14 : decode cX3_hasRoom 14 = .ok (.goto 4, 3) := by decide +kernel
theorem dX3_hasRoom_17 : decode cX3_hasRoom 17 = .ok (.iconst 0, 1) := by decide +kernel
theorem dX3_hasRoom_18 : decode cX3_hasRoom 18 = .ok (.ireturn, 1) := by decide +kernel
set_option maxRecDepth 20000 in
theorem ggX3_fewestLane_X3_hasRoom : GoodIn wsX3_fewestLane wsX3_hasRoom := goodIn_r _ [7, 2, 8, 9, 10, 11, 12, 13, 14, 15, 16, 17, 18, 19, 20, 21, 22, 23, 24, 25, 26, 27] (by decide +kernel) (by decide +kernel)
set_option maxRecDepth 20000 in
theorem gX3_fewestLane_X3_hasRoom : GoodIn wsX3_fewestLane (wsV RX3 80 RX3 yX3_hasRoom wsX3_hasRoom) := goodIn_app (goodIn_of _ (by decide +kernel)) ggX3_fewestLane_X3_hasRoom
theorem dX3_fewestLane_0 : decode cX3_fewestLane 0 = .ok (.iconst (-1), 1) := by decide +kernel
theorem dX3_fewestLane_1 : decode cX3_fewestLane 1 = .ok (.istore_n 1, 1) := by decide +kernel
theorem dX3_fewestLane_2 : decode cX3_fewestLane 2 = .ok (.iconst 0, 1) := by decide +kernel
theorem dX3_fewestLane_3 : decode cX3_fewestLane 3 = .ok (.istore_n 2, 1) := by decide +kernel
theorem dX3_fewestLane_4 : decode cX3_fewestLane 4 = .ok (.iload_n 2, 1) := by decide +kernel
theorem dX3_fewestLane_5 : decode cX3_fewestLane 5 = .ok (.aload_n 0, 1) := by decide +kernel
theorem dX3_fewestLane_6 : decode cX3_fewestLane 6 = .ok (.getfield 39, 3) := by decide +kernel
theorem dX3_fewestLane_9 : decode cX3_fewestLane 9 = .ok (.if_icmp .ge 39, 3) := by decide +kernel
theorem dX3_fewestLane_12 : decode cX3_fewestLane 12 = .ok (.aload_n 0, 1) := by decide +kernel
theorem dX3_fewestLane_13 : decode cX3_fewestLane 13 = .ok (.iload_n 2, 1) := by decide +kernel
theorem dX3_fewestLane_14 : decode cX3_fewestLane 14 = .ok (.invokevirtual 80, 3) := by decide +kernel
theorem dX3_fewestLane_17 : decode cX3_fewestLane 17 = .ok (.ifCond .eq 25, 3) := by decide +kernel
theorem dX3_fewestLane_20 : decode cX3_fewestLane 20 = .ok (.iload_n 1, 1) := by decide +kernel
theorem dX3_fewestLane_21 : decode cX3_fewestLane 21 = .ok (.iconst (-1), 1) := by decide +kernel
theorem dX3_fewestLane_22 : decode cX3_fewestLane 22 = .ok (.if_icmp .eq 18, 3) := by decide +kernel
theorem dX3_fewestLane_25 : decode cX3_fewestLane 25 = .ok (.aload_n 0, 1) := by decide +kernel
theorem dX3_fewestLane_26 : decode cX3_fewestLane 26 = .ok (.getfield 13, 3) := by decide +kernel
theorem dX3_fewestLane_29 : decode cX3_fewestLane 29 = .ok (.iload_n 2, 1) := by decide +kernel
theorem dX3_fewestLane_30 : decode cX3_fewestLane 30 = .ok (.iaload, 1) := by decide +kernel
theorem dX3_fewestLane_31 : decode cX3_fewestLane 31 = .ok (.aload_n 0, 1) := by decide +kernel
theorem dX3_fewestLane_32 : decode cX3_fewestLane 32 = .ok (.getfield 13, 3) := by decide +kernel
theorem dX3_fewestLane_35 : decode cX3_fewestLane 35 = .ok (.iload_n 1, 1) := by decide +kernel
theorem dX3_fewestLane_36 : decode cX3_fewestLane 36 = .ok (.iaload, 1) := by decide +kernel
theorem dX3_fewestLane_37 : decode cX3_fewestLane 37 = .ok (.if_icmp .ge 5, 3) := by decide +kernel
theorem dX3_fewestLane_40 : decode cX3_fewestLane 40 = .ok (.iload_n 2, 1) := by decide +kernel
theorem dX3_fewestLane_41 : decode cX3_fewestLane 41 = .ok (.istore_n 1, 1) := by decide +kernel
theorem dX3_fewestLane_42 : decode cX3_fewestLane 42 = .ok (.iinc 2 1, 3) := by decide +kernel
theorem dX3_fewestLane_45 : decode cX3_fewestLane 45 = .ok (.goto (-41), 3) := by decide +kernel
theorem dX3_fewestLane_48 : decode cX3_fewestLane 48 = .ok (.iload_n 1, 1) := by decide +kernel
theorem dX3_fewestLane_49 : decode cX3_fewestLane 49 = .ok (.ireturn, 1) := by decide +kernel
set_option maxRecDepth 20000 in
theorem ggX3_laneFor_X3_hasRoom : GoodIn wsX3_laneFor wsX3_hasRoom := goodIn_r _ [11, 3, 12, 17, 18, 19, 20, 21, 22, 23, 24, 25, 26, 27, 28, 29, 30, 31, 32, 33, 34, 35] (by decide +kernel) (by decide +kernel)
set_option maxRecDepth 20000 in
theorem gX3_laneFor_X3_hasRoom : GoodIn wsX3_laneFor (wsV RX3 80 RX3 yX3_hasRoom wsX3_hasRoom) := goodIn_app (goodIn_of _ (by decide +kernel)) ggX3_laneFor_X3_hasRoom
set_option maxRecDepth 20000 in
theorem ggX3_laneFor_X3_fewestLane : GoodIn wsX3_laneFor wsX3_fewestLane := goodIn_r _ [16, 2, 3, 7, 8, 9, 10, 11, 12, 17, 18, 19, 20, 21, 22, 23, 24, 25, 26, 27, 28, 29, 30, 31, 32, 33, 34, 35] (by decide +kernel) (by decide +kernel)
set_option maxRecDepth 20000 in
theorem gX3_laneFor_X3_fewestLane : GoodIn wsX3_laneFor (wsV RX3 84 RX3 yX3_fewestLane wsX3_fewestLane) := goodIn_app (goodIn_of _ (by decide +kernel)) ggX3_laneFor_X3_fewestLane
theorem dX3_laneFor_0 : decode cX3_laneFor 0 = .ok (.aload_n 0, 1) := by decide +kernel
theorem dX3_laneFor_1 : decode cX3_laneFor 1 = .ok (.getfield 74, 3) := by decide +kernel
theorem dX3_laneFor_4 : decode cX3_laneFor 4 = .ok (.iconst 1, 1) := by decide +kernel
theorem dX3_laneFor_5 : decode cX3_laneFor 5 = .ok (.if_icmp .ne 65, 3) := by decide +kernel
theorem dX3_laneFor_8 : decode cX3_laneFor 8 = .ok (.iconst 0, 1) := by decide +kernel
theorem dX3_laneFor_9 : decode cX3_laneFor 9 = .ok (.istore_n 2, 1) := by decide +kernel
theorem dX3_laneFor_10 : decode cX3_laneFor 10 = .ok (.iload_n 2, 1) := by decide +kernel
theorem dX3_laneFor_11 : decode cX3_laneFor 11 = .ok (.aload_n 0, 1) := by decide +kernel
theorem dX3_laneFor_12 : decode cX3_laneFor 12 = .ok (.getfield 39, 3) := by decide +kernel
theorem dX3_laneFor_15 : decode cX3_laneFor 15 = .ok (.if_icmp .ge 55, 3) := by decide +kernel
theorem dX3_laneFor_18 : decode cX3_laneFor 18 = .ok (.aload_n 0, 1) := by decide +kernel
theorem dX3_laneFor_19 : decode cX3_laneFor 19 = .ok (.iload_n 2, 1) := by decide +kernel
theorem dX3_laneFor_20 : decode cX3_laneFor 20 = .ok (.invokevirtual 80, 3) := by decide +kernel
theorem dX3_laneFor_23 : decode cX3_laneFor 23 = .ok (.ifCond .eq 41, 3) := by decide +kernel
theorem dX3_laneFor_26 : decode cX3_laneFor 26 = .ok (.aload_n 0, 1) := by decide +kernel
theorem dX3_laneFor_27 : decode cX3_laneFor 27 = .ok (.getfield 13, 3) := by decide +kernel
theorem dX3_laneFor_30 : decode cX3_laneFor 30 = .ok (.iload_n 2, 1) := by decide +kernel
theorem dX3_laneFor_31 : decode cX3_laneFor 31 = .ok (.iaload, 1) := by decide +kernel
theorem dX3_laneFor_32 : decode cX3_laneFor 32 = .ok (.ifCond .le 32, 3) := by decide +kernel
theorem dX3_laneFor_35 : decode cX3_laneFor 35 = .ok (.aload_n 0, 1) := by decide +kernel
theorem dX3_laneFor_36 : decode cX3_laneFor 36 = .ok (.getfield 16, 3) := by decide +kernel
theorem dX3_laneFor_39 : decode cX3_laneFor 39 = .ok (.aload_n 0, 1) := by decide +kernel
theorem dX3_laneFor_40 : decode cX3_laneFor 40 = .ok (.getfield 7, 3) := by decide +kernel
theorem dX3_laneFor_43 : decode cX3_laneFor 43 = .ok (.bipush 6, 2) := by decide +kernel
theorem dX3_laneFor_45 : decode cX3_laneFor 45 = .ok (.iload_n 2, 1) := by decide +kernel
theorem dX3_laneFor_46 : decode cX3_laneFor 46 = .ok (.imul, 1) := by decide +kernel
theorem dX3_laneFor_47 : decode cX3_laneFor 47 = .ok (.aload_n 0, 1) := by decide +kernel
theorem dX3_laneFor_48 : decode cX3_laneFor 48 = .ok (.getfield 13, 3) := by decide +kernel
theorem dX3_laneFor_51 : decode cX3_laneFor 51 = .ok (.iload_n 2, 1) := by decide +kernel
theorem dX3_laneFor_52 : decode cX3_laneFor 52 = .ok (.iaload, 1) := by decide +kernel
theorem dX3_laneFor_53 : decode cX3_laneFor 53 = .ok (.iadd, 1) := by decide +kernel
theorem dX3_laneFor_54 : decode cX3_laneFor 54 = .ok (.iconst 1, 1) := by decide +kernel
theorem dX3_laneFor_55 : decode cX3_laneFor 55 = .ok (.isub, 1) := by decide +kernel
theorem dX3_laneFor_56 : decode cX3_laneFor 56 = .ok (.iaload, 1) := by decide +kernel
theorem dX3_laneFor_57 : decode cX3_laneFor 57 = .ok (.iaload, 1) := by decide +kernel
theorem dX3_laneFor_58 : decode cX3_laneFor 58 = .ok (.iload_n 1, 1) := by decide +kernel
theorem dX3_laneFor_59 : decode cX3_laneFor 59 = .ok (.if_icmp .ne 5, 3) := by decide +kernel
theorem dX3_laneFor_62 : decode cX3_laneFor 62 = .ok (.iload_n 2, 1) := by decide +kernel
theorem dX3_laneFor_63 : decode cX3_laneFor 63 = .ok (.ireturn, 1) := by decide +kernel
theorem dX3_laneFor_64 : decode cX3_laneFor 64 = .ok (.iinc 2 1, 3) := by decide +kernel
theorem dX3_laneFor_67 : decode cX3_laneFor 67 = .ok (.goto (-57), 3) := by decide +kernel
theorem dX3_laneFor_70 : decode cX3_laneFor 70 = .ok (.aload_n 0, 1) := by decide +kernel
theorem dX3_laneFor_71 : decode cX3_laneFor 71 = .ok (.getfield 74, 3) := by decide +kernel
theorem dX3_laneFor_74 : decode cX3_laneFor 74 = .ok (.iconst 2, 1) := by decide +kernel
theorem dX3_laneFor_75 : decode cX3_laneFor 75 = .ok (.if_icmp .ne 43, 3) := by decide +kernel
theorem dX3_laneFor_78 : decode cX3_laneFor 78 = .ok (.iconst 1, 1) := by decide +kernel
theorem dX3_laneFor_79 : decode cX3_laneFor 79 = .ok (.istore_n 2, 1) := by decide +kernel
theorem dX3_laneFor_80 : decode cX3_laneFor 80 = .ok (.iload_n 2, 1) := by decide +kernel
theorem dX3_laneFor_81 : decode cX3_laneFor 81 = .ok (.aload_n 0, 1) := by decide +kernel
theorem dX3_laneFor_82 : decode cX3_laneFor 82 = .ok (.getfield 39, 3) := by decide +kernel
theorem dX3_laneFor_85 : decode cX3_laneFor 85 = .ok (.if_icmp .gt 31, 3) := by decide +kernel
theorem dX3_laneFor_88 : decode cX3_laneFor 88 = .ok (.aload_n 0, 1) := by decide +kernel
theorem dX3_laneFor_89 : decode cX3_laneFor 89 = .ok (.getfield 63, 3) := by decide +kernel
theorem dX3_laneFor_92 : decode cX3_laneFor 92 = .ok (.iload_n 2, 1) := by decide +kernel
theorem dX3_laneFor_93 : decode cX3_laneFor 93 = .ok (.iadd, 1) := by decide +kernel
theorem dX3_laneFor_94 : decode cX3_laneFor 94 = .ok (.aload_n 0, 1) := by decide +kernel
theorem dX3_laneFor_95 : decode cX3_laneFor 95 = .ok (.getfield 39, 3) := by decide +kernel
theorem dX3_laneFor_98 : decode cX3_laneFor 98 = .ok (.irem, 1) := by decide +kernel
theorem dX3_laneFor_99 : decode cX3_laneFor 99 = .ok (.istore_n 3, 1) := by decide +kernel
theorem dX3_laneFor_100 : decode cX3_laneFor 100 = .ok (.aload_n 0, 1) := by decide +kernel
theorem dX3_laneFor_101 : decode cX3_laneFor 101 = .ok (.iload_n 3, 1) := by decide +kernel
theorem dX3_laneFor_102 : decode cX3_laneFor 102 = .ok (.invokevirtual 80, 3) := by decide +kernel
theorem dX3_laneFor_105 : decode cX3_laneFor 105 = .ok (.ifCond .eq 5, 3) := by decide +kernel
theorem dX3_laneFor_108 : decode cX3_laneFor 108 = .ok (.iload_n 3, 1) := by decide +kernel
theorem dX3_laneFor_109 : decode cX3_laneFor 109 = .ok (.ireturn, 1) := by decide +kernel
theorem dX3_laneFor_110 : decode cX3_laneFor 110 = .ok (.iinc 2 1, 3) := by decide +kernel
theorem dX3_laneFor_113 : decode cX3_laneFor 113 = .ok (.goto (-33), 3) := by decide +kernel
theorem dX3_laneFor_116 : decode cX3_laneFor 116 = .ok (.iconst (-1), 1) := by decide +kernel
theorem dX3_laneFor_117 : decode cX3_laneFor 117 = .ok (.ireturn, 1) := by decide +kernel
theorem dX3_laneFor_118 : decode cX3_laneFor 118 = .ok (.aload_n 0, 1) := by decide +kernel
theorem dX3_laneFor_119 : decode cX3_laneFor 119 = .ok (.invokevirtual 84, 3) := by decide +kernel
theorem dX3_laneFor_122 : decode cX3_laneFor 122 = .ok (.ireturn, 1) := by decide +kernel
theorem dX3_put_0 : decode cX3_put 0 = .ok (.aload_n 0, 1) := by decide +kernel
theorem dX3_put_1 : decode cX3_put 1 = .ok (.getfield 7, 3) := by decide +kernel
theorem dX3_put_4 : decode cX3_put 4 = .ok (.bipush 6, 2) := by decide +kernel
theorem dX3_put_6 : decode cX3_put 6 = .ok (.iload_n 2, 1) := by decide +kernel
theorem dX3_put_7 : decode cX3_put 7 = .ok (.imul, 1) := by decide +kernel
theorem dX3_put_8 : decode cX3_put 8 = .ok (.aload_n 0, 1) := by decide +kernel
theorem dX3_put_9 : decode cX3_put 9 = .ok (.getfield 13, 3) := by decide +kernel
theorem dX3_put_12 : decode cX3_put 12 = .ok (.iload_n 2, 1) := by decide +kernel
theorem dX3_put_13 : decode cX3_put 13 = .ok (.iaload, 1) := by decide +kernel
theorem dX3_put_14 : decode cX3_put 14 = .ok (.iadd, 1) := by decide +kernel
theorem dX3_put_15 : decode cX3_put 15 = .ok (.iload_n 1, 1) := by decide +kernel
theorem dX3_put_16 : decode cX3_put 16 = .ok (.iastore, 1) := by decide +kernel
theorem dX3_put_17 : decode cX3_put 17 = .ok (.aload_n 0, 1) := by decide +kernel
theorem dX3_put_18 : decode cX3_put 18 = .ok (.getfield 13, 3) := by decide +kernel
theorem dX3_put_21 : decode cX3_put 21 = .ok (.iload_n 2, 1) := by decide +kernel
theorem dX3_put_22 : decode cX3_put 22 = .ok (.dup2, 1) := by decide +kernel
theorem dX3_put_23 : decode cX3_put 23 = .ok (.iaload, 1) := by decide +kernel
theorem dX3_put_24 : decode cX3_put 24 = .ok (.iconst 1, 1) := by decide +kernel
theorem dX3_put_25 : decode cX3_put 25 = .ok (.iadd, 1) := by decide +kernel
theorem dX3_put_26 : decode cX3_put 26 = .ok (.iastore, 1) := by decide +kernel
theorem dX3_put_27 : decode cX3_put 27 = .ok (.aload_n 0, 1) := by decide +kernel
theorem dX3_put_28 : decode cX3_put 28 = .ok (.getfield 19, 3) := by decide +kernel
theorem dX3_put_31 : decode cX3_put 31 = .ok (.iload_n 1, 1) := by decide +kernel
theorem dX3_put_32 : decode cX3_put 32 = .ok (.iload_n 2, 1) := by decide +kernel
theorem dX3_put_33 : decode cX3_put 33 = .ok (.iastore, 1) := by decide +kernel
theorem dX3_put_34 : decode cX3_put 34 = .ok (.aload_n 0, 1) := by decide +kernel
theorem dX3_put_35 : decode cX3_put 35 = .ok (.iload_n 2, 1) := by decide +kernel
theorem dX3_put_36 : decode cX3_put 36 = .ok (.putfield 63, 3) := by decide +kernel
theorem dX3_put_39 : decode cX3_put 39 = .ok (.return_, 1) := by decide +kernel
set_option maxRecDepth 20000 in
theorem ggX3_come_X3_put : GoodIn wsX3_come wsX3_put := goodIn_r _ [7, 8, 9, 10, 11, 12, 13, 14, 15, 16, 17, 18, 19, 20, 21, 22, 23, 24, 25, 26, 27, 28, 29, 30] (by decide +kernel) (by decide +kernel)
set_option maxRecDepth 20000 in
theorem gX3_come_X3_put : GoodIn wsX3_come (wsV RX3 88 RX3 yX3_put wsX3_put) := goodIn_app (goodIn_of _ (by decide +kernel)) ggX3_come_X3_put
theorem dX3_come_0 : decode cX3_come 0 = .ok (.aload_n 0, 1) := by decide +kernel
theorem dX3_come_1 : decode cX3_come 1 = .ok (.getfield 16, 3) := by decide +kernel
theorem dX3_come_4 : decode cX3_come 4 = .ok (.aload_n 0, 1) := by decide +kernel
theorem dX3_come_5 : decode cX3_come 5 = .ok (.getfield 48, 3) := by decide +kernel
theorem dX3_come_8 : decode cX3_come 8 = .ok (.iload_n 1, 1) := by decide +kernel
theorem dX3_come_9 : decode cX3_come 9 = .ok (.iastore, 1) := by decide +kernel
theorem dX3_come_10 : decode cX3_come 10 = .ok (.aload_n 0, 1) := by decide +kernel
theorem dX3_come_11 : decode cX3_come 11 = .ok (.aload_n 0, 1) := by decide +kernel
theorem dX3_come_12 : decode cX3_come 12 = .ok (.getfield 48, 3) := by decide +kernel
theorem dX3_come_15 : decode cX3_come 15 = .ok (.iload_n 2, 1) := by decide +kernel
theorem dX3_come_16 : decode cX3_come 16 = .ok (.invokevirtual 88, 3) := by decide +kernel
theorem dX3_come_19 : decode cX3_come 19 = .ok (.aload_n 0, 1) := by decide +kernel
theorem dX3_come_20 : decode cX3_come 20 = .ok (.dup, 1) := by decide +kernel
theorem dX3_come_21 : decode cX3_come 21 = .ok (.getfield 48, 3) := by decide +kernel
theorem dX3_come_24 : decode cX3_come 24 = .ok (.iconst 1, 1) := by decide +kernel
theorem dX3_come_25 : decode cX3_come 25 = .ok (.iadd, 1) := by decide +kernel
theorem dX3_come_26 : decode cX3_come 26 = .ok (.putfield 48, 3) := by decide +kernel
theorem dX3_come_29 : decode cX3_come 29 = .ok (.aload_n 0, 1) := by decide +kernel
theorem dX3_come_30 : decode cX3_come 30 = .ok (.getfield 48, 3) := by decide +kernel
theorem dX3_come_33 : decode cX3_come 33 = .ok (.iconst 1, 1) := by decide +kernel
theorem dX3_come_34 : decode cX3_come 34 = .ok (.isub, 1) := by decide +kernel
theorem dX3_come_35 : decode cX3_come 35 = .ok (.ireturn, 1) := by decide +kernel
set_option maxRecDepth 20000 in
theorem ggX3_arrive_X3_in : GoodIn wsX3_arrive wsX3_in := goodIn_r _ [6] (by decide +kernel) (by decide +kernel)
set_option maxRecDepth 20000 in
theorem gX3_arrive_X3_in : GoodIn wsX3_arrive (va_wsS RX3 66 yX3_in wsX3_in) := goodIn_app (goodIn_of _ (by decide +kernel)) ggX3_arrive_X3_in
set_option maxRecDepth 20000 in
theorem ggX3_arrive_X3_fails : GoodIn wsX3_arrive wsX3_fails := goodIn_r _ [10, 1, 39, 40, 41, 42, 43, 44, 45, 46, 47, 48, 49, 50, 51, 52, 53, 54, 55, 56, 57] (by decide +kernel) (by decide +kernel)
set_option maxRecDepth 20000 in
theorem gX3_arrive_X3_fails : GoodIn wsX3_arrive (wsV RX3 70 RX3 yX3_fails wsX3_fails) := goodIn_app (goodIn_of _ (by decide +kernel)) ggX3_arrive_X3_fails
set_option maxRecDepth 20000 in
theorem ggX3_arrive_X3_laneFor : GoodIn wsX3_arrive wsX3_laneFor := goodIn_r _ [14, 15, 16, 17, 18, 19, 20, 21, 22, 23, 5, 24, 25, 26, 27, 28, 29, 39, 40, 41, 42, 43, 44, 45, 46, 47, 48, 49, 50, 51, 52, 53, 54, 55, 56, 57] (by decide +kernel) (by decide +kernel)
set_option maxRecDepth 20000 in
theorem gX3_arrive_X3_laneFor : GoodIn wsX3_arrive (wsV RX3 92 RX3 yX3_laneFor wsX3_laneFor) := goodIn_app (goodIn_of _ (by decide +kernel)) ggX3_arrive_X3_laneFor
set_option maxRecDepth 20000 in
theorem ggX3_arrive_X3_come : GoodIn wsX3_arrive wsX3_come := goodIn_r _ [33, 18, 2, 34, 35, 36, 5, 37, 19, 17, 38, 20, 39, 40, 41, 42, 43, 44, 45, 46, 47, 48, 49, 50, 51, 52, 53, 54, 55, 56, 57] (by decide +kernel) (by decide +kernel)
set_option maxRecDepth 20000 in
theorem gX3_arrive_X3_come : GoodIn wsX3_arrive (wsV RX3 95 RX3 yX3_come wsX3_come) := goodIn_app (goodIn_of _ (by decide +kernel)) ggX3_arrive_X3_come
theorem dX3_arrive_0 : decode cX3_arrive 0 = .ok (.aload_n 0, 1) := by decide +kernel
theorem dX3_arrive_1 : decode cX3_arrive 1 = .ok (.iconst 0, 1) := by decide +kernel
theorem dX3_arrive_2 : decode cX3_arrive 2 = .ok (.putfield 35, 3) := by decide +kernel
theorem dX3_arrive_5 : decode cX3_arrive 5 = .ok (.iload_n 1, 1) := by decide +kernel
theorem dX3_arrive_6 : decode cX3_arrive 6 = .ok (.iconst 0, 1) := by decide +kernel
theorem dX3_arrive_7 : decode cX3_arrive 7 = .ok (.iconst 4, 1) := by decide +kernel
theorem dX3_arrive_8 : decode cX3_arrive 8 = .ok (.invokestatic 66, 3) := by decide +kernel
theorem dX3_arrive_11 : decode cX3_arrive 11 = .ok (.ifCond .ne 9, 3) := by decide +kernel
theorem dX3_arrive_14 : decode cX3_arrive 14 = .ok (.aload_n 0, 1) := by decide +kernel
theorem dX3_arrive_15 : decode cX3_arrive 15 = .ok (.iconst 1, 1) := by decide +kernel
theorem dX3_arrive_16 : decode cX3_arrive 16 = .ok (.invokevirtual 70, 3) := by decide +kernel
theorem dX3_arrive_19 : decode cX3_arrive 19 = .ok (.ireturn, 1) := by decide +kernel
theorem dX3_arrive_20 : decode cX3_arrive 20 = .ok (.aload_n 0, 1) := by decide +kernel
theorem dX3_arrive_21 : decode cX3_arrive 21 = .ok (.iload_n 1, 1) := by decide +kernel
theorem dX3_arrive_22 : decode cX3_arrive 22 = .ok (.invokevirtual 92, 3) := by decide +kernel
theorem dX3_arrive_25 : decode cX3_arrive 25 = .ok (.istore_n 2, 1) := by decide +kernel
theorem dX3_arrive_26 : decode cX3_arrive 26 = .ok (.iload_n 2, 1) := by decide +kernel
theorem dX3_arrive_27 : decode cX3_arrive 27 = .ok (.iconst (-1), 1) := by decide +kernel
theorem dX3_arrive_28 : decode cX3_arrive 28 = .ok (.if_icmp .eq 12, 3) := by decide +kernel
theorem dX3_arrive_31 : decode cX3_arrive 31 = .ok (.aload_n 0, 1) := by decide +kernel
theorem dX3_arrive_32 : decode cX3_arrive 32 = .ok (.getfield 48, 3) := by decide +kernel
theorem dX3_arrive_35 : decode cX3_arrive 35 = .ok (.bipush 99, 2) := by decide +kernel
theorem dX3_arrive_37 : decode cX3_arrive 37 = .ok (.if_icmp .ne 9, 3) := by decide +kernel
theorem dX3_arrive_40 : decode cX3_arrive 40 = .ok (.aload_n 0, 1) := by decide +kernel
theorem dX3_arrive_41 : decode cX3_arrive 41 = .ok (.iconst 2, 1) := by decide +kernel
theorem dX3_arrive_42 : decode cX3_arrive 42 = .ok (.invokevirtual 70, 3) := by decide +kernel
theorem dX3_arrive_45 : decode cX3_arrive 45 = .ok (.ireturn, 1) := by decide +kernel
theorem dX3_arrive_46 : decode cX3_arrive 46 = .ok (.aload_n 0, 1) := by decide +kernel
theorem dX3_arrive_47 : decode cX3_arrive 47 = .ok (.iload_n 1, 1) := by decide +kernel
theorem dX3_arrive_48 : decode cX3_arrive 48 = .ok (.iload_n 2, 1) := by decide +kernel
theorem dX3_arrive_49 : decode cX3_arrive 49 = .ok (.invokevirtual 95, 3) := by decide +kernel
theorem dX3_arrive_52 : decode cX3_arrive 52 = .ok (.pop, 1) := by decide +kernel
theorem dX3_arrive_53 : decode cX3_arrive 53 = .ok (.iload_n 2, 1) := by decide +kernel
theorem dX3_arrive_54 : decode cX3_arrive 54 = .ok (.ireturn, 1) := by decide +kernel
set_option maxRecDepth 20000 in
theorem ggX3_arriveIn_X3_in : GoodIn wsX3_arriveIn wsX3_in := goodIn_r _ [7] (by decide +kernel) (by decide +kernel)
set_option maxRecDepth 20000 in
theorem gX3_arriveIn_X3_in : GoodIn wsX3_arriveIn (va_wsS RX3 66 yX3_in wsX3_in) := goodIn_app (goodIn_of _ (by decide +kernel)) ggX3_arriveIn_X3_in
set_option maxRecDepth 20000 in
theorem ggX3_arriveIn_X3_fails : GoodIn wsX3_arriveIn wsX3_fails := goodIn_r _ [11, 1, 30, 31, 32, 33, 34, 35, 36, 37, 38, 39, 40, 41, 42, 43, 44, 45, 46, 47, 48] (by decide +kernel) (by decide +kernel)
set_option maxRecDepth 20000 in
theorem gX3_arriveIn_X3_fails : GoodIn wsX3_arriveIn (wsV RX3 70 RX3 yX3_fails wsX3_fails) := goodIn_app (goodIn_of _ (by decide +kernel)) ggX3_arriveIn_X3_fails
set_option maxRecDepth 20000 in
theorem ggX3_arriveIn_X3_hasRoom : GoodIn wsX3_arriveIn wsX3_hasRoom := goodIn_r _ [15, 16, 17, 30, 31, 32, 33, 34, 35, 36, 37, 38, 39, 40, 41, 42, 43, 44, 45, 46, 47, 48] (by decide +kernel) (by decide +kernel)
set_option maxRecDepth 20000 in
theorem gX3_arriveIn_X3_hasRoom : GoodIn wsX3_arriveIn (wsV RX3 80 RX3 yX3_hasRoom wsX3_hasRoom) := goodIn_app (goodIn_of _ (by decide +kernel)) ggX3_arriveIn_X3_hasRoom
set_option maxRecDepth 20000 in
theorem ggX3_arriveIn_X3_come : GoodIn wsX3_arriveIn wsX3_come := goodIn_r _ [21, 22, 3, 23, 24, 25, 6, 26, 27, 16, 28, 29, 30, 31, 32, 33, 34, 35, 36, 37, 38, 39, 40, 41, 42, 43, 44, 45, 46, 47, 48] (by decide +kernel) (by decide +kernel)
set_option maxRecDepth 20000 in
theorem gX3_arriveIn_X3_come : GoodIn wsX3_arriveIn (wsV RX3 95 RX3 yX3_come wsX3_come) := goodIn_app (goodIn_of _ (by decide +kernel)) ggX3_arriveIn_X3_come
theorem dX3_arriveIn_0 : decode cX3_arriveIn 0 = .ok (.aload_n 0, 1) := by decide +kernel
theorem dX3_arriveIn_1 : decode cX3_arriveIn 1 = .ok (.iconst 0, 1) := by decide +kernel
theorem dX3_arriveIn_2 : decode cX3_arriveIn 2 = .ok (.putfield 35, 3) := by decide +kernel
theorem dX3_arriveIn_5 : decode cX3_arriveIn 5 = .ok (.iload_n 1, 1) := by decide +kernel
theorem dX3_arriveIn_6 : decode cX3_arriveIn 6 = .ok (.iconst 0, 1) := by decide +kernel
theorem dX3_arriveIn_7 : decode cX3_arriveIn 7 = .ok (.iconst 4, 1) := by decide +kernel
theorem dX3_arriveIn_8 : decode cX3_arriveIn 8 = .ok (.invokestatic 66, 3) := by decide +kernel
theorem dX3_arriveIn_11 : decode cX3_arriveIn 11 = .ok (.ifCond .ne 9, 3) := by decide +kernel
theorem dX3_arriveIn_14 : decode cX3_arriveIn 14 = .ok (.aload_n 0, 1) := by decide +kernel
theorem dX3_arriveIn_15 : decode cX3_arriveIn 15 = .ok (.iconst 1, 1) := by decide +kernel
theorem dX3_arriveIn_16 : decode cX3_arriveIn 16 = .ok (.invokevirtual 70, 3) := by decide +kernel
theorem dX3_arriveIn_19 : decode cX3_arriveIn 19 = .ok (.ireturn, 1) := by decide +kernel
theorem dX3_arriveIn_20 : decode cX3_arriveIn 20 = .ok (.iload_n 2, 1) := by decide +kernel
theorem dX3_arriveIn_21 : decode cX3_arriveIn 21 = .ok (.iconst 0, 1) := by decide +kernel
theorem dX3_arriveIn_22 : decode cX3_arriveIn 22 = .ok (.aload_n 0, 1) := by decide +kernel
theorem dX3_arriveIn_23 : decode cX3_arriveIn 23 = .ok (.getfield 39, 3) := by decide +kernel
theorem dX3_arriveIn_26 : decode cX3_arriveIn 26 = .ok (.iconst 1, 1) := by decide +kernel
theorem dX3_arriveIn_27 : decode cX3_arriveIn 27 = .ok (.isub, 1) := by decide +kernel
theorem dX3_arriveIn_28 : decode cX3_arriveIn 28 = .ok (.invokestatic 66, 3) := by decide +kernel
theorem dX3_arriveIn_31 : decode cX3_arriveIn 31 = .ok (.ifCond .ne 9, 3) := by decide +kernel
theorem dX3_arriveIn_34 : decode cX3_arriveIn 34 = .ok (.aload_n 0, 1) := by decide +kernel
theorem dX3_arriveIn_35 : decode cX3_arriveIn 35 = .ok (.iconst 2, 1) := by decide +kernel
theorem dX3_arriveIn_36 : decode cX3_arriveIn 36 = .ok (.invokevirtual 70, 3) := by decide +kernel
theorem dX3_arriveIn_39 : decode cX3_arriveIn 39 = .ok (.ireturn, 1) := by decide +kernel
theorem dX3_arriveIn_40 : decode cX3_arriveIn 40 = .ok (.aload_n 0, 1) := by decide +kernel
theorem dX3_arriveIn_41 : decode cX3_arriveIn 41 = .ok (.iload_n 2, 1) := by decide +kernel
theorem dX3_arriveIn_42 : decode cX3_arriveIn 42 = .ok (.invokevirtual 80, 3) := by decide +kernel
theorem dX3_arriveIn_45 : decode cX3_arriveIn 45 = .ok (.ifCond .eq 12, 3) := by decide +kernel
theorem dX3_arriveIn_48 : decode cX3_arriveIn 48 = .ok (.aload_n 0, 1) := by decide +kernel
theorem dX3_arriveIn_49 : decode cX3_arriveIn 49 = .ok (.getfield 48, 3) := by decide +kernel
theorem dX3_arriveIn_52 : decode cX3_arriveIn 52 = .ok (.bipush 99, 2) := by decide +kernel
theorem dX3_arriveIn_54 : decode cX3_arriveIn 54 = .ok (.if_icmp .ne 9, 3) := by decide +kernel
theorem dX3_arriveIn_57 : decode cX3_arriveIn 57 = .ok (.aload_n 0, 1) := by decide +kernel
theorem dX3_arriveIn_58 : decode cX3_arriveIn 58 = .ok (.iconst 3, 1) := by decide +kernel
theorem dX3_arriveIn_59 : decode cX3_arriveIn 59 = .ok (.invokevirtual 70, 3) := by decide +kernel
theorem dX3_arriveIn_62 : decode cX3_arriveIn 62 = .ok (.ireturn, 1) := by decide +kernel
theorem dX3_arriveIn_63 : decode cX3_arriveIn 63 = .ok (.aload_n 0, 1) := by decide +kernel
theorem dX3_arriveIn_64 : decode cX3_arriveIn 64 = .ok (.iload_n 1, 1) := by decide +kernel
theorem dX3_arriveIn_65 : decode cX3_arriveIn 65 = .ok (.iload_n 2, 1) := by decide +kernel
theorem dX3_arriveIn_66 : decode cX3_arriveIn 66 = .ok (.invokevirtual 95, 3) := by decide +kernel
theorem dX3_arriveIn_69 : decode cX3_arriveIn 69 = .ok (.ireturn, 1) := by decide +kernel
theorem dX3_countIn_0 : decode cX3_countIn 0 = .ok (.iconst 0, 1) := by decide +kernel
theorem dX3_countIn_1 : decode cX3_countIn 1 = .ok (.istore_n 2, 1) := by decide +kernel
theorem dX3_countIn_2 : decode cX3_countIn 2 = .ok (.iconst 0, 1) := by decide +kernel
theorem dX3_countIn_3 : decode cX3_countIn 3 = .ok (.istore_n 3, 1) := by decide +kernel
theorem dX3_countIn_4 : decode cX3_countIn 4 = .ok (.iload_n 3, 1) := by decide +kernel
theorem dX3_countIn_5 : decode cX3_countIn 5 = .ok (.aload_n 0, 1) := by decide +kernel
theorem dX3_countIn_6 : decode cX3_countIn 6 = .ok (.getfield 48, 3) := by decide +kernel
theorem dX3_countIn_9 : decode cX3_countIn 9 = .ok (.if_icmp .ge 27, 3) := by decide +kernel
theorem dX3_countIn_12 : decode cX3_countIn 12 = .ok (.iload_n 2, 1) := by decide +kernel
theorem dX3_countIn_13 : decode cX3_countIn 13 = .ok (.aload_n 0, 1) := by decide +kernel
theorem dX3_countIn_14 : decode cX3_countIn 14 = .ok (.getfield 19, 3) := by decide +kernel
theorem dX3_countIn_17 : decode cX3_countIn 17 = .ok (.iload_n 3, 1) := by decide +kernel
theorem dX3_countIn_18 : decode cX3_countIn 18 = .ok (.iaload, 1) := by decide +kernel
theorem dX3_countIn_19 : decode cX3_countIn 19 = .ok (.iload_n 1, 1) := by decide +kernel
theorem dX3_countIn_20 : decode cX3_countIn 20 = .ok (.if_icmp .ne 7, 3) := by decide +kernel
theorem dX3_countIn_23 : decode cX3_countIn 23 = .ok (.iconst 1, 1) := by decide +kernel
theorem dX3_countIn_24 : decode cX3_countIn 24 = .ok (.goto 4, 3) := by decide +kernel
theorem dX3_countIn_27 : decode cX3_countIn 27 = .ok (.iconst 0, 1) := by decide +kernel
theorem dX3_countIn_28 : decode cX3_countIn 28 = .ok (.iadd, 1) := by decide +kernel
theorem dX3_countIn_29 : decode cX3_countIn 29 = .ok (.istore_n 2, 1) := by decide +kernel
theorem dX3_countIn_30 : decode cX3_countIn 30 = .ok (.iinc 3 1, 3) := by decide +kernel
theorem dX3_countIn_33 : decode cX3_countIn 33 = .ok (.goto (-29), 3) := by decide +kernel
theorem dX3_countIn_36 : decode cX3_countIn 36 = .ok (.iload_n 2, 1) := by decide +kernel
theorem dX3_countIn_37 : decode cX3_countIn 37 = .ok (.ireturn, 1) := by decide +kernel
theorem dX3_head_0 : decode cX3_head 0 = .ok (.aload_n 0, 1) := by decide +kernel
theorem dX3_head_1 : decode cX3_head 1 = .ok (.getfield 13, 3) := by decide +kernel
theorem dX3_head_4 : decode cX3_head 4 = .ok (.iload_n 1, 1) := by decide +kernel
theorem dX3_head_5 : decode cX3_head 5 = .ok (.iaload, 1) := by decide +kernel
theorem dX3_head_6 : decode cX3_head 6 = .ok (.ifCond .ne 7, 3) := by decide +kernel
theorem dX3_head_9 : decode cX3_head 9 = .ok (.iconst (-1), 1) := by decide +kernel
theorem dX3_head_10 : decode cX3_head 10 = .ok (.goto 12, 3) := by decide +kernel
theorem dX3_head_13 : decode cX3_head 13 = .ok (.aload_n 0, 1) := by decide +kernel
theorem dX3_head_14 : decode cX3_head 14 = .ok (.getfield 7, 3) := by decide +kernel
theorem dX3_head_17 : decode cX3_head 17 = .ok (.bipush 6, 2) := by decide +kernel
theorem dX3_head_19 : decode cX3_head 19 = .ok (.iload_n 1, 1) := by decide +kernel
theorem dX3_head_20 : decode cX3_head 20 = .ok (.imul, 1) := by decide +kernel
theorem dX3_head_21 : decode cX3_head 21 = .ok (.iaload, 1) := by decide +kernel
theorem dX3_head_22 : decode cX3_head 22 = .ok (.ireturn, 1) := by decide +kernel
theorem dX3_blockOf_0 : decode cX3_blockOf 0 = .ok (.iconst 0, 1) := by decide +kernel
theorem dX3_blockOf_1 : decode cX3_blockOf 1 = .ok (.istore_n 2, 1) := by decide +kernel
theorem dX3_blockOf_2 : decode cX3_blockOf 2 = .ok (.iload_n 2, 1) := by decide +kernel
theorem dX3_blockOf_3 : decode cX3_blockOf 3 = .ok (.aload_n 0, 1) := by decide +kernel
theorem dX3_blockOf_4 : decode cX3_blockOf 4 = .ok (.getfield 13, 3) := by decide +kernel
theorem dX3_blockOf_7 : decode cX3_blockOf 7 = .ok (.iload_n 1, 1) := by decide +kernel
theorem dX3_blockOf_8 : decode cX3_blockOf 8 = .ok (.iaload, 1) := by decide +kernel
theorem dX3_blockOf_9 : decode cX3_blockOf 9 = .ok (.if_icmp .ge 42, 3) := by decide +kernel
theorem dX3_blockOf_12 : decode cX3_blockOf 12 = .ok (.aload_n 0, 1) := by decide +kernel
theorem dX3_blockOf_13 : decode cX3_blockOf 13 = .ok (.getfield 16, 3) := by decide +kernel
theorem dX3_blockOf_16 : decode cX3_blockOf 16 = .ok (.aload_n 0, 1) := by decide +kernel
theorem dX3_blockOf_17 : decode cX3_blockOf 17 = .ok (.getfield 7, 3) := by decide +kernel
theorem dX3_blockOf_20 : decode cX3_blockOf 20 = .ok (.bipush 6, 2) := by decide +kernel
theorem dX3_blockOf_22 : decode cX3_blockOf 22 = .ok (.iload_n 1, 1) := by decide +kernel
theorem dX3_blockOf_23 : decode cX3_blockOf 23 = .ok (.imul, 1) := by decide +kernel
theorem dX3_blockOf_24 : decode cX3_blockOf 24 = .ok (.iload_n 2, 1) := by decide +kernel
theorem dX3_blockOf_25 : decode cX3_blockOf 25 = .ok (.iadd, 1) := by decide +kernel
theorem dX3_blockOf_26 : decode cX3_blockOf 26 = .ok (.iaload, 1) := by decide +kernel
theorem dX3_blockOf_27 : decode cX3_blockOf 27 = .ok (.iaload, 1) := by decide +kernel
theorem dX3_blockOf_28 : decode cX3_blockOf 28 = .ok (.aload_n 0, 1) := by decide +kernel
theorem dX3_blockOf_29 : decode cX3_blockOf 29 = .ok (.getfield 16, 3) := by decide +kernel
theorem dX3_blockOf_32 : decode cX3_blockOf 32 = .ok (.aload_n 0, 1) := by decide +kernel
theorem dX3_blockOf_33 : decode cX3_blockOf 33 = .ok (.getfield 7, 3) := by decide +kernel
theorem dX3_blockOf_36 : decode cX3_blockOf 36 = .ok (.bipush 6, 2) := by decide +kernel
theorem dX3_blockOf_38 : decode cX3_blockOf 38 = .ok (.iload_n 1, 1) := by decide +kernel
theorem dX3_blockOf_39 : decode cX3_blockOf 39 = .ok (.imul, 1) := by decide +kernel
theorem dX3_blockOf_40 : decode cX3_blockOf 40 = .ok (.iaload, 1) := by decide +kernel
theorem dX3_blockOf_41 : decode cX3_blockOf 41 = .ok (.iaload, 1) := by decide +kernel
theorem dX3_blockOf_42 : decode cX3_blockOf 42 = .ok (.if_icmp .ne 9, 3) := by decide +kernel
theorem dX3_blockOf_45 : decode cX3_blockOf 45 = .ok (.iinc 2 1, 3) := by decide +kernel
theorem dX3_blockOf_48 : decode cX3_blockOf 48 = .ok (.goto (-46), 3) := by decide +kernel
theorem dX3_blockOf_51 : decode cX3_blockOf 51 = .ok (.iload_n 2, 1) := by decide +kernel
theorem dX3_blockOf_52 : decode cX3_blockOf 52 = .ok (.ireturn, 1) := by decide +kernel
theorem dX3_take_0 : decode cX3_take 0 = .ok (.aload_n 0, 1) := by decide +kernel
theorem dX3_take_1 : decode cX3_take 1 = .ok (.getfield 7, 3) := by decide +kernel
theorem dX3_take_4 : decode cX3_take 4 = .ok (.bipush 6, 2) := by decide +kernel
theorem dX3_take_6 : decode cX3_take 6 = .ok (.iload_n 1, 1) := by decide +kernel
theorem dX3_take_7 : decode cX3_take 7 = .ok (.imul, 1) := by decide +kernel
theorem dX3_take_8 : decode cX3_take 8 = .ok (.iaload, 1) := by decide +kernel
theorem dX3_take_9 : decode cX3_take 9 = .ok (.istore_n 2, 1) := by decide +kernel
theorem dX3_take_10 : decode cX3_take 10 = .ok (.aload_n 0, 1) := by decide +kernel
theorem dX3_take_11 : decode cX3_take 11 = .ok (.getfield 13, 3) := by decide +kernel
theorem dX3_take_14 : decode cX3_take 14 = .ok (.iload_n 1, 1) := by decide +kernel
theorem dX3_take_15 : decode cX3_take 15 = .ok (.dup2, 1) := by decide +kernel
theorem dX3_take_16 : decode cX3_take 16 = .ok (.iaload, 1) := by decide +kernel
theorem dX3_take_17 : decode cX3_take 17 = .ok (.iconst 1, 1) := by decide +kernel
theorem dX3_take_18 : decode cX3_take 18 = .ok (.isub, 1) := by decide +kernel
theorem dX3_take_19 : decode cX3_take 19 = .ok (.iastore, 1) := by decide +kernel
theorem dX3_take_20 : decode cX3_take 20 = .ok (.iconst 0, 1) := by decide +kernel
theorem dX3_take_21 : decode cX3_take 21 = .ok (.istore_n 3, 1) := by decide +kernel
theorem dX3_take_22 : decode cX3_take 22 = .ok (.iload_n 3, 1) := by decide +kernel
theorem dX3_take_23 : decode cX3_take 23 = .ok (.aload_n 0, 1) := by decide +kernel
theorem dX3_take_24 : decode cX3_take 24 = .ok (.getfield 13, 3) := by decide +kernel
theorem dX3_take_27 : decode cX3_take 27 = .ok (.iload_n 1, 1) := by decide +kernel
theorem dX3_take_28 : decode cX3_take 28 = .ok (.iaload, 1) := by decide +kernel
theorem dX3_take_29 : decode cX3_take 29 = .ok (.if_icmp .ge 33, 3) := by decide +kernel
theorem dX3_take_32 : decode cX3_take 32 = .ok (.aload_n 0, 1) := by decide +kernel
theorem dX3_take_33 : decode cX3_take 33 = .ok (.getfield 7, 3) := by decide +kernel
theorem dX3_take_36 : decode cX3_take 36 = .ok (.bipush 6, 2) := by decide +kernel
theorem dX3_take_38 : decode cX3_take 38 = .ok (.iload_n 1, 1) := by decide +kernel
theorem dX3_take_39 : decode cX3_take 39 = .ok (.imul, 1) := by decide +kernel
theorem dX3_take_40 : decode cX3_take 40 = .ok (.iload_n 3, 1) := by decide +kernel
theorem dX3_take_41 : decode cX3_take 41 = .ok (.iadd, 1) := by decide +kernel
theorem dX3_take_42 : decode cX3_take 42 = .ok (.aload_n 0, 1) := by decide +kernel
theorem dX3_take_43 : decode cX3_take 43 = .ok (.getfield 7, 3) := by decide +kernel
theorem dX3_take_46 : decode cX3_take 46 = .ok (.bipush 6, 2) := by decide +kernel
theorem dX3_take_48 : decode cX3_take 48 = .ok (.iload_n 1, 1) := by decide +kernel
theorem dX3_take_49 : decode cX3_take 49 = .ok (.imul, 1) := by decide +kernel
theorem dX3_take_50 : decode cX3_take 50 = .ok (.iload_n 3, 1) := by decide +kernel
theorem dX3_take_51 : decode cX3_take 51 = .ok (.iadd, 1) := by decide +kernel
theorem dX3_take_52 : decode cX3_take 52 = .ok (.iconst 1, 1) := by decide +kernel
theorem dX3_take_53 : decode cX3_take 53 = .ok (.iadd, 1) := by decide +kernel
theorem dX3_take_54 : decode cX3_take 54 = .ok (.iaload, 1) := by decide +kernel
theorem dX3_take_55 : decode cX3_take 55 = .ok (.iastore, 1) := by decide +kernel
theorem dX3_take_56 : decode cX3_take 56 = .ok (.iinc 3 1, 3) := by decide +kernel
theorem dX3_take_59 : decode cX3_take 59 = .ok (.goto (-37), 3) := by decide +kernel
theorem dX3_take_62 : decode cX3_take 62 = .ok (.aload_n 0, 1) := by decide +kernel
theorem dX3_take_63 : decode cX3_take 63 = .ok (.getfield 19, 3) := by decide +kernel
theorem dX3_take_66 : decode cX3_take 66 = .ok (.iload_n 2, 1) := by decide +kernel
theorem dX3_take_67 : decode cX3_take 67 = .ok (.bipush 10, 2) := by decide +kernel
theorem dX3_take_69 : decode cX3_take 69 = .ok (.iastore, 1) := by decide +kernel
theorem dX3_take_70 : decode cX3_take 70 = .ok (.aload_n 0, 1) := by decide +kernel
theorem dX3_take_71 : decode cX3_take 71 = .ok (.dup, 1) := by decide +kernel
theorem dX3_take_72 : decode cX3_take 72 = .ok (.getfield 54, 3) := by decide +kernel
theorem dX3_take_75 : decode cX3_take 75 = .ok (.iconst 1, 1) := by decide +kernel
theorem dX3_take_76 : decode cX3_take 76 = .ok (.iadd, 1) := by decide +kernel
theorem dX3_take_77 : decode cX3_take 77 = .ok (.putfield 54, 3) := by decide +kernel
theorem dX3_take_80 : decode cX3_take 80 = .ok (.aload_n 0, 1) := by decide +kernel
theorem dX3_take_81 : decode cX3_take 81 = .ok (.dup, 1) := by decide +kernel
theorem dX3_take_82 : decode cX3_take 82 = .ok (.getfield 57, 3) := by decide +kernel
theorem dX3_take_85 : decode cX3_take 85 = .ok (.aload_n 0, 1) := by decide +kernel
theorem dX3_take_86 : decode cX3_take 86 = .ok (.getfield 60, 3) := by decide +kernel
theorem dX3_take_89 : decode cX3_take 89 = .ok (.iconst (-1), 1) := by decide +kernel
theorem dX3_take_90 : decode cX3_take 90 = .ok (.if_icmp .eq 20, 3) := by decide +kernel
theorem dX3_take_93 : decode cX3_take 93 = .ok (.aload_n 0, 1) := by decide +kernel
theorem dX3_take_94 : decode cX3_take 94 = .ok (.getfield 60, 3) := by decide +kernel
theorem dX3_take_97 : decode cX3_take 97 = .ok (.aload_n 0, 1) := by decide +kernel
theorem dX3_take_98 : decode cX3_take 98 = .ok (.getfield 16, 3) := by decide +kernel
theorem dX3_take_101 : decode cX3_take 101 = .ok (.iload_n 2, 1) := by decide +kernel
theorem dX3_take_102 : decode cX3_take 102 = .ok (.iaload, 1) := by decide +kernel
theorem dX3_take_103 : decode cX3_take 103 = .ok (.if_icmp .eq 7, 3) := by decide +kernel
theorem dX3_take_106 : decode cX3_take 106 = .ok (.iconst 1, 1) := by decide +kernel
theorem dX3_take_107 : decode cX3_take 107 = .ok (.goto 4, 3) := by decide +kernel
theorem dX3_take_110 : decode cX3_take 110 = .ok (.iconst 0, 1) := by decide +kernel
theorem dX3_take_111 : decode cX3_take 111 = .ok (.iadd, 1) := by decide +kernel
theorem dX3_take_112 : decode cX3_take 112 = .ok (.putfield 57, 3) := by decide +kernel
theorem dX3_take_115 : decode cX3_take 115 = .ok (.aload_n 0, 1) := by decide +kernel
theorem dX3_take_116 : decode cX3_take 116 = .ok (.aload_n 0, 1) := by decide +kernel
theorem dX3_take_117 : decode cX3_take 117 = .ok (.getfield 16, 3) := by decide +kernel
theorem dX3_take_120 : decode cX3_take 120 = .ok (.iload_n 2, 1) := by decide +kernel
theorem dX3_take_121 : decode cX3_take 121 = .ok (.iaload, 1) := by decide +kernel
theorem dX3_take_122 : decode cX3_take 122 = .ok (.putfield 60, 3) := by decide +kernel
theorem dX3_take_125 : decode cX3_take 125 = .ok (.iload_n 2, 1) := by decide +kernel
theorem dX3_take_126 : decode cX3_take 126 = .ok (.ireturn, 1) := by decide +kernel
set_option maxRecDepth 20000 in
theorem ggX3_lowestHead_X3_head : GoodIn wsX3_lowestHead wsX3_head := goodIn_r _ [8, 2, 9, 14, 15, 16, 17, 18, 19, 20, 21, 22, 23, 24, 25, 26, 27, 28, 29, 30, 31, 32] (by decide +kernel) (by decide +kernel)
set_option maxRecDepth 20000 in
theorem gX3_lowestHead_X3_head : GoodIn wsX3_lowestHead (wsV RX3 99 RX3 yX3_head wsX3_head) := goodIn_app (goodIn_of _ (by decide +kernel)) ggX3_lowestHead_X3_head
set_option maxRecDepth 20000 in
theorem ggX3_lowestHead_X3_blockOf : GoodIn wsX3_lowestHead wsX3_blockOf := goodIn_r _ [13, 2, 3, 9, 14, 15, 16, 17, 18, 19, 20, 21, 22, 23, 24, 25, 26, 27, 28, 29, 30, 31, 32] (by decide +kernel) (by decide +kernel)
set_option maxRecDepth 20000 in
theorem gX3_lowestHead_X3_blockOf : GoodIn wsX3_lowestHead (wsV RX3 102 RX3 yX3_blockOf wsX3_blockOf) := goodIn_app (goodIn_of _ (by decide +kernel)) ggX3_lowestHead_X3_blockOf
theorem dX3_lowestHead_0 : decode cX3_lowestHead 0 = .ok (.iconst (-1), 1) := by decide +kernel
theorem dX3_lowestHead_1 : decode cX3_lowestHead 1 = .ok (.istore_n 3, 1) := by decide +kernel
theorem dX3_lowestHead_2 : decode cX3_lowestHead 2 = .ok (.iconst 0, 1) := by decide +kernel
theorem dX3_lowestHead_3 : decode cX3_lowestHead 3 = .ok (.istore 4, 2) := by decide +kernel
theorem dX3_lowestHead_5 : decode cX3_lowestHead 5 = .ok (.iload 4, 2) := by decide +kernel
theorem dX3_lowestHead_7 : decode cX3_lowestHead 7 = .ok (.aload_n 0, 1) := by decide +kernel
theorem dX3_lowestHead_8 : decode cX3_lowestHead 8 = .ok (.getfield 39, 3) := by decide +kernel
theorem dX3_lowestHead_11 : decode cX3_lowestHead 11 = .ok (.if_icmp .ge 88, 3) := by decide +kernel
theorem dX3_lowestHead_14 : decode cX3_lowestHead 14 = .ok (.aload_n 0, 1) := by decide +kernel
theorem dX3_lowestHead_15 : decode cX3_lowestHead 15 = .ok (.getfield 13, 3) := by decide +kernel
theorem dX3_lowestHead_18 : decode cX3_lowestHead 18 = .ok (.iload 4, 2) := by decide +kernel
theorem dX3_lowestHead_20 : decode cX3_lowestHead 20 = .ok (.iaload, 1) := by decide +kernel
theorem dX3_lowestHead_21 : decode cX3_lowestHead 21 = .ok (.ifCond .le 42, 3) := by decide +kernel
theorem dX3_lowestHead_24 : decode cX3_lowestHead 24 = .ok (.iload_n 1, 1) := by decide +kernel
theorem dX3_lowestHead_25 : decode cX3_lowestHead 25 = .ok (.iconst (-1), 1) := by decide +kernel
theorem dX3_lowestHead_26 : decode cX3_lowestHead 26 = .ok (.if_icmp .eq 18, 3) := by decide +kernel
theorem dX3_lowestHead_29 : decode cX3_lowestHead 29 = .ok (.aload_n 0, 1) := by decide +kernel
theorem dX3_lowestHead_30 : decode cX3_lowestHead 30 = .ok (.getfield 16, 3) := by decide +kernel
theorem dX3_lowestHead_33 : decode cX3_lowestHead 33 = .ok (.aload_n 0, 1) := by decide +kernel
theorem dX3_lowestHead_34 : decode cX3_lowestHead 34 = .ok (.iload 4, 2) := by decide +kernel
theorem dX3_lowestHead_36 : decode cX3_lowestHead 36 = .ok (.invokevirtual 99, 3) := by decide +kernel
theorem dX3_lowestHead_39 : decode cX3_lowestHead 39 = .ok (.iaload, 1) := by decide +kernel
theorem dX3_lowestHead_40 : decode cX3_lowestHead 40 = .ok (.iload_n 1, 1) := by decide +kernel
theorem dX3_lowestHead_41 : decode cX3_lowestHead 41 = .ok (.if_icmp .ne 22, 3) := by decide +kernel
theorem dX3_lowestHead_44 : decode cX3_lowestHead 44 = .ok (.iload_n 2, 1) := by decide +kernel
theorem dX3_lowestHead_45 : decode cX3_lowestHead 45 = .ok (.iconst (-1), 1) := by decide +kernel
theorem dX3_lowestHead_46 : decode cX3_lowestHead 46 = .ok (.if_icmp .eq 13, 3) := by decide +kernel
theorem dX3_lowestHead_49 : decode cX3_lowestHead 49 = .ok (.aload_n 0, 1) := by decide +kernel
theorem dX3_lowestHead_50 : decode cX3_lowestHead 50 = .ok (.iload 4, 2) := by decide +kernel
theorem dX3_lowestHead_52 : decode cX3_lowestHead 52 = .ok (.invokevirtual 102, 3) := by decide +kernel
theorem dX3_lowestHead_55 : decode cX3_lowestHead 55 = .ok (.iload_n 2, 1) := by decide +kernel
theorem dX3_lowestHead_56 : decode cX3_lowestHead 56 = .ok (.if_icmp .ne 7, 3) := by decide +kernel
theorem dX3_lowestHead_59 : decode cX3_lowestHead 59 = .ok (.iconst 1, 1) := by decide +kernel
theorem dX3_lowestHead_60 : decode cX3_lowestHead 60 = .ok (.goto 4, 3) := by decide +kernel
theorem dX3_lowestHead_63 : decode cX3_lowestHead 63 = .ok (.iconst 0, 1) := by decide +kernel
theorem dX3_lowestHead_64 : decode cX3_lowestHead 64 = .ok (.istore 5, 2) := by decide +kernel
theorem dX3_lowestHead_66 : decode cX3_lowestHead 66 = .ok (.iload 5, 2) := by decide +kernel
theorem dX3_lowestHead_68 : decode cX3_lowestHead 68 = .ok (.ifCond .eq 25, 3) := by decide +kernel
theorem dX3_lowestHead_71 : decode cX3_lowestHead 71 = .ok (.iload_n 3, 1) := by decide +kernel
theorem dX3_lowestHead_72 : decode cX3_lowestHead 72 = .ok (.iconst (-1), 1) := by decide +kernel
theorem dX3_lowestHead_73 : decode cX3_lowestHead 73 = .ok (.if_icmp .eq 17, 3) := by decide +kernel
theorem dX3_lowestHead_76 : decode cX3_lowestHead 76 = .ok (.aload_n 0, 1) := by decide +kernel
theorem dX3_lowestHead_77 : decode cX3_lowestHead 77 = .ok (.iload 4, 2) := by decide +kernel
theorem dX3_lowestHead_79 : decode cX3_lowestHead 79 = .ok (.invokevirtual 99, 3) := by decide +kernel
theorem dX3_lowestHead_82 : decode cX3_lowestHead 82 = .ok (.aload_n 0, 1) := by decide +kernel
theorem dX3_lowestHead_83 : decode cX3_lowestHead 83 = .ok (.iload_n 3, 1) := by decide +kernel
theorem dX3_lowestHead_84 : decode cX3_lowestHead 84 = .ok (.invokevirtual 99, 3) := by decide +kernel
theorem dX3_lowestHead_87 : decode cX3_lowestHead 87 = .ok (.if_icmp .ge 6, 3) := by decide +kernel
theorem dX3_lowestHead_90 : decode cX3_lowestHead 90 = .ok (.iload 4, 2) := by decide +kernel
theorem dX3_lowestHead_92 : decode cX3_lowestHead 92 = .ok (.istore_n 3, 1) := by decide +kernel
theorem dX3_lowestHead_93 : decode cX3_lowestHead 93 = .ok (.iinc 4 1, 3) := by decide +kernel
theorem dX3_lowestHead_96 : decode cX3_lowestHead 96 = .ok (.goto (-91), 3) := by decide +kernel
theorem dX3_lowestHead_99 : decode cX3_lowestHead 99 = .ok (.iload_n 3, 1) := by decide +kernel
theorem dX3_lowestHead_100 : decode cX3_lowestHead 100 = .ok (.ireturn, 1) := by decide +kernel
set_option maxRecDepth 20000 in
theorem ggX3_laneOut_X3_lowestHead : GoodIn wsX3_laneOut wsX3_lowestHead := goodIn_r _ [8, 3, 9, 10, 11, 12, 13, 7, 14, 15, 16, 17, 18, 19, 20, 21, 22, 23, 24, 25, 26, 27, 28, 29, 30, 31, 32, 33, 34, 35, 36, 37, 38] (by decide +kernel) (by decide +kernel)
set_option maxRecDepth 20000 in
theorem gX3_laneOut_X3_lowestHead : GoodIn wsX3_laneOut (wsV RX3 105 RX3 yX3_lowestHead wsX3_lowestHead) := goodIn_app (goodIn_of _ (by decide +kernel)) ggX3_laneOut_X3_lowestHead
set_option maxRecDepth 20000 in
theorem ggX3_laneOut_X3_blockOf : GoodIn wsX3_laneOut wsX3_blockOf := goodIn_r _ [19, 9, 10, 15, 20, 21, 22, 23, 24, 25, 26, 27, 28, 29, 30, 31, 32, 33, 34, 35, 36, 37, 38] (by decide +kernel) (by decide +kernel)
set_option maxRecDepth 20000 in
theorem gX3_laneOut_X3_blockOf : GoodIn wsX3_laneOut (wsV RX3 102 RX3 yX3_blockOf wsX3_blockOf) := goodIn_app (goodIn_of _ (by decide +kernel)) ggX3_laneOut_X3_blockOf
theorem dX3_laneOut_0 : decode cX3_laneOut 0 = .ok (.aload_n 0, 1) := by decide +kernel
theorem dX3_laneOut_1 : decode cX3_laneOut 1 = .ok (.getfield 60, 3) := by decide +kernel
theorem dX3_laneOut_4 : decode cX3_laneOut 4 = .ok (.iconst (-1), 1) := by decide +kernel
theorem dX3_laneOut_5 : decode cX3_laneOut 5 = .ok (.if_icmp .eq 10, 3) := by decide +kernel
theorem dX3_laneOut_8 : decode cX3_laneOut 8 = .ok (.aload_n 0, 1) := by decide +kernel
theorem dX3_laneOut_9 : decode cX3_laneOut 9 = .ok (.getfield 77, 3) := by decide +kernel
theorem dX3_laneOut_12 : decode cX3_laneOut 12 = .ok (.ifCond .ne 7, 3) := by decide +kernel
theorem dX3_laneOut_15 : decode cX3_laneOut 15 = .ok (.iconst (-1), 1) := by decide +kernel
theorem dX3_laneOut_16 : decode cX3_laneOut 16 = .ok (.goto 12, 3) := by decide +kernel
theorem dX3_laneOut_19 : decode cX3_laneOut 19 = .ok (.aload_n 0, 1) := by decide +kernel
theorem dX3_laneOut_20 : decode cX3_laneOut 20 = .ok (.aload_n 0, 1) := by decide +kernel
theorem dX3_laneOut_21 : decode cX3_laneOut 21 = .ok (.getfield 60, 3) := by decide +kernel
theorem dX3_laneOut_24 : decode cX3_laneOut 24 = .ok (.iconst (-1), 1) := by decide +kernel
theorem dX3_laneOut_25 : decode cX3_laneOut 25 = .ok (.invokevirtual 105, 3) := by decide +kernel
theorem dX3_laneOut_28 : decode cX3_laneOut 28 = .ok (.istore_n 1, 1) := by decide +kernel
theorem dX3_laneOut_29 : decode cX3_laneOut 29 = .ok (.iload_n 1, 1) := by decide +kernel
theorem dX3_laneOut_30 : decode cX3_laneOut 30 = .ok (.iconst (-1), 1) := by decide +kernel
theorem dX3_laneOut_31 : decode cX3_laneOut 31 = .ok (.if_icmp .eq 5, 3) := by decide +kernel
theorem dX3_laneOut_34 : decode cX3_laneOut 34 = .ok (.iload_n 1, 1) := by decide +kernel
theorem dX3_laneOut_35 : decode cX3_laneOut 35 = .ok (.ireturn, 1) := by decide +kernel
theorem dX3_laneOut_36 : decode cX3_laneOut 36 = .ok (.iconst 0, 1) := by decide +kernel
theorem dX3_laneOut_37 : decode cX3_laneOut 37 = .ok (.istore_n 2, 1) := by decide +kernel
theorem dX3_laneOut_38 : decode cX3_laneOut 38 = .ok (.iconst 0, 1) := by decide +kernel
theorem dX3_laneOut_39 : decode cX3_laneOut 39 = .ok (.istore_n 3, 1) := by decide +kernel
theorem dX3_laneOut_40 : decode cX3_laneOut 40 = .ok (.iload_n 3, 1) := by decide +kernel
theorem dX3_laneOut_41 : decode cX3_laneOut 41 = .ok (.aload_n 0, 1) := by decide +kernel
theorem dX3_laneOut_42 : decode cX3_laneOut 42 = .ok (.getfield 39, 3) := by decide +kernel
theorem dX3_laneOut_45 : decode cX3_laneOut 45 = .ok (.if_icmp .ge 28, 3) := by decide +kernel
theorem dX3_laneOut_48 : decode cX3_laneOut 48 = .ok (.aload_n 0, 1) := by decide +kernel
theorem dX3_laneOut_49 : decode cX3_laneOut 49 = .ok (.iload_n 3, 1) := by decide +kernel
theorem dX3_laneOut_50 : decode cX3_laneOut 50 = .ok (.invokevirtual 102, 3) := by decide +kernel
theorem dX3_laneOut_53 : decode cX3_laneOut 53 = .ok (.iload_n 2, 1) := by decide +kernel
theorem dX3_laneOut_54 : decode cX3_laneOut 54 = .ok (.if_icmp .le 11, 3) := by decide +kernel
theorem dX3_laneOut_57 : decode cX3_laneOut 57 = .ok (.aload_n 0, 1) := by decide +kernel
theorem dX3_laneOut_58 : decode cX3_laneOut 58 = .ok (.iload_n 3, 1) := by decide +kernel
theorem dX3_laneOut_59 : decode cX3_laneOut 59 = .ok (.invokevirtual 102, 3) := by decide +kernel
theorem dX3_laneOut_62 : decode cX3_laneOut 62 = .ok (.goto 4, 3) := by decide +kernel
theorem dX3_laneOut_65 : decode cX3_laneOut 65 = .ok (.iload_n 2, 1) := by decide +kernel
theorem dX3_laneOut_66 : decode cX3_laneOut 66 = .ok (.istore_n 2, 1) := by decide +kernel
theorem dX3_laneOut_67 : decode cX3_laneOut 67 = .ok (.iinc 3 1, 3) := by decide +kernel
theorem dX3_laneOut_70 : decode cX3_laneOut 70 = .ok (.goto (-30), 3) := by decide +kernel
theorem dX3_laneOut_73 : decode cX3_laneOut 73 = .ok (.aload_n 0, 1) := by decide +kernel
theorem dX3_laneOut_74 : decode cX3_laneOut 74 = .ok (.iconst (-1), 1) := by decide +kernel
theorem dX3_laneOut_75 : decode cX3_laneOut 75 = .ok (.aload_n 0, 1) := by decide +kernel
theorem dX3_laneOut_76 : decode cX3_laneOut 76 = .ok (.getfield 77, 3) := by decide +kernel
theorem dX3_laneOut_79 : decode cX3_laneOut 79 = .ok (.iconst 2, 1) := by decide +kernel
theorem dX3_laneOut_80 : decode cX3_laneOut 80 = .ok (.if_icmp .ne 7, 3) := by decide +kernel
theorem dX3_laneOut_83 : decode cX3_laneOut 83 = .ok (.iload_n 2, 1) := by decide +kernel
theorem dX3_laneOut_84 : decode cX3_laneOut 84 = .ok (.goto 4, 3) := by decide +kernel
theorem dX3_laneOut_87 : decode cX3_laneOut 87 = .ok (.iconst (-1), 1) := by decide +kernel
theorem dX3_laneOut_88 : decode cX3_laneOut 88 = .ok (.invokevirtual 105, 3) := by decide +kernel
theorem dX3_laneOut_91 : decode cX3_laneOut 91 = .ok (.ireturn, 1) := by decide +kernel
set_option maxRecDepth 20000 in
theorem ggX3_isFull_X3_countIn : GoodIn wsX3_isFull wsX3_countIn := goodIn_r _ [6, 7, 8, 9, 10, 11, 12, 13, 14, 15, 16, 17, 18, 19, 20, 21, 22, 23, 24, 25, 26, 27] (by decide +kernel) (by decide +kernel)
set_option maxRecDepth 20000 in
theorem gX3_isFull_X3_countIn : GoodIn wsX3_isFull (wsV RX3 108 RX3 yX3_countIn wsX3_countIn) := goodIn_app (goodIn_of _ (by decide +kernel)) ggX3_isFull_X3_countIn
theorem dX3_isFull_0 : decode cX3_isFull 0 = .ok (.aload_n 0, 1) := by decide +kernel
theorem dX3_isFull_1 : decode cX3_isFull 1 = .ok (.bipush 10, 2) := by decide +kernel
theorem dX3_isFull_3 : decode cX3_isFull 3 = .ok (.invokevirtual 108, 3) := by decide +kernel
theorem dX3_isFull_6 : decode cX3_isFull 6 = .ok (.aload_n 0, 1) := by decide +kernel
theorem dX3_isFull_7 : decode cX3_isFull 7 = .ok (.getfield 45, 3) := by decide +kernel
theorem dX3_isFull_10 : decode cX3_isFull 10 = .ok (.if_icmp .lt 7, 3) := by decide +kernel
theorem dX3_isFull_13 : decode cX3_isFull 13 = .ok (.iconst 1, 1) := by decide +kernel
theorem dX3_isFull_14 : decode cX3_isFull 14 = .ok (.goto 4, 3) := by decide +kernel
theorem dX3_isFull_17 : decode cX3_isFull 17 = .ok (.iconst 0, 1) := by decide +kernel
theorem dX3_isFull_18 : decode cX3_isFull 18 = .ok (.ireturn, 1) := by decide +kernel
set_option maxRecDepth 20000 in
theorem ggX3_release_X3_laneOut : GoodIn wsX3_release wsX3_laneOut := goodIn_r _ [6, 7, 8, 9, 10, 11, 12, 5, 13, 14, 15, 16, 17, 18, 19, 20, 21, 22, 23, 24, 46, 47, 48, 49, 50, 51, 52, 53, 54, 55, 56, 57, 58, 59, 60, 61, 62, 63, 64] (by decide +kernel) (by decide +kernel)
set_option maxRecDepth 20000 in
theorem gX3_release_X3_laneOut : GoodIn wsX3_release (wsV RX3 111 RX3 yX3_laneOut wsX3_laneOut) := goodIn_app (goodIn_of _ (by decide +kernel)) ggX3_release_X3_laneOut
set_option maxRecDepth 20000 in
theorem ggX3_release_X3_isFull : GoodIn wsX3_release wsX3_isFull := goodIn_r _ [28, 29, 30, 31, 32, 5, 33, 34, 35, 46, 47, 48, 49, 50, 51, 52, 53, 54, 55, 56, 57, 58, 59, 60, 61, 62, 63, 64] (by decide +kernel) (by decide +kernel)
set_option maxRecDepth 20000 in
theorem gX3_release_X3_isFull : GoodIn wsX3_release (wsV RX3 114 RX3 yX3_isFull wsX3_isFull) := goodIn_app (goodIn_of _ (by decide +kernel)) ggX3_release_X3_isFull
set_option maxRecDepth 20000 in
theorem ggX3_release_X3_fails : GoodIn wsX3_release wsX3_fails := goodIn_r _ [39, 1, 46, 47, 48, 49, 50, 51, 52, 53, 54, 55, 56, 57, 58, 59, 60, 61, 62, 63, 64] (by decide +kernel) (by decide +kernel)
set_option maxRecDepth 20000 in
theorem gX3_release_X3_fails : GoodIn wsX3_release (wsV RX3 70 RX3 yX3_fails wsX3_fails) := goodIn_app (goodIn_of _ (by decide +kernel)) ggX3_release_X3_fails
set_option maxRecDepth 20000 in
theorem ggX3_release_X3_take : GoodIn wsX3_release wsX3_take := goodIn_r _ [43, 20, 14, 35, 44, 45, 7, 15, 46, 47, 48, 49, 50, 51, 52, 53, 54, 55, 56, 57, 58, 59, 60, 61, 62, 63, 64] (by decide +kernel) (by decide +kernel)
set_option maxRecDepth 20000 in
theorem gX3_release_X3_take : GoodIn wsX3_release (wsV RX3 118 RX3 yX3_take wsX3_take) := goodIn_app (goodIn_of _ (by decide +kernel)) ggX3_release_X3_take
theorem dX3_release_0 : decode cX3_release 0 = .ok (.aload_n 0, 1) := by decide +kernel
theorem dX3_release_1 : decode cX3_release 1 = .ok (.iconst 0, 1) := by decide +kernel
theorem dX3_release_2 : decode cX3_release 2 = .ok (.putfield 35, 3) := by decide +kernel
theorem dX3_release_5 : decode cX3_release 5 = .ok (.aload_n 0, 1) := by decide +kernel
theorem dX3_release_6 : decode cX3_release 6 = .ok (.invokevirtual 111, 3) := by decide +kernel
theorem dX3_release_9 : decode cX3_release 9 = .ok (.istore_n 1, 1) := by decide +kernel
theorem dX3_release_10 : decode cX3_release 10 = .ok (.iload_n 1, 1) := by decide +kernel
theorem dX3_release_11 : decode cX3_release 11 = .ok (.iconst (-1), 1) := by decide +kernel
theorem dX3_release_12 : decode cX3_release 12 = .ok (.if_icmp .eq 10, 3) := by decide +kernel
theorem dX3_release_15 : decode cX3_release 15 = .ok (.aload_n 0, 1) := by decide +kernel
theorem dX3_release_16 : decode cX3_release 16 = .ok (.invokevirtual 114, 3) := by decide +kernel
theorem dX3_release_19 : decode cX3_release 19 = .ok (.ifCond .eq 11, 3) := by decide +kernel
theorem dX3_release_22 : decode cX3_release 22 = .ok (.aload_n 0, 1) := by decide +kernel
theorem dX3_release_23 : decode cX3_release 23 = .ok (.iconst 1, 1) := by decide +kernel
theorem dX3_release_24 : decode cX3_release 24 = .ok (.invokevirtual 70, 3) := by decide +kernel
theorem dX3_release_27 : decode cX3_release 27 = .ok (.goto 8, 3) := by decide +kernel
theorem dX3_release_30 : decode cX3_release 30 = .ok (.aload_n 0, 1) := by decide +kernel
theorem dX3_release_31 : decode cX3_release 31 = .ok (.iload_n 1, 1) := by decide +kernel
theorem dX3_release_32 : decode cX3_release 32 = .ok (.invokevirtual 118, 3) := by decide +kernel
theorem dX3_release_35 : decode cX3_release 35 = .ok (.ireturn, 1) := by decide +kernel
set_option maxRecDepth 20000 in
theorem ggX3_releaseFrom_X3_in : GoodIn wsX3_releaseFrom wsX3_in := goodIn_r _ [7] (by decide +kernel) (by decide +kernel)
set_option maxRecDepth 20000 in
theorem gX3_releaseFrom_X3_in : GoodIn wsX3_releaseFrom (va_wsS RX3 66 yX3_in wsX3_in) := goodIn_app (goodIn_of _ (by decide +kernel)) ggX3_releaseFrom_X3_in
set_option maxRecDepth 20000 in
theorem ggX3_releaseFrom_X3_fails : GoodIn wsX3_releaseFrom wsX3_fails := goodIn_r _ [11, 1, 32, 33, 34, 35, 36, 37, 38, 39, 40, 41, 42, 43, 44, 45, 46, 47, 48, 49, 50] (by decide +kernel) (by decide +kernel)
set_option maxRecDepth 20000 in
theorem gX3_releaseFrom_X3_fails : GoodIn wsX3_releaseFrom (wsV RX3 70 RX3 yX3_fails wsX3_fails) := goodIn_app (goodIn_of _ (by decide +kernel)) ggX3_releaseFrom_X3_fails
set_option maxRecDepth 20000 in
theorem ggX3_releaseFrom_X3_isFull : GoodIn wsX3_releaseFrom wsX3_isFull := goodIn_r _ [15, 16, 17, 18, 19, 6, 20, 21, 22, 32, 33, 34, 35, 36, 37, 38, 39, 40, 41, 42, 43, 44, 45, 46, 47, 48, 49, 50] (by decide +kernel) (by decide +kernel)
set_option maxRecDepth 20000 in
theorem gX3_releaseFrom_X3_isFull : GoodIn wsX3_releaseFrom (wsV RX3 114 RX3 yX3_isFull wsX3_isFull) := goodIn_app (goodIn_of _ (by decide +kernel)) ggX3_releaseFrom_X3_isFull
set_option maxRecDepth 20000 in
theorem ggX3_releaseFrom_X3_take : GoodIn wsX3_releaseFrom wsX3_take := goodIn_r _ [26, 27, 3, 22, 28, 29, 30, 31, 32, 33, 34, 35, 36, 37, 38, 39, 40, 41, 42, 43, 44, 45, 46, 47, 48, 49, 50] (by decide +kernel) (by decide +kernel)
set_option maxRecDepth 20000 in
theorem gX3_releaseFrom_X3_take : GoodIn wsX3_releaseFrom (wsV RX3 118 RX3 yX3_take wsX3_take) := goodIn_app (goodIn_of _ (by decide +kernel)) ggX3_releaseFrom_X3_take
theorem dX3_releaseFrom_0 : decode cX3_releaseFrom 0 = .ok (.aload_n 0, 1) := by decide +kernel
theorem dX3_releaseFrom_1 : decode cX3_releaseFrom 1 = .ok (.iconst 0, 1) := by decide +kernel
theorem dX3_releaseFrom_2 : decode cX3_releaseFrom 2 = .ok (.putfield 35, 3) := by decide +kernel
theorem dX3_releaseFrom_5 : decode cX3_releaseFrom 5 = .ok (.iload_n 1, 1) := by decide +kernel
theorem dX3_releaseFrom_6 : decode cX3_releaseFrom 6 = .ok (.iconst 0, 1) := by decide +kernel
theorem dX3_releaseFrom_7 : decode cX3_releaseFrom 7 = .ok (.aload_n 0, 1) := by decide +kernel
theorem dX3_releaseFrom_8 : decode cX3_releaseFrom 8 = .ok (.getfield 39, 3) := by decide +kernel
theorem dX3_releaseFrom_11 : decode cX3_releaseFrom 11 = .ok (.iconst 1, 1) := by decide +kernel
theorem dX3_releaseFrom_12 : decode cX3_releaseFrom 12 = .ok (.isub, 1) := by decide +kernel
theorem dX3_releaseFrom_13 : decode cX3_releaseFrom 13 = .ok (.invokestatic 66, 3) := by decide +kernel
theorem dX3_releaseFrom_16 : decode cX3_releaseFrom 16 = .ok (.ifCond .ne 9, 3) := by decide +kernel
theorem dX3_releaseFrom_19 : decode cX3_releaseFrom 19 = .ok (.aload_n 0, 1) := by decide +kernel
theorem dX3_releaseFrom_20 : decode cX3_releaseFrom 20 = .ok (.iconst 1, 1) := by decide +kernel
theorem dX3_releaseFrom_21 : decode cX3_releaseFrom 21 = .ok (.invokevirtual 70, 3) := by decide +kernel
theorem dX3_releaseFrom_24 : decode cX3_releaseFrom 24 = .ok (.ireturn, 1) := by decide +kernel
theorem dX3_releaseFrom_25 : decode cX3_releaseFrom 25 = .ok (.aload_n 0, 1) := by decide +kernel
theorem dX3_releaseFrom_26 : decode cX3_releaseFrom 26 = .ok (.getfield 13, 3) := by decide +kernel
theorem dX3_releaseFrom_29 : decode cX3_releaseFrom 29 = .ok (.iload_n 1, 1) := by decide +kernel
theorem dX3_releaseFrom_30 : decode cX3_releaseFrom 30 = .ok (.iaload, 1) := by decide +kernel
theorem dX3_releaseFrom_31 : decode cX3_releaseFrom 31 = .ok (.ifCond .eq 10, 3) := by decide +kernel
theorem dX3_releaseFrom_34 : decode cX3_releaseFrom 34 = .ok (.aload_n 0, 1) := by decide +kernel
theorem dX3_releaseFrom_35 : decode cX3_releaseFrom 35 = .ok (.invokevirtual 114, 3) := by decide +kernel
theorem dX3_releaseFrom_38 : decode cX3_releaseFrom 38 = .ok (.ifCond .eq 11, 3) := by decide +kernel
theorem dX3_releaseFrom_41 : decode cX3_releaseFrom 41 = .ok (.aload_n 0, 1) := by decide +kernel
theorem dX3_releaseFrom_42 : decode cX3_releaseFrom 42 = .ok (.iconst 2, 1) := by decide +kernel
theorem dX3_releaseFrom_43 : decode cX3_releaseFrom 43 = .ok (.invokevirtual 70, 3) := by decide +kernel
theorem dX3_releaseFrom_46 : decode cX3_releaseFrom 46 = .ok (.goto 8, 3) := by decide +kernel
theorem dX3_releaseFrom_49 : decode cX3_releaseFrom 49 = .ok (.aload_n 0, 1) := by decide +kernel
theorem dX3_releaseFrom_50 : decode cX3_releaseFrom 50 = .ok (.iload_n 1, 1) := by decide +kernel
theorem dX3_releaseFrom_51 : decode cX3_releaseFrom 51 = .ok (.invokevirtual 118, 3) := by decide +kernel
theorem dX3_releaseFrom_54 : decode cX3_releaseFrom 54 = .ok (.ireturn, 1) := by decide +kernel
theorem dX3_inLanes_0 : decode cX3_inLanes 0 = .ok (.iconst 0, 1) := by decide +kernel
theorem dX3_inLanes_1 : decode cX3_inLanes 1 = .ok (.istore_n 1, 1) := by decide +kernel
theorem dX3_inLanes_2 : decode cX3_inLanes 2 = .ok (.iconst 0, 1) := by decide +kernel
theorem dX3_inLanes_3 : decode cX3_inLanes 3 = .ok (.istore_n 2, 1) := by decide +kernel
theorem dX3_inLanes_4 : decode cX3_inLanes 4 = .ok (.iload_n 2, 1) := by decide +kernel
theorem dX3_inLanes_5 : decode cX3_inLanes 5 = .ok (.aload_n 0, 1) := by decide +kernel
theorem dX3_inLanes_6 : decode cX3_inLanes 6 = .ok (.getfield 39, 3) := by decide +kernel
theorem dX3_inLanes_9 : decode cX3_inLanes 9 = .ok (.if_icmp .ge 18, 3) := by decide +kernel
theorem dX3_inLanes_12 : decode cX3_inLanes 12 = .ok (.iload_n 1, 1) := by decide +kernel
theorem dX3_inLanes_13 : decode cX3_inLanes 13 = .ok (.aload_n 0, 1) := by decide +kernel
theorem dX3_inLanes_14 : decode cX3_inLanes 14 = .ok (.getfield 13, 3) := by decide +kernel
theorem dX3_inLanes_17 : decode cX3_inLanes 17 = .ok (.iload_n 2, 1) := by decide +kernel
theorem dX3_inLanes_18 : decode cX3_inLanes 18 = .ok (.iaload, 1) := by decide +kernel
theorem dX3_inLanes_19 : decode cX3_inLanes 19 = .ok (.iadd, 1) := by decide +kernel
theorem dX3_inLanes_20 : decode cX3_inLanes 20 = .ok (.istore_n 1, 1) := by decide +kernel
theorem dX3_inLanes_21 : decode cX3_inLanes 21 = .ok (.iinc 2 1, 3) := by decide +kernel
theorem dX3_inLanes_24 : decode cX3_inLanes 24 = .ok (.goto (-20), 3) := by decide +kernel
theorem dX3_inLanes_27 : decode cX3_inLanes 27 = .ok (.iload_n 1, 1) := by decide +kernel
theorem dX3_inLanes_28 : decode cX3_inLanes 28 = .ok (.ireturn, 1) := by decide +kernel
theorem dX3_layLeast_0 : decode cX3_layLeast 0 = .ok (.aload_n 0, 1) := by decide +kernel
theorem dX3_layLeast_1 : decode cX3_layLeast 1 = .ok (.getfield 25, 3) := by decide +kernel
theorem dX3_layLeast_4 : decode cX3_layLeast 4 = .ok (.iconst 0, 1) := by decide +kernel
theorem dX3_layLeast_5 : decode cX3_layLeast 5 = .ok (.iconst 1, 1) := by decide +kernel
theorem dX3_layLeast_6 : decode cX3_layLeast 6 = .ok (.iastore, 1) := by decide +kernel
theorem dX3_layLeast_7 : decode cX3_layLeast 7 = .ok (.iconst 0, 1) := by decide +kernel
theorem dX3_layLeast_8 : decode cX3_layLeast 8 = .ok (.istore_n 1, 1) := by decide +kernel
theorem dX3_layLeast_9 : decode cX3_layLeast 9 = .ok (.iload_n 1, 1) := by decide +kernel
theorem dX3_layLeast_10 : decode cX3_layLeast 10 = .ok (.aload_n 0, 1) := by decide +kernel
theorem dX3_layLeast_11 : decode cX3_layLeast 11 = .ok (.getfield 39, 3) := by decide +kernel
theorem dX3_layLeast_14 : decode cX3_layLeast 14 = .ok (.if_icmp .ge 32, 3) := by decide +kernel
theorem dX3_layLeast_17 : decode cX3_layLeast 17 = .ok (.aload_n 0, 1) := by decide +kernel
theorem dX3_layLeast_18 : decode cX3_layLeast 18 = .ok (.getfield 25, 3) := by decide +kernel
theorem dX3_layLeast_21 : decode cX3_layLeast 21 = .ok (.iload_n 1, 1) := by decide +kernel
theorem dX3_layLeast_22 : decode cX3_layLeast 22 = .ok (.iconst 1, 1) := by decide +kernel
theorem dX3_layLeast_23 : decode cX3_layLeast 23 = .ok (.iadd, 1) := by decide +kernel
theorem dX3_layLeast_24 : decode cX3_layLeast 24 = .ok (.aload_n 0, 1) := by decide +kernel
theorem dX3_layLeast_25 : decode cX3_layLeast 25 = .ok (.getfield 25, 3) := by decide +kernel
theorem dX3_layLeast_28 : decode cX3_layLeast 28 = .ok (.iload_n 1, 1) := by decide +kernel
theorem dX3_layLeast_29 : decode cX3_layLeast 29 = .ok (.iaload, 1) := by decide +kernel
theorem dX3_layLeast_30 : decode cX3_layLeast 30 = .ok (.aload_n 0, 1) := by decide +kernel
theorem dX3_layLeast_31 : decode cX3_layLeast 31 = .ok (.getfield 13, 3) := by decide +kernel
theorem dX3_layLeast_34 : decode cX3_layLeast 34 = .ok (.iload_n 1, 1) := by decide +kernel
theorem dX3_layLeast_35 : decode cX3_layLeast 35 = .ok (.iaload, 1) := by decide +kernel
theorem dX3_layLeast_36 : decode cX3_layLeast 36 = .ok (.iconst 1, 1) := by decide +kernel
theorem dX3_layLeast_37 : decode cX3_layLeast 37 = .ok (.iadd, 1) := by decide +kernel
theorem dX3_layLeast_38 : decode cX3_layLeast 38 = .ok (.imul, 1) := by decide +kernel
theorem dX3_layLeast_39 : decode cX3_layLeast 39 = .ok (.iastore, 1) := by decide +kernel
theorem dX3_layLeast_40 : decode cX3_layLeast 40 = .ok (.iinc 1 1, 3) := by decide +kernel
theorem dX3_layLeast_43 : decode cX3_layLeast 43 = .ok (.goto (-34), 3) := by decide +kernel
theorem dX3_layLeast_46 : decode cX3_layLeast 46 = .ok (.aload_n 0, 1) := by decide +kernel
theorem dX3_layLeast_47 : decode cX3_layLeast 47 = .ok (.getfield 25, 3) := by decide +kernel
theorem dX3_layLeast_50 : decode cX3_layLeast 50 = .ok (.aload_n 0, 1) := by decide +kernel
theorem dX3_layLeast_51 : decode cX3_layLeast 51 = .ok (.getfield 39, 3) := by decide +kernel
theorem dX3_layLeast_54 : decode cX3_layLeast 54 = .ok (.iaload, 1) := by decide +kernel
theorem dX3_layLeast_55 : decode cX3_layLeast 55 = .ok (.iconst 1, 1) := by decide +kernel
theorem dX3_layLeast_56 : decode cX3_layLeast 56 = .ok (.isub, 1) := by decide +kernel
theorem dX3_layLeast_57 : decode cX3_layLeast 57 = .ok (.istore_n 1, 1) := by decide +kernel
theorem dX3_layLeast_58 : decode cX3_layLeast 58 = .ok (.iload_n 1, 1) := by decide +kernel
theorem dX3_layLeast_59 : decode cX3_layLeast 59 = .ok (.ifCond .lt 180, 3) := by decide +kernel
theorem dX3_layLeast_62 : decode cX3_layLeast 62 = .ok (.iconst 0, 1) := by decide +kernel
theorem dX3_layLeast_63 : decode cX3_layLeast 63 = .ok (.istore_n 2, 1) := by decide +kernel
theorem dX3_layLeast_64 : decode cX3_layLeast 64 = .ok (.iload_n 2, 1) := by decide +kernel
theorem dX3_layLeast_65 : decode cX3_layLeast 65 = .ok (.iconst 5, 1) := by decide +kernel
theorem dX3_layLeast_66 : decode cX3_layLeast 66 = .ok (.if_icmp .gt 167, 3) := by decide +kernel
theorem dX3_layLeast_69 : decode cX3_layLeast 69 = .ok (.iload_n 1, 1) := by decide +kernel
theorem dX3_layLeast_70 : decode cX3_layLeast 70 = .ok (.aload_n 0, 1) := by decide +kernel
theorem dX3_layLeast_71 : decode cX3_layLeast 71 = .ok (.getfield 25, 3) := by decide +kernel
theorem dX3_layLeast_74 : decode cX3_layLeast 74 = .ok (.aload_n 0, 1) := by decide +kernel
theorem dX3_layLeast_75 : decode cX3_layLeast 75 = .ok (.getfield 39, 3) := by decide +kernel
theorem dX3_layLeast_78 : decode cX3_layLeast 78 = .ok (.iaload, 1) := by decide +kernel
theorem dX3_layLeast_79 : decode cX3_layLeast 79 = .ok (.iconst 1, 1) := by decide +kernel
theorem dX3_layLeast_80 : decode cX3_layLeast 80 = .ok (.isub, 1) := by decide +kernel
theorem dX3_layLeast_81 : decode cX3_layLeast 81 = .ok (.if_icmp .ne 7, 3) := by decide +kernel
theorem dX3_layLeast_84 : decode cX3_layLeast 84 = .ok (.iconst 0, 1) := by decide +kernel
theorem dX3_layLeast_85 : decode cX3_layLeast 85 = .ok (.goto 6, 3) := by decide +kernel
theorem dX3_layLeast_88 : decode cX3_layLeast 88 = .ok (.sipush 1000, 3) := by decide +kernel
theorem dX3_layLeast_91 : decode cX3_layLeast 91 = .ok (.istore_n 3, 1) := by decide +kernel
theorem dX3_layLeast_92 : decode cX3_layLeast 92 = .ok (.iconst 0, 1) := by decide +kernel
theorem dX3_layLeast_93 : decode cX3_layLeast 93 = .ok (.istore 4, 2) := by decide +kernel
theorem dX3_layLeast_95 : decode cX3_layLeast 95 = .ok (.iload 4, 2) := by decide +kernel
theorem dX3_layLeast_97 : decode cX3_layLeast 97 = .ok (.aload_n 0, 1) := by decide +kernel
theorem dX3_layLeast_98 : decode cX3_layLeast 98 = .ok (.getfield 39, 3) := by decide +kernel
theorem dX3_layLeast_101 : decode cX3_layLeast 101 = .ok (.if_icmp .ge 114, 3) := by decide +kernel
theorem dX3_layLeast_104 : decode cX3_layLeast 104 = .ok (.iload_n 1, 1) := by decide +kernel
theorem dX3_layLeast_105 : decode cX3_layLeast 105 = .ok (.aload_n 0, 1) := by decide +kernel
theorem dX3_layLeast_106 : decode cX3_layLeast 106 = .ok (.getfield 25, 3) := by decide +kernel
theorem dX3_layLeast_109 : decode cX3_layLeast 109 = .ok (.iload 4, 2) := by decide +kernel
theorem dX3_layLeast_111 : decode cX3_layLeast 111 = .ok (.iaload, 1) := by decide +kernel
theorem dX3_layLeast_112 : decode cX3_layLeast 112 = .ok (.idiv, 1) := by decide +kernel
theorem dX3_layLeast_113 : decode cX3_layLeast 113 = .ok (.aload_n 0, 1) := by decide +kernel
theorem dX3_layLeast_114 : decode cX3_layLeast 114 = .ok (.getfield 13, 3) := by decide +kernel
theorem dX3_layLeast_117 : decode cX3_layLeast 117 = .ok (.iload 4, 2) := by decide +kernel
theorem dX3_layLeast_119 : decode cX3_layLeast 119 = .ok (.iaload, 1) := by decide +kernel
theorem dX3_layLeast_120 : decode cX3_layLeast 120 = .ok (.iconst 1, 1) := by decide +kernel
theorem dX3_layLeast_121 : decode cX3_layLeast 121 = .ok (.iadd, 1) := by decide +kernel
theorem dX3_layLeast_122 : decode cX3_layLeast 122 = .ok (.irem, 1) := by decide +kernel
theorem dX3_layLeast_123 : decode cX3_layLeast 123 = .ok (.istore 5, 2) := by decide +kernel
theorem dX3_layLeast_125 : decode cX3_layLeast 125 = .ok (.iload 5, 2) := by decide +kernel
theorem dX3_layLeast_127 : decode cX3_layLeast 127 = .ok (.aload_n 0, 1) := by decide +kernel
theorem dX3_layLeast_128 : decode cX3_layLeast 128 = .ok (.getfield 13, 3) := by decide +kernel
theorem dX3_layLeast_131 : decode cX3_layLeast 131 = .ok (.iload 4, 2) := by decide +kernel
theorem dX3_layLeast_133 : decode cX3_layLeast 133 = .ok (.iaload, 1) := by decide +kernel
theorem dX3_layLeast_134 : decode cX3_layLeast 134 = .ok (.if_icmp .ge 75, 3) := by decide +kernel
theorem dX3_layLeast_137 : decode cX3_layLeast 137 = .ok (.aload_n 0, 1) := by decide +kernel
theorem dX3_layLeast_138 : decode cX3_layLeast 138 = .ok (.getfield 16, 3) := by decide +kernel
theorem dX3_layLeast_141 : decode cX3_layLeast 141 = .ok (.aload_n 0, 1) := by decide +kernel
theorem dX3_layLeast_142 : decode cX3_layLeast 142 = .ok (.getfield 7, 3) := by decide +kernel
theorem dX3_layLeast_145 : decode cX3_layLeast 145 = .ok (.bipush 6, 2) := by decide +kernel
theorem dX3_layLeast_147 : decode cX3_layLeast 147 = .ok (.iload 4, 2) := by decide +kernel
theorem dX3_layLeast_149 : decode cX3_layLeast 149 = .ok (.imul, 1) := by decide +kernel
theorem dX3_layLeast_150 : decode cX3_layLeast 150 = .ok (.iload 5, 2) := by decide +kernel
theorem dX3_layLeast_152 : decode cX3_layLeast 152 = .ok (.iadd, 1) := by decide +kernel
theorem dX3_layLeast_153 : decode cX3_layLeast 153 = .ok (.iaload, 1) := by decide +kernel
theorem dX3_layLeast_154 : decode cX3_layLeast 154 = .ok (.iaload, 1) := by decide +kernel
theorem dX3_layLeast_155 : decode cX3_layLeast 155 = .ok (.istore 6, 2) := by decide +kernel
theorem dX3_layLeast_157 : decode cX3_layLeast 157 = .ok (.aload_n 0, 1) := by decide +kernel
theorem dX3_layLeast_158 : decode cX3_layLeast 158 = .ok (.getfield 28, 3) := by decide +kernel
theorem dX3_layLeast_161 : decode cX3_layLeast 161 = .ok (.bipush 6, 2) := by decide +kernel
theorem dX3_layLeast_163 : decode cX3_layLeast 163 = .ok (.iload_n 1, 1) := by decide +kernel
theorem dX3_layLeast_164 : decode cX3_layLeast 164 = .ok (.aload_n 0, 1) := by decide +kernel
theorem dX3_layLeast_165 : decode cX3_layLeast 165 = .ok (.getfield 25, 3) := by decide +kernel
theorem dX3_layLeast_168 : decode cX3_layLeast 168 = .ok (.iload 4, 2) := by decide +kernel
theorem dX3_layLeast_170 : decode cX3_layLeast 170 = .ok (.iaload, 1) := by decide +kernel
theorem dX3_layLeast_171 : decode cX3_layLeast 171 = .ok (.iadd, 1) := by decide +kernel
theorem dX3_layLeast_172 : decode cX3_layLeast 172 = .ok (.imul, 1) := by decide +kernel
theorem dX3_layLeast_173 : decode cX3_layLeast 173 = .ok (.iload 6, 2) := by decide +kernel
theorem dX3_layLeast_175 : decode cX3_layLeast 175 = .ok (.iadd, 1) := by decide +kernel
theorem dX3_layLeast_176 : decode cX3_layLeast 176 = .ok (.iaload, 1) := by decide +kernel
theorem dX3_layLeast_177 : decode cX3_layLeast 177 = .ok (.iload_n 2, 1) := by decide +kernel
theorem dX3_layLeast_178 : decode cX3_layLeast 178 = .ok (.iconst 5, 1) := by decide +kernel
theorem dX3_layLeast_179 : decode cX3_layLeast 179 = .ok (.if_icmp .ge 13, 3) := by decide +kernel
theorem dX3_layLeast_182 : decode cX3_layLeast 182 = .ok (.iload_n 2, 1) := by decide +kernel
theorem dX3_layLeast_183 : decode cX3_layLeast 183 = .ok (.iload 6, 2) := by decide +kernel
theorem dX3_layLeast_185 : decode cX3_layLeast 185 = .ok (.if_icmp .eq 7, 3) := by decide +kernel
theorem dX3_layLeast_188 : decode cX3_layLeast 188 = .ok (.iconst 1, 1) := by decide +kernel
theorem dX3_layLeast_189 : decode cX3_layLeast 189 = .ok (.goto 4, 3) := by decide +kernel
theorem dX3_layLeast_192 : decode cX3_layLeast 192 = .ok (.iconst 0, 1) := by decide +kernel
theorem dX3_layLeast_193 : decode cX3_layLeast 193 = .ok (.iadd, 1) := by decide +kernel
theorem dX3_layLeast_194 : decode cX3_layLeast 194 = .ok (.istore 7, 2) := by decide +kernel
theorem dX3_layLeast_196 : decode cX3_layLeast 196 = .ok (.iload 7, 2) := by decide +kernel
theorem dX3_layLeast_198 : decode cX3_layLeast 198 = .ok (.iload_n 3, 1) := by decide +kernel
theorem dX3_layLeast_199 : decode cX3_layLeast 199 = .ok (.if_icmp .ge 8, 3) := by decide +kernel
theorem dX3_layLeast_202 : decode cX3_layLeast 202 = .ok (.iload 7, 2) := by decide +kernel
theorem dX3_layLeast_204 : decode cX3_layLeast 204 = .ok (.goto 4, 3) := by decide +kernel
theorem dX3_layLeast_207 : decode cX3_layLeast 207 = .ok (.iload_n 3, 1) := by decide +kernel
theorem dX3_layLeast_208 : decode cX3_layLeast 208 = .ok (.istore_n 3, 1) := by decide +kernel
theorem dX3_layLeast_209 : decode cX3_layLeast 209 = .ok (.iinc 4 1, 3) := by decide +kernel
theorem dX3_layLeast_212 : decode cX3_layLeast 212 = .ok (.goto (-117), 3) := by decide +kernel
theorem dX3_layLeast_215 : decode cX3_layLeast 215 = .ok (.aload_n 0, 1) := by decide +kernel
theorem dX3_layLeast_216 : decode cX3_layLeast 216 = .ok (.getfield 28, 3) := by decide +kernel
theorem dX3_layLeast_219 : decode cX3_layLeast 219 = .ok (.bipush 6, 2) := by decide +kernel
theorem dX3_layLeast_221 : decode cX3_layLeast 221 = .ok (.iload_n 1, 1) := by decide +kernel
theorem dX3_layLeast_222 : decode cX3_layLeast 222 = .ok (.imul, 1) := by decide +kernel
theorem dX3_layLeast_223 : decode cX3_layLeast 223 = .ok (.iload_n 2, 1) := by decide +kernel
theorem dX3_layLeast_224 : decode cX3_layLeast 224 = .ok (.iadd, 1) := by decide +kernel
theorem dX3_layLeast_225 : decode cX3_layLeast 225 = .ok (.iload_n 3, 1) := by decide +kernel
theorem dX3_layLeast_226 : decode cX3_layLeast 226 = .ok (.iastore, 1) := by decide +kernel
theorem dX3_layLeast_227 : decode cX3_layLeast 227 = .ok (.iinc 2 1, 3) := by decide +kernel
theorem dX3_layLeast_230 : decode cX3_layLeast 230 = .ok (.goto (-166), 3) := by decide +kernel
theorem dX3_layLeast_233 : decode cX3_layLeast 233 = .ok (.iinc 1 (-1), 3) := by decide +kernel
theorem dX3_layLeast_236 : decode cX3_layLeast 236 = .ok (.goto (-178), 3) := by decide +kernel
theorem dX3_layLeast_239 : decode cX3_layLeast 239 = .ok (.aload_n 0, 1) := by decide +kernel
theorem dX3_layLeast_240 : decode cX3_layLeast 240 = .ok (.getfield 28, 3) := by decide +kernel
theorem dX3_layLeast_243 : decode cX3_layLeast 243 = .ok (.aload_n 0, 1) := by decide +kernel
theorem dX3_layLeast_244 : decode cX3_layLeast 244 = .ok (.getfield 60, 3) := by decide +kernel
theorem dX3_layLeast_247 : decode cX3_layLeast 247 = .ok (.iconst (-1), 1) := by decide +kernel
theorem dX3_layLeast_248 : decode cX3_layLeast 248 = .ok (.if_icmp .ne 7, 3) := by decide +kernel
theorem dX3_layLeast_251 : decode cX3_layLeast 251 = .ok (.iconst 5, 1) := by decide +kernel
theorem dX3_layLeast_252 : decode cX3_layLeast 252 = .ok (.goto 7, 3) := by decide +kernel
theorem dX3_layLeast_255 : decode cX3_layLeast 255 = .ok (.aload_n 0, 1) := by decide +kernel
theorem dX3_layLeast_256 : decode cX3_layLeast 256 = .ok (.getfield 60, 3) := by decide +kernel
theorem dX3_layLeast_259 : decode cX3_layLeast 259 = .ok (.iaload, 1) := by decide +kernel
theorem dX3_layLeast_260 : decode cX3_layLeast 260 = .ok (.ireturn, 1) := by decide +kernel
set_option maxRecDepth 20000 in
theorem ggX3_releaseBest_X3_inLanes : GoodIn wsX3_releaseBest wsX3_inLanes := goodIn_r _ [12, 2, 3, 43, 44, 45, 46, 47, 48, 49, 50, 51, 52, 53, 54, 55, 56, 57, 58, 59, 60, 61] (by decide +kernel) (by decide +kernel)
set_option maxRecDepth 20000 in
theorem gX3_releaseBest_X3_inLanes : GoodIn wsX3_releaseBest (wsV RX3 121 RX3 yX3_inLanes wsX3_inLanes) := goodIn_app (goodIn_of _ (by decide +kernel)) ggX3_releaseBest_X3_inLanes
set_option maxRecDepth 20000 in
theorem ggX3_releaseBest_X3_isFull : GoodIn wsX3_releaseBest wsX3_isFull := goodIn_r _ [16, 17, 18, 19, 20, 11, 21, 22, 23, 43, 44, 45, 46, 47, 48, 49, 50, 51, 52, 53, 54, 55, 56, 57, 58, 59, 60, 61] (by decide +kernel) (by decide +kernel)
set_option maxRecDepth 20000 in
theorem gX3_releaseBest_X3_isFull : GoodIn wsX3_releaseBest (wsV RX3 114 RX3 yX3_isFull wsX3_isFull) := goodIn_app (goodIn_of _ (by decide +kernel)) ggX3_releaseBest_X3_isFull
set_option maxRecDepth 20000 in
theorem ggX3_releaseBest_X3_fails : GoodIn wsX3_releaseBest wsX3_fails := goodIn_r _ [27, 1, 43, 44, 45, 46, 47, 48, 49, 50, 51, 52, 53, 54, 55, 56, 57, 58, 59, 60, 61] (by decide +kernel) (by decide +kernel)
set_option maxRecDepth 20000 in
theorem gX3_releaseBest_X3_fails : GoodIn wsX3_releaseBest (wsV RX3 70 RX3 yX3_fails wsX3_fails) := goodIn_app (goodIn_of _ (by decide +kernel)) ggX3_releaseBest_X3_fails
set_option maxRecDepth 20000 in
theorem ggX3_releaseBest_X3_layLeast : GoodIn wsX3_releaseBest wsX3_layLeast := goodIn_r _ [31, 6, 2, 3, 4, 32, 5, 7, 43, 44, 45, 46, 47, 48, 49, 50, 51, 52, 53, 54, 55, 56, 57, 58, 59, 60, 61] (by decide +kernel) (by decide +kernel)
set_option maxRecDepth 20000 in
theorem gX3_releaseBest_X3_layLeast : GoodIn wsX3_releaseBest (wsV RX3 124 RX3 yX3_layLeast wsX3_layLeast) := goodIn_app (goodIn_of _ (by decide +kernel)) ggX3_releaseBest_X3_layLeast
set_option maxRecDepth 20000 in
theorem ggX3_releaseBest_X3_head : GoodIn wsX3_releaseBest wsX3_head := goodIn_r _ [36, 3, 32, 43, 44, 45, 46, 47, 48, 49, 50, 51, 52, 53, 54, 55, 56, 57, 58, 59, 60, 61] (by decide +kernel) (by decide +kernel)
set_option maxRecDepth 20000 in
theorem gX3_releaseBest_X3_head : GoodIn wsX3_releaseBest (wsV RX3 99 RX3 yX3_head wsX3_head) := goodIn_app (goodIn_of _ (by decide +kernel)) ggX3_releaseBest_X3_head
set_option maxRecDepth 20000 in
theorem ggX3_releaseBest_X3_take : GoodIn wsX3_releaseBest wsX3_take := goodIn_r _ [40, 32, 3, 23, 41, 42, 7, 4, 43, 44, 45, 46, 47, 48, 49, 50, 51, 52, 53, 54, 55, 56, 57, 58, 59, 60, 61] (by decide +kernel) (by decide +kernel)
set_option maxRecDepth 20000 in
theorem gX3_releaseBest_X3_take : GoodIn wsX3_releaseBest (wsV RX3 118 RX3 yX3_take wsX3_take) := goodIn_app (goodIn_of _ (by decide +kernel)) ggX3_releaseBest_X3_take
theorem dX3_releaseBest_0 : decode cX3_releaseBest 0 = .ok (.aload_n 0, 1) := by decide +kernel
theorem dX3_releaseBest_1 : decode cX3_releaseBest 1 = .ok (.iconst 0, 1) := by decide +kernel
theorem dX3_releaseBest_2 : decode cX3_releaseBest 2 = .ok (.putfield 35, 3) := by decide +kernel
theorem dX3_releaseBest_5 : decode cX3_releaseBest 5 = .ok (.aload_n 0, 1) := by decide +kernel
theorem dX3_releaseBest_6 : decode cX3_releaseBest 6 = .ok (.invokevirtual 121, 3) := by decide +kernel
theorem dX3_releaseBest_9 : decode cX3_releaseBest 9 = .ok (.ifCond .eq 19, 3) := by decide +kernel
theorem dX3_releaseBest_12 : decode cX3_releaseBest 12 = .ok (.aload_n 0, 1) := by decide +kernel
theorem dX3_releaseBest_13 : decode cX3_releaseBest 13 = .ok (.invokevirtual 121, 3) := by decide +kernel
theorem dX3_releaseBest_16 : decode cX3_releaseBest 16 = .ok (.bipush 12, 2) := by decide +kernel
theorem dX3_releaseBest_18 : decode cX3_releaseBest 18 = .ok (.if_icmp .gt 10, 3) := by decide +kernel
theorem dX3_releaseBest_21 : decode cX3_releaseBest 21 = .ok (.aload_n 0, 1) := by decide +kernel
theorem dX3_releaseBest_22 : decode cX3_releaseBest 22 = .ok (.invokevirtual 114, 3) := by decide +kernel
theorem dX3_releaseBest_25 : decode cX3_releaseBest 25 = .ok (.ifCond .eq 9, 3) := by decide +kernel
theorem dX3_releaseBest_28 : decode cX3_releaseBest 28 = .ok (.aload_n 0, 1) := by decide +kernel
theorem dX3_releaseBest_29 : decode cX3_releaseBest 29 = .ok (.iconst 1, 1) := by decide +kernel
theorem dX3_releaseBest_30 : decode cX3_releaseBest 30 = .ok (.invokevirtual 70, 3) := by decide +kernel
theorem dX3_releaseBest_33 : decode cX3_releaseBest 33 = .ok (.ireturn, 1) := by decide +kernel
theorem dX3_releaseBest_34 : decode cX3_releaseBest 34 = .ok (.aload_n 0, 1) := by decide +kernel
theorem dX3_releaseBest_35 : decode cX3_releaseBest 35 = .ok (.invokevirtual 124, 3) := by decide +kernel
theorem dX3_releaseBest_38 : decode cX3_releaseBest 38 = .ok (.istore_n 1, 1) := by decide +kernel
theorem dX3_releaseBest_39 : decode cX3_releaseBest 39 = .ok (.iconst 0, 1) := by decide +kernel
theorem dX3_releaseBest_40 : decode cX3_releaseBest 40 = .ok (.istore_n 2, 1) := by decide +kernel
theorem dX3_releaseBest_41 : decode cX3_releaseBest 41 = .ok (.iload_n 2, 1) := by decide +kernel
theorem dX3_releaseBest_42 : decode cX3_releaseBest 42 = .ok (.aload_n 0, 1) := by decide +kernel
theorem dX3_releaseBest_43 : decode cX3_releaseBest 43 = .ok (.getfield 39, 3) := by decide +kernel
theorem dX3_releaseBest_46 : decode cX3_releaseBest 46 = .ok (.if_icmp .ge 81, 3) := by decide +kernel
theorem dX3_releaseBest_49 : decode cX3_releaseBest 49 = .ok (.aload_n 0, 1) := by decide +kernel
theorem dX3_releaseBest_50 : decode cX3_releaseBest 50 = .ok (.getfield 13, 3) := by decide +kernel
theorem dX3_releaseBest_53 : decode cX3_releaseBest 53 = .ok (.iload_n 2, 1) := by decide +kernel
theorem dX3_releaseBest_54 : decode cX3_releaseBest 54 = .ok (.iaload, 1) := by decide +kernel
theorem dX3_releaseBest_55 : decode cX3_releaseBest 55 = .ok (.ifCond .le 66, 3) := by decide +kernel
theorem dX3_releaseBest_58 : decode cX3_releaseBest 58 = .ok (.aload_n 0, 1) := by decide +kernel
theorem dX3_releaseBest_59 : decode cX3_releaseBest 59 = .ok (.getfield 16, 3) := by decide +kernel
theorem dX3_releaseBest_62 : decode cX3_releaseBest 62 = .ok (.aload_n 0, 1) := by decide +kernel
theorem dX3_releaseBest_63 : decode cX3_releaseBest 63 = .ok (.iload_n 2, 1) := by decide +kernel
theorem dX3_releaseBest_64 : decode cX3_releaseBest 64 = .ok (.invokevirtual 99, 3) := by decide +kernel
theorem dX3_releaseBest_67 : decode cX3_releaseBest 67 = .ok (.iaload, 1) := by decide +kernel
theorem dX3_releaseBest_68 : decode cX3_releaseBest 68 = .ok (.istore_n 3, 1) := by decide +kernel
theorem dX3_releaseBest_69 : decode cX3_releaseBest 69 = .ok (.aload_n 0, 1) := by decide +kernel
theorem dX3_releaseBest_70 : decode cX3_releaseBest 70 = .ok (.getfield 28, 3) := by decide +kernel
theorem dX3_releaseBest_73 : decode cX3_releaseBest 73 = .ok (.bipush 6, 2) := by decide +kernel
theorem dX3_releaseBest_75 : decode cX3_releaseBest 75 = .ok (.aload_n 0, 1) := by decide +kernel
theorem dX3_releaseBest_76 : decode cX3_releaseBest 76 = .ok (.getfield 25, 3) := by decide +kernel
theorem dX3_releaseBest_79 : decode cX3_releaseBest 79 = .ok (.iload_n 2, 1) := by decide +kernel
theorem dX3_releaseBest_80 : decode cX3_releaseBest 80 = .ok (.iaload, 1) := by decide +kernel
theorem dX3_releaseBest_81 : decode cX3_releaseBest 81 = .ok (.imul, 1) := by decide +kernel
theorem dX3_releaseBest_82 : decode cX3_releaseBest 82 = .ok (.iload_n 3, 1) := by decide +kernel
theorem dX3_releaseBest_83 : decode cX3_releaseBest 83 = .ok (.iadd, 1) := by decide +kernel
theorem dX3_releaseBest_84 : decode cX3_releaseBest 84 = .ok (.iaload, 1) := by decide +kernel
theorem dX3_releaseBest_85 : decode cX3_releaseBest 85 = .ok (.aload_n 0, 1) := by decide +kernel
theorem dX3_releaseBest_86 : decode cX3_releaseBest 86 = .ok (.getfield 60, 3) := by decide +kernel
theorem dX3_releaseBest_89 : decode cX3_releaseBest 89 = .ok (.iconst (-1), 1) := by decide +kernel
theorem dX3_releaseBest_90 : decode cX3_releaseBest 90 = .ok (.if_icmp .eq 15, 3) := by decide +kernel
theorem dX3_releaseBest_93 : decode cX3_releaseBest 93 = .ok (.aload_n 0, 1) := by decide +kernel
theorem dX3_releaseBest_94 : decode cX3_releaseBest 94 = .ok (.getfield 60, 3) := by decide +kernel
theorem dX3_releaseBest_97 : decode cX3_releaseBest 97 = .ok (.iload_n 3, 1) := by decide +kernel
theorem dX3_releaseBest_98 : decode cX3_releaseBest 98 = .ok (.if_icmp .eq 7, 3) := by decide +kernel
theorem dX3_releaseBest_101 : decode cX3_releaseBest 101 = .ok (.iconst 1, 1) := by decide +kernel
theorem dX3_releaseBest_102 : decode cX3_releaseBest 102 = .ok (.goto 4, 3) := by decide +kernel
theorem dX3_releaseBest_105 : decode cX3_releaseBest 105 = .ok (.iconst 0, 1) := by decide +kernel
theorem dX3_releaseBest_106 : decode cX3_releaseBest 106 = .ok (.iadd, 1) := by decide +kernel
theorem dX3_releaseBest_107 : decode cX3_releaseBest 107 = .ok (.istore 4, 2) := by decide +kernel
theorem dX3_releaseBest_109 : decode cX3_releaseBest 109 = .ok (.iload 4, 2) := by decide +kernel
theorem dX3_releaseBest_111 : decode cX3_releaseBest 111 = .ok (.iload_n 1, 1) := by decide +kernel
theorem dX3_releaseBest_112 : decode cX3_releaseBest 112 = .ok (.if_icmp .ne 9, 3) := by decide +kernel
theorem dX3_releaseBest_115 : decode cX3_releaseBest 115 = .ok (.aload_n 0, 1) := by decide +kernel
theorem dX3_releaseBest_116 : decode cX3_releaseBest 116 = .ok (.iload_n 2, 1) := by decide +kernel
theorem dX3_releaseBest_117 : decode cX3_releaseBest 117 = .ok (.invokevirtual 118, 3) := by decide +kernel
theorem dX3_releaseBest_120 : decode cX3_releaseBest 120 = .ok (.ireturn, 1) := by decide +kernel
theorem dX3_releaseBest_121 : decode cX3_releaseBest 121 = .ok (.iinc 2 1, 3) := by decide +kernel
theorem dX3_releaseBest_124 : decode cX3_releaseBest 124 = .ok (.goto (-83), 3) := by decide +kernel
theorem dX3_releaseBest_127 : decode cX3_releaseBest 127 = .ok (.iconst (-1), 1) := by decide +kernel
theorem dX3_releaseBest_128 : decode cX3_releaseBest 128 = .ok (.ireturn, 1) := by decide +kernel
set_option maxRecDepth 20000 in
theorem ggX3_isBody_X3_in : GoodIn wsX3_isBody wsX3_in := goodIn_r _ [5] (by decide +kernel) (by decide +kernel)
set_option maxRecDepth 20000 in
theorem gX3_isBody_X3_in : GoodIn wsX3_isBody (va_wsS RX3 66 yX3_in wsX3_in) := goodIn_app (goodIn_of _ (by decide +kernel)) ggX3_isBody_X3_in
theorem dX3_isBody_0 : decode cX3_isBody 0 = .ok (.iload_n 1, 1) := by decide +kernel
theorem dX3_isBody_1 : decode cX3_isBody 1 = .ok (.iconst 0, 1) := by decide +kernel
theorem dX3_isBody_2 : decode cX3_isBody 2 = .ok (.aload_n 0, 1) := by decide +kernel
theorem dX3_isBody_3 : decode cX3_isBody 3 = .ok (.getfield 48, 3) := by decide +kernel
theorem dX3_isBody_6 : decode cX3_isBody 6 = .ok (.iconst 1, 1) := by decide +kernel
theorem dX3_isBody_7 : decode cX3_isBody 7 = .ok (.isub, 1) := by decide +kernel
theorem dX3_isBody_8 : decode cX3_isBody 8 = .ok (.invokestatic 66, 3) := by decide +kernel
theorem dX3_isBody_11 : decode cX3_isBody 11 = .ok (.ireturn, 1) := by decide +kernel
set_option maxRecDepth 20000 in
theorem ggX3_sendBack_X3_isBody : GoodIn wsX3_sendBack wsX3_isBody := goodIn_r _ [7, 8, 9, 10, 6, 11, 20, 21, 22, 23, 24, 25, 26, 27, 28, 29, 30, 31, 32, 33, 34, 35, 36, 37, 38] (by decide +kernel) (by decide +kernel)
set_option maxRecDepth 20000 in
theorem gX3_sendBack_X3_isBody : GoodIn wsX3_sendBack (wsV RX3 127 RX3 yX3_isBody wsX3_isBody) := goodIn_app (goodIn_of _ (by decide +kernel)) ggX3_sendBack_X3_isBody
set_option maxRecDepth 20000 in
theorem ggX3_sendBack_X3_fails : GoodIn wsX3_sendBack wsX3_fails := goodIn_r _ [15, 1, 20, 21, 22, 23, 24, 25, 26, 27, 28, 29, 30, 31, 32, 33, 34, 35, 36, 37, 38] (by decide +kernel) (by decide +kernel)
set_option maxRecDepth 20000 in
theorem gX3_sendBack_X3_fails : GoodIn wsX3_sendBack (wsV RX3 70 RX3 yX3_fails wsX3_fails) := goodIn_app (goodIn_of _ (by decide +kernel)) ggX3_sendBack_X3_fails
set_option maxRecDepth 20000 in
theorem ggX3_sendBack_X3_countIn : GoodIn wsX3_sendBack wsX3_countIn := goodIn_r _ [19, 8, 2, 20, 21, 22, 23, 24, 25, 26, 27, 28, 29, 30, 31, 32, 33, 34, 35, 36, 37, 38] (by decide +kernel) (by decide +kernel)
set_option maxRecDepth 20000 in
theorem gX3_sendBack_X3_countIn : GoodIn wsX3_sendBack (wsV RX3 108 RX3 yX3_countIn wsX3_countIn) := goodIn_app (goodIn_of _ (by decide +kernel)) ggX3_sendBack_X3_countIn
theorem dX3_sendBack_0 : decode cX3_sendBack 0 = .ok (.aload_n 0, 1) := by decide +kernel
theorem dX3_sendBack_1 : decode cX3_sendBack 1 = .ok (.iconst 0, 1) := by decide +kernel
theorem dX3_sendBack_2 : decode cX3_sendBack 2 = .ok (.putfield 35, 3) := by decide +kernel
theorem dX3_sendBack_5 : decode cX3_sendBack 5 = .ok (.aload_n 0, 1) := by decide +kernel
theorem dX3_sendBack_6 : decode cX3_sendBack 6 = .ok (.iload_n 1, 1) := by decide +kernel
theorem dX3_sendBack_7 : decode cX3_sendBack 7 = .ok (.invokevirtual 127, 3) := by decide +kernel
theorem dX3_sendBack_10 : decode cX3_sendBack 10 = .ok (.ifCond .ne 9, 3) := by decide +kernel
theorem dX3_sendBack_13 : decode cX3_sendBack 13 = .ok (.aload_n 0, 1) := by decide +kernel
theorem dX3_sendBack_14 : decode cX3_sendBack 14 = .ok (.iconst 1, 1) := by decide +kernel
theorem dX3_sendBack_15 : decode cX3_sendBack 15 = .ok (.invokevirtual 70, 3) := by decide +kernel
theorem dX3_sendBack_18 : decode cX3_sendBack 18 = .ok (.ireturn, 1) := by decide +kernel
theorem dX3_sendBack_19 : decode cX3_sendBack 19 = .ok (.aload_n 0, 1) := by decide +kernel
theorem dX3_sendBack_20 : decode cX3_sendBack 20 = .ok (.getfield 19, 3) := by decide +kernel
theorem dX3_sendBack_23 : decode cX3_sendBack 23 = .ok (.iload_n 1, 1) := by decide +kernel
theorem dX3_sendBack_24 : decode cX3_sendBack 24 = .ok (.iaload, 1) := by decide +kernel
theorem dX3_sendBack_25 : decode cX3_sendBack 25 = .ok (.bipush 10, 2) := by decide +kernel
theorem dX3_sendBack_27 : decode cX3_sendBack 27 = .ok (.if_icmp .eq 9, 3) := by decide +kernel
theorem dX3_sendBack_30 : decode cX3_sendBack 30 = .ok (.aload_n 0, 1) := by decide +kernel
theorem dX3_sendBack_31 : decode cX3_sendBack 31 = .ok (.iconst 2, 1) := by decide +kernel
theorem dX3_sendBack_32 : decode cX3_sendBack 32 = .ok (.invokevirtual 70, 3) := by decide +kernel
theorem dX3_sendBack_35 : decode cX3_sendBack 35 = .ok (.ireturn, 1) := by decide +kernel
theorem dX3_sendBack_36 : decode cX3_sendBack 36 = .ok (.aload_n 0, 1) := by decide +kernel
theorem dX3_sendBack_37 : decode cX3_sendBack 37 = .ok (.getfield 19, 3) := by decide +kernel
theorem dX3_sendBack_40 : decode cX3_sendBack 40 = .ok (.iload_n 1, 1) := by decide +kernel
theorem dX3_sendBack_41 : decode cX3_sendBack 41 = .ok (.bipush 11, 2) := by decide +kernel
theorem dX3_sendBack_43 : decode cX3_sendBack 43 = .ok (.iastore, 1) := by decide +kernel
theorem dX3_sendBack_44 : decode cX3_sendBack 44 = .ok (.aload_n 0, 1) := by decide +kernel
theorem dX3_sendBack_45 : decode cX3_sendBack 45 = .ok (.bipush 11, 2) := by decide +kernel
theorem dX3_sendBack_47 : decode cX3_sendBack 47 = .ok (.invokevirtual 108, 3) := by decide +kernel
theorem dX3_sendBack_50 : decode cX3_sendBack 50 = .ok (.ireturn, 1) := by decide +kernel
set_option maxRecDepth 20000 in
theorem ggX3_reenter_X3_isBody : GoodIn wsX3_reenter wsX3_isBody := goodIn_r _ [8, 9, 10, 11, 7, 12, 39, 40, 41, 42, 43, 44, 45, 46, 47, 48, 49, 50, 51, 52, 53, 54, 55, 56, 57] (by decide +kernel) (by decide +kernel)
set_option maxRecDepth 20000 in
theorem gX3_reenter_X3_isBody : GoodIn wsX3_reenter (wsV RX3 127 RX3 yX3_isBody wsX3_isBody) := goodIn_app (goodIn_of _ (by decide +kernel)) ggX3_reenter_X3_isBody
set_option maxRecDepth 20000 in
theorem ggX3_reenter_X3_fails : GoodIn wsX3_reenter wsX3_fails := goodIn_r _ [16, 1, 39, 40, 41, 42, 43, 44, 45, 46, 47, 48, 49, 50, 51, 52, 53, 54, 55, 56, 57] (by decide +kernel) (by decide +kernel)
set_option maxRecDepth 20000 in
theorem gX3_reenter_X3_fails : GoodIn wsX3_reenter (wsV RX3 70 RX3 yX3_fails wsX3_fails) := goodIn_app (goodIn_of _ (by decide +kernel)) ggX3_reenter_X3_fails
set_option maxRecDepth 20000 in
theorem ggX3_reenter_X3_laneFor : GoodIn wsX3_reenter wsX3_laneFor := goodIn_r _ [20, 21, 22, 23, 2, 24, 25, 26, 27, 28, 7, 29, 30, 31, 32, 33, 34, 39, 40, 41, 42, 43, 44, 45, 46, 47, 48, 49, 50, 51, 52, 53, 54, 55, 56, 57] (by decide +kernel) (by decide +kernel)
set_option maxRecDepth 20000 in
theorem gX3_reenter_X3_laneFor : GoodIn wsX3_reenter (wsV RX3 92 RX3 yX3_laneFor wsX3_laneFor) := goodIn_app (goodIn_of _ (by decide +kernel)) ggX3_reenter_X3_laneFor
set_option maxRecDepth 20000 in
theorem ggX3_reenter_X3_put : GoodIn wsX3_reenter wsX3_put := goodIn_r _ [38, 24, 23, 3, 25, 39, 40, 41, 42, 43, 44, 45, 46, 47, 48, 49, 50, 51, 52, 53, 54, 55, 56, 57] (by decide +kernel) (by decide +kernel)
set_option maxRecDepth 20000 in
theorem gX3_reenter_X3_put : GoodIn wsX3_reenter (wsV RX3 88 RX3 yX3_put wsX3_put) := goodIn_app (goodIn_of _ (by decide +kernel)) ggX3_reenter_X3_put
theorem dX3_reenter_0 : decode cX3_reenter 0 = .ok (.aload_n 0, 1) := by decide +kernel
theorem dX3_reenter_1 : decode cX3_reenter 1 = .ok (.iconst 0, 1) := by decide +kernel
theorem dX3_reenter_2 : decode cX3_reenter 2 = .ok (.putfield 35, 3) := by decide +kernel
theorem dX3_reenter_5 : decode cX3_reenter 5 = .ok (.aload_n 0, 1) := by decide +kernel
theorem dX3_reenter_6 : decode cX3_reenter 6 = .ok (.iload_n 1, 1) := by decide +kernel
theorem dX3_reenter_7 : decode cX3_reenter 7 = .ok (.invokevirtual 127, 3) := by decide +kernel
theorem dX3_reenter_10 : decode cX3_reenter 10 = .ok (.ifCond .ne 9, 3) := by decide +kernel
theorem dX3_reenter_13 : decode cX3_reenter 13 = .ok (.aload_n 0, 1) := by decide +kernel
theorem dX3_reenter_14 : decode cX3_reenter 14 = .ok (.iconst 1, 1) := by decide +kernel
theorem dX3_reenter_15 : decode cX3_reenter 15 = .ok (.invokevirtual 70, 3) := by decide +kernel
theorem dX3_reenter_18 : decode cX3_reenter 18 = .ok (.ireturn, 1) := by decide +kernel
theorem dX3_reenter_19 : decode cX3_reenter 19 = .ok (.aload_n 0, 1) := by decide +kernel
theorem dX3_reenter_20 : decode cX3_reenter 20 = .ok (.aload_n 0, 1) := by decide +kernel
theorem dX3_reenter_21 : decode cX3_reenter 21 = .ok (.getfield 16, 3) := by decide +kernel
theorem dX3_reenter_24 : decode cX3_reenter 24 = .ok (.iload_n 1, 1) := by decide +kernel
theorem dX3_reenter_25 : decode cX3_reenter 25 = .ok (.iaload, 1) := by decide +kernel
theorem dX3_reenter_26 : decode cX3_reenter 26 = .ok (.invokevirtual 92, 3) := by decide +kernel
theorem dX3_reenter_29 : decode cX3_reenter 29 = .ok (.istore_n 2, 1) := by decide +kernel
theorem dX3_reenter_30 : decode cX3_reenter 30 = .ok (.aload_n 0, 1) := by decide +kernel
theorem dX3_reenter_31 : decode cX3_reenter 31 = .ok (.getfield 19, 3) := by decide +kernel
theorem dX3_reenter_34 : decode cX3_reenter 34 = .ok (.iload_n 1, 1) := by decide +kernel
theorem dX3_reenter_35 : decode cX3_reenter 35 = .ok (.iaload, 1) := by decide +kernel
theorem dX3_reenter_36 : decode cX3_reenter 36 = .ok (.bipush 11, 2) := by decide +kernel
theorem dX3_reenter_38 : decode cX3_reenter 38 = .ok (.if_icmp .ne 8, 3) := by decide +kernel
theorem dX3_reenter_41 : decode cX3_reenter 41 = .ok (.iload_n 2, 1) := by decide +kernel
theorem dX3_reenter_42 : decode cX3_reenter 42 = .ok (.iconst (-1), 1) := by decide +kernel
theorem dX3_reenter_43 : decode cX3_reenter 43 = .ok (.if_icmp .ne 9, 3) := by decide +kernel
theorem dX3_reenter_46 : decode cX3_reenter 46 = .ok (.aload_n 0, 1) := by decide +kernel
theorem dX3_reenter_47 : decode cX3_reenter 47 = .ok (.iconst 2, 1) := by decide +kernel
theorem dX3_reenter_48 : decode cX3_reenter 48 = .ok (.invokevirtual 70, 3) := by decide +kernel
theorem dX3_reenter_51 : decode cX3_reenter 51 = .ok (.ireturn, 1) := by decide +kernel
theorem dX3_reenter_52 : decode cX3_reenter 52 = .ok (.aload_n 0, 1) := by decide +kernel
theorem dX3_reenter_53 : decode cX3_reenter 53 = .ok (.iload_n 1, 1) := by decide +kernel
theorem dX3_reenter_54 : decode cX3_reenter 54 = .ok (.iload_n 2, 1) := by decide +kernel
theorem dX3_reenter_55 : decode cX3_reenter 55 = .ok (.invokevirtual 88, 3) := by decide +kernel
theorem dX3_reenter_58 : decode cX3_reenter 58 = .ok (.iload_n 2, 1) := by decide +kernel
theorem dX3_reenter_59 : decode cX3_reenter 59 = .ok (.ireturn, 1) := by decide +kernel
set_option maxRecDepth 20000 in
theorem ggX3_assemble_X3_fails : GoodIn wsX3_assemble wsX3_fails := goodIn_r _ [10, 1, 11, 12, 13, 14, 15, 16, 17, 18, 19, 20, 21, 22, 23, 24, 25, 26, 27, 28, 29] (by decide +kernel) (by decide +kernel)
set_option maxRecDepth 20000 in
theorem gX3_assemble_X3_fails : GoodIn wsX3_assemble (wsV RX3 70 RX3 yX3_fails wsX3_fails) := goodIn_app (goodIn_of _ (by decide +kernel)) ggX3_assemble_X3_fails
theorem dX3_assemble_0 : decode cX3_assemble 0 = .ok (.aload_n 0, 1) := by decide +kernel
theorem dX3_assemble_1 : decode cX3_assemble 1 = .ok (.iconst 0, 1) := by decide +kernel
theorem dX3_assemble_2 : decode cX3_assemble 2 = .ok (.putfield 35, 3) := by decide +kernel
theorem dX3_assemble_5 : decode cX3_assemble 5 = .ok (.iconst 0, 1) := by decide +kernel
theorem dX3_assemble_6 : decode cX3_assemble 6 = .ok (.istore_n 1, 1) := by decide +kernel
theorem dX3_assemble_7 : decode cX3_assemble 7 = .ok (.iload_n 1, 1) := by decide +kernel
theorem dX3_assemble_8 : decode cX3_assemble 8 = .ok (.aload_n 0, 1) := by decide +kernel
theorem dX3_assemble_9 : decode cX3_assemble 9 = .ok (.getfield 48, 3) := by decide +kernel
theorem dX3_assemble_12 : decode cX3_assemble 12 = .ok (.if_icmp .ge 20, 3) := by decide +kernel
theorem dX3_assemble_15 : decode cX3_assemble 15 = .ok (.aload_n 0, 1) := by decide +kernel
theorem dX3_assemble_16 : decode cX3_assemble 16 = .ok (.getfield 19, 3) := by decide +kernel
theorem dX3_assemble_19 : decode cX3_assemble 19 = .ok (.iload_n 1, 1) := by decide +kernel
theorem dX3_assemble_20 : decode cX3_assemble 20 = .ok (.iaload, 1) := by decide +kernel
theorem dX3_assemble_21 : decode cX3_assemble 21 = .ok (.bipush 10, 2) := by decide +kernel
theorem dX3_assemble_23 : decode cX3_assemble 23 = .ok (.if_icmp .eq 9, 3) := by decide +kernel
theorem dX3_assemble_26 : decode cX3_assemble 26 = .ok (.iinc 1 1, 3) := by decide +kernel
theorem dX3_assemble_29 : decode cX3_assemble 29 = .ok (.goto (-22), 3) := by decide +kernel
theorem dX3_assemble_32 : decode cX3_assemble 32 = .ok (.iload_n 1, 1) := by decide +kernel
theorem dX3_assemble_33 : decode cX3_assemble 33 = .ok (.aload_n 0, 1) := by decide +kernel
theorem dX3_assemble_34 : decode cX3_assemble 34 = .ok (.getfield 48, 3) := by decide +kernel
theorem dX3_assemble_37 : decode cX3_assemble 37 = .ok (.if_icmp .ne 9, 3) := by decide +kernel
theorem dX3_assemble_40 : decode cX3_assemble 40 = .ok (.aload_n 0, 1) := by decide +kernel
theorem dX3_assemble_41 : decode cX3_assemble 41 = .ok (.iconst 1, 1) := by decide +kernel
theorem dX3_assemble_42 : decode cX3_assemble 42 = .ok (.invokevirtual 70, 3) := by decide +kernel
theorem dX3_assemble_45 : decode cX3_assemble 45 = .ok (.ireturn, 1) := by decide +kernel
theorem dX3_assemble_46 : decode cX3_assemble 46 = .ok (.aload_n 0, 1) := by decide +kernel
theorem dX3_assemble_47 : decode cX3_assemble 47 = .ok (.getfield 19, 3) := by decide +kernel
theorem dX3_assemble_50 : decode cX3_assemble 50 = .ok (.iload_n 1, 1) := by decide +kernel
theorem dX3_assemble_51 : decode cX3_assemble 51 = .ok (.bipush 12, 2) := by decide +kernel
theorem dX3_assemble_53 : decode cX3_assemble 53 = .ok (.iastore, 1) := by decide +kernel
theorem dX3_assemble_54 : decode cX3_assemble 54 = .ok (.aload_n 0, 1) := by decide +kernel
theorem dX3_assemble_55 : decode cX3_assemble 55 = .ok (.getfield 22, 3) := by decide +kernel
theorem dX3_assemble_58 : decode cX3_assemble 58 = .ok (.aload_n 0, 1) := by decide +kernel
theorem dX3_assemble_59 : decode cX3_assemble 59 = .ok (.getfield 51, 3) := by decide +kernel
theorem dX3_assemble_62 : decode cX3_assemble 62 = .ok (.iload_n 1, 1) := by decide +kernel
theorem dX3_assemble_63 : decode cX3_assemble 63 = .ok (.iastore, 1) := by decide +kernel
theorem dX3_assemble_64 : decode cX3_assemble 64 = .ok (.aload_n 0, 1) := by decide +kernel
theorem dX3_assemble_65 : decode cX3_assemble 65 = .ok (.dup, 1) := by decide +kernel
theorem dX3_assemble_66 : decode cX3_assemble 66 = .ok (.getfield 51, 3) := by decide +kernel
theorem dX3_assemble_69 : decode cX3_assemble 69 = .ok (.iconst 1, 1) := by decide +kernel
theorem dX3_assemble_70 : decode cX3_assemble 70 = .ok (.iadd, 1) := by decide +kernel
theorem dX3_assemble_71 : decode cX3_assemble 71 = .ok (.putfield 51, 3) := by decide +kernel
theorem dX3_assemble_74 : decode cX3_assemble 74 = .ok (.iload_n 1, 1) := by decide +kernel
theorem dX3_assemble_75 : decode cX3_assemble 75 = .ok (.ireturn, 1) := by decide +kernel
theorem dX3_bodies_0 : decode cX3_bodies 0 = .ok (.aload_n 0, 1) := by decide +kernel
theorem dX3_bodies_1 : decode cX3_bodies 1 = .ok (.iconst 0, 1) := by decide +kernel
theorem dX3_bodies_2 : decode cX3_bodies 2 = .ok (.putfield 35, 3) := by decide +kernel
theorem dX3_bodies_5 : decode cX3_bodies 5 = .ok (.aload_n 0, 1) := by decide +kernel
theorem dX3_bodies_6 : decode cX3_bodies 6 = .ok (.getfield 48, 3) := by decide +kernel
theorem dX3_bodies_9 : decode cX3_bodies 9 = .ok (.ireturn, 1) := by decide +kernel
set_option maxRecDepth 20000 in
theorem ggX3_colour_X3_isBody : GoodIn wsX3_colour wsX3_isBody := goodIn_r _ [7, 8, 9, 10, 6, 11, 16, 17, 18, 19, 20, 21, 22, 23, 24, 25, 26, 27, 28, 29, 30, 31, 32, 33, 34] (by decide +kernel) (by decide +kernel)
set_option maxRecDepth 20000 in
theorem gX3_colour_X3_isBody : GoodIn wsX3_colour (wsV RX3 127 RX3 yX3_isBody wsX3_isBody) := goodIn_app (goodIn_of _ (by decide +kernel)) ggX3_colour_X3_isBody
set_option maxRecDepth 20000 in
theorem ggX3_colour_X3_fails : GoodIn wsX3_colour wsX3_fails := goodIn_r _ [15, 1, 16, 17, 18, 19, 20, 21, 22, 23, 24, 25, 26, 27, 28, 29, 30, 31, 32, 33, 34] (by decide +kernel) (by decide +kernel)
set_option maxRecDepth 20000 in
theorem gX3_colour_X3_fails : GoodIn wsX3_colour (wsV RX3 70 RX3 yX3_fails wsX3_fails) := goodIn_app (goodIn_of _ (by decide +kernel)) ggX3_colour_X3_fails
theorem dX3_colour_0 : decode cX3_colour 0 = .ok (.aload_n 0, 1) := by decide +kernel
theorem dX3_colour_1 : decode cX3_colour 1 = .ok (.iconst 0, 1) := by decide +kernel
theorem dX3_colour_2 : decode cX3_colour 2 = .ok (.putfield 35, 3) := by decide +kernel
theorem dX3_colour_5 : decode cX3_colour 5 = .ok (.aload_n 0, 1) := by decide +kernel
theorem dX3_colour_6 : decode cX3_colour 6 = .ok (.iload_n 1, 1) := by decide +kernel
theorem dX3_colour_7 : decode cX3_colour 7 = .ok (.invokevirtual 127, 3) := by decide +kernel
theorem dX3_colour_10 : decode cX3_colour 10 = .ok (.ifCond .eq 12, 3) := by decide +kernel
theorem dX3_colour_13 : decode cX3_colour 13 = .ok (.aload_n 0, 1) := by decide +kernel
theorem dX3_colour_14 : decode cX3_colour 14 = .ok (.getfield 16, 3) := by decide +kernel
theorem dX3_colour_17 : decode cX3_colour 17 = .ok (.iload_n 1, 1) := by decide +kernel
theorem dX3_colour_18 : decode cX3_colour 18 = .ok (.iaload, 1) := by decide +kernel
theorem dX3_colour_19 : decode cX3_colour 19 = .ok (.goto 8, 3) := by decide +kernel
theorem dX3_colour_22 : decode cX3_colour 22 = .ok (.aload_n 0, 1) := by decide +kernel
theorem dX3_colour_23 : decode cX3_colour 23 = .ok (.iconst 1, 1) := by decide +kernel
theorem dX3_colour_24 : decode cX3_colour 24 = .ok (.invokevirtual 70, 3) := by decide +kernel
theorem dX3_colour_27 : decode cX3_colour 27 = .ok (.ireturn, 1) := by decide +kernel
set_option maxRecDepth 20000 in
theorem ggX3_where_X3_isBody : GoodIn wsX3_where wsX3_isBody := goodIn_r _ [7, 8, 9, 10, 6, 11, 16, 17, 18, 19, 20, 21, 22, 23, 24, 25, 26, 27, 28, 29, 30, 31, 32, 33, 34] (by decide +kernel) (by decide +kernel)
set_option maxRecDepth 20000 in
theorem gX3_where_X3_isBody : GoodIn wsX3_where (wsV RX3 127 RX3 yX3_isBody wsX3_isBody) := goodIn_app (goodIn_of _ (by decide +kernel)) ggX3_where_X3_isBody
set_option maxRecDepth 20000 in
theorem ggX3_where_X3_fails : GoodIn wsX3_where wsX3_fails := goodIn_r _ [15, 1, 16, 17, 18, 19, 20, 21, 22, 23, 24, 25, 26, 27, 28, 29, 30, 31, 32, 33, 34] (by decide +kernel) (by decide +kernel)
set_option maxRecDepth 20000 in
theorem gX3_where_X3_fails : GoodIn wsX3_where (wsV RX3 70 RX3 yX3_fails wsX3_fails) := goodIn_app (goodIn_of _ (by decide +kernel)) ggX3_where_X3_fails
theorem dX3_where_0 : decode cX3_where 0 = .ok (.aload_n 0, 1) := by decide +kernel
theorem dX3_where_1 : decode cX3_where 1 = .ok (.iconst 0, 1) := by decide +kernel
theorem dX3_where_2 : decode cX3_where 2 = .ok (.putfield 35, 3) := by decide +kernel
theorem dX3_where_5 : decode cX3_where 5 = .ok (.aload_n 0, 1) := by decide +kernel
theorem dX3_where_6 : decode cX3_where 6 = .ok (.iload_n 1, 1) := by decide +kernel
theorem dX3_where_7 : decode cX3_where 7 = .ok (.invokevirtual 127, 3) := by decide +kernel
theorem dX3_where_10 : decode cX3_where 10 = .ok (.ifCond .eq 12, 3) := by decide +kernel
theorem dX3_where_13 : decode cX3_where 13 = .ok (.aload_n 0, 1) := by decide +kernel
theorem dX3_where_14 : decode cX3_where 14 = .ok (.getfield 19, 3) := by decide +kernel
theorem dX3_where_17 : decode cX3_where 17 = .ok (.iload_n 1, 1) := by decide +kernel
theorem dX3_where_18 : decode cX3_where 18 = .ok (.iaload, 1) := by decide +kernel
theorem dX3_where_19 : decode cX3_where 19 = .ok (.goto 8, 3) := by decide +kernel
theorem dX3_where_22 : decode cX3_where 22 = .ok (.aload_n 0, 1) := by decide +kernel
theorem dX3_where_23 : decode cX3_where 23 = .ok (.iconst 1, 1) := by decide +kernel
theorem dX3_where_24 : decode cX3_where 24 = .ok (.invokevirtual 70, 3) := by decide +kernel
theorem dX3_where_27 : decode cX3_where 27 = .ok (.ireturn, 1) := by decide +kernel
set_option maxRecDepth 20000 in
theorem ggX3_inLane_X3_in : GoodIn wsX3_inLane wsX3_in := goodIn_r _ [7] (by decide +kernel) (by decide +kernel)
set_option maxRecDepth 20000 in
theorem gX3_inLane_X3_in : GoodIn wsX3_inLane (va_wsS RX3 66 yX3_in wsX3_in) := goodIn_app (goodIn_of _ (by decide +kernel)) ggX3_inLane_X3_in
set_option maxRecDepth 20000 in
theorem ggX3_inLane_X3_fails : GoodIn wsX3_inLane wsX3_fails := goodIn_r _ [11, 1, 12, 13, 14, 15, 16, 17, 18, 19, 20, 21, 22, 23, 24, 25, 26, 27, 28, 29, 30] (by decide +kernel) (by decide +kernel)
set_option maxRecDepth 20000 in
theorem gX3_inLane_X3_fails : GoodIn wsX3_inLane (wsV RX3 70 RX3 yX3_fails wsX3_fails) := goodIn_app (goodIn_of _ (by decide +kernel)) ggX3_inLane_X3_fails
theorem dX3_inLane_0 : decode cX3_inLane 0 = .ok (.aload_n 0, 1) := by decide +kernel
theorem dX3_inLane_1 : decode cX3_inLane 1 = .ok (.iconst 0, 1) := by decide +kernel
theorem dX3_inLane_2 : decode cX3_inLane 2 = .ok (.putfield 35, 3) := by decide +kernel
theorem dX3_inLane_5 : decode cX3_inLane 5 = .ok (.iload_n 1, 1) := by decide +kernel
theorem dX3_inLane_6 : decode cX3_inLane 6 = .ok (.iconst 0, 1) := by decide +kernel
theorem dX3_inLane_7 : decode cX3_inLane 7 = .ok (.aload_n 0, 1) := by decide +kernel
theorem dX3_inLane_8 : decode cX3_inLane 8 = .ok (.getfield 39, 3) := by decide +kernel
theorem dX3_inLane_11 : decode cX3_inLane 11 = .ok (.iconst 1, 1) := by decide +kernel
theorem dX3_inLane_12 : decode cX3_inLane 12 = .ok (.isub, 1) := by decide +kernel
theorem dX3_inLane_13 : decode cX3_inLane 13 = .ok (.invokestatic 66, 3) := by decide +kernel
theorem dX3_inLane_16 : decode cX3_inLane 16 = .ok (.ifCond .eq 12, 3) := by decide +kernel
theorem dX3_inLane_19 : decode cX3_inLane 19 = .ok (.aload_n 0, 1) := by decide +kernel
theorem dX3_inLane_20 : decode cX3_inLane 20 = .ok (.getfield 13, 3) := by decide +kernel
theorem dX3_inLane_23 : decode cX3_inLane 23 = .ok (.iload_n 1, 1) := by decide +kernel
theorem dX3_inLane_24 : decode cX3_inLane 24 = .ok (.iaload, 1) := by decide +kernel
theorem dX3_inLane_25 : decode cX3_inLane 25 = .ok (.goto 8, 3) := by decide +kernel
theorem dX3_inLane_28 : decode cX3_inLane 28 = .ok (.aload_n 0, 1) := by decide +kernel
theorem dX3_inLane_29 : decode cX3_inLane 29 = .ok (.iconst 1, 1) := by decide +kernel
theorem dX3_inLane_30 : decode cX3_inLane 30 = .ok (.invokevirtual 70, 3) := by decide +kernel
theorem dX3_inLane_33 : decode cX3_inLane 33 = .ok (.ireturn, 1) := by decide +kernel
set_option maxRecDepth 20000 in
theorem ggX3_bodyAt_X3_in : GoodIn wsX3_bodyAt wsX3_in := goodIn_r _ [8] (by decide +kernel) (by decide +kernel)
set_option maxRecDepth 20000 in
theorem gX3_bodyAt_X3_in : GoodIn wsX3_bodyAt (va_wsS RX3 66 yX3_in wsX3_in) := goodIn_app (goodIn_of _ (by decide +kernel)) ggX3_bodyAt_X3_in
set_option maxRecDepth 20000 in
theorem ggX3_bodyAt_X3_fails : GoodIn wsX3_bodyAt wsX3_fails := goodIn_r _ [12, 1, 13, 14, 15, 16, 17, 18, 19, 20, 21, 22, 23, 24, 25, 26, 27, 28, 29, 30, 31] (by decide +kernel) (by decide +kernel)
set_option maxRecDepth 20000 in
theorem gX3_bodyAt_X3_fails : GoodIn wsX3_bodyAt (wsV RX3 70 RX3 yX3_fails wsX3_fails) := goodIn_app (goodIn_of _ (by decide +kernel)) ggX3_bodyAt_X3_fails
theorem dX3_bodyAt_0 : decode cX3_bodyAt 0 = .ok (.aload_n 0, 1) := by decide +kernel
theorem dX3_bodyAt_1 : decode cX3_bodyAt 1 = .ok (.iconst 0, 1) := by decide +kernel
theorem dX3_bodyAt_2 : decode cX3_bodyAt 2 = .ok (.putfield 35, 3) := by decide +kernel
theorem dX3_bodyAt_5 : decode cX3_bodyAt 5 = .ok (.iload_n 1, 1) := by decide +kernel
theorem dX3_bodyAt_6 : decode cX3_bodyAt 6 = .ok (.iconst 0, 1) := by decide +kernel
theorem dX3_bodyAt_7 : decode cX3_bodyAt 7 = .ok (.aload_n 0, 1) := by decide +kernel
theorem dX3_bodyAt_8 : decode cX3_bodyAt 8 = .ok (.getfield 39, 3) := by decide +kernel
theorem dX3_bodyAt_11 : decode cX3_bodyAt 11 = .ok (.iconst 1, 1) := by decide +kernel
theorem dX3_bodyAt_12 : decode cX3_bodyAt 12 = .ok (.isub, 1) := by decide +kernel
theorem dX3_bodyAt_13 : decode cX3_bodyAt 13 = .ok (.invokestatic 66, 3) := by decide +kernel
theorem dX3_bodyAt_16 : decode cX3_bodyAt 16 = .ok (.ifCond .eq 33, 3) := by decide +kernel
theorem dX3_bodyAt_19 : decode cX3_bodyAt 19 = .ok (.iload_n 2, 1) := by decide +kernel
theorem dX3_bodyAt_20 : decode cX3_bodyAt 20 = .ok (.iconst 0, 1) := by decide +kernel
theorem dX3_bodyAt_21 : decode cX3_bodyAt 21 = .ok (.aload_n 0, 1) := by decide +kernel
theorem dX3_bodyAt_22 : decode cX3_bodyAt 22 = .ok (.getfield 13, 3) := by decide +kernel
theorem dX3_bodyAt_25 : decode cX3_bodyAt 25 = .ok (.iload_n 1, 1) := by decide +kernel
theorem dX3_bodyAt_26 : decode cX3_bodyAt 26 = .ok (.iaload, 1) := by decide +kernel
theorem dX3_bodyAt_27 : decode cX3_bodyAt 27 = .ok (.iconst 1, 1) := by decide +kernel
theorem dX3_bodyAt_28 : decode cX3_bodyAt 28 = .ok (.isub, 1) := by decide +kernel
theorem dX3_bodyAt_29 : decode cX3_bodyAt 29 = .ok (.invokestatic 66, 3) := by decide +kernel
theorem dX3_bodyAt_32 : decode cX3_bodyAt 32 = .ok (.ifCond .eq 17, 3) := by decide +kernel
theorem dX3_bodyAt_35 : decode cX3_bodyAt 35 = .ok (.aload_n 0, 1) := by decide +kernel
theorem dX3_bodyAt_36 : decode cX3_bodyAt 36 = .ok (.getfield 7, 3) := by decide +kernel
theorem dX3_bodyAt_39 : decode cX3_bodyAt 39 = .ok (.bipush 6, 2) := by decide +kernel
theorem dX3_bodyAt_41 : decode cX3_bodyAt 41 = .ok (.iload_n 1, 1) := by decide +kernel
theorem dX3_bodyAt_42 : decode cX3_bodyAt 42 = .ok (.imul, 1) := by decide +kernel
theorem dX3_bodyAt_43 : decode cX3_bodyAt 43 = .ok (.iload_n 2, 1) := by decide +kernel
theorem dX3_bodyAt_44 : decode cX3_bodyAt 44 = .ok (.iadd, 1) := by decide +kernel
theorem dX3_bodyAt_45 : decode cX3_bodyAt 45 = .ok (.iaload, 1) := by decide +kernel
theorem dX3_bodyAt_46 : decode cX3_bodyAt 46 = .ok (.goto 8, 3) := by decide +kernel
theorem dX3_bodyAt_49 : decode cX3_bodyAt 49 = .ok (.aload_n 0, 1) := by decide +kernel
theorem dX3_bodyAt_50 : decode cX3_bodyAt 50 = .ok (.iconst 1, 1) := by decide +kernel
theorem dX3_bodyAt_51 : decode cX3_bodyAt 51 = .ok (.invokevirtual 70, 3) := by decide +kernel
theorem dX3_bodyAt_54 : decode cX3_bodyAt 54 = .ok (.ireturn, 1) := by decide +kernel
set_option maxRecDepth 20000 in
theorem ggX3_block_X3_in : GoodIn wsX3_block wsX3_in := goodIn_r _ [6] (by decide +kernel) (by decide +kernel)
set_option maxRecDepth 20000 in
theorem gX3_block_X3_in : GoodIn wsX3_block (va_wsS RX3 66 yX3_in wsX3_in) := goodIn_app (goodIn_of _ (by decide +kernel)) ggX3_block_X3_in
set_option maxRecDepth 20000 in
theorem ggX3_block_X3_blockOf : GoodIn wsX3_block wsX3_blockOf := goodIn_r _ [10, 11, 12, 13, 18, 19, 20, 21, 22, 23, 24, 25, 26, 27, 28, 29, 30, 31, 32, 33, 34, 35, 36] (by decide +kernel) (by decide +kernel)
set_option maxRecDepth 20000 in
theorem gX3_block_X3_blockOf : GoodIn wsX3_block (wsV RX3 102 RX3 yX3_blockOf wsX3_blockOf) := goodIn_app (goodIn_of _ (by decide +kernel)) ggX3_block_X3_blockOf
set_option maxRecDepth 20000 in
theorem ggX3_block_X3_fails : GoodIn wsX3_block wsX3_fails := goodIn_r _ [17, 1, 18, 19, 20, 21, 22, 23, 24, 25, 26, 27, 28, 29, 30, 31, 32, 33, 34, 35, 36] (by decide +kernel) (by decide +kernel)
set_option maxRecDepth 20000 in
theorem gX3_block_X3_fails : GoodIn wsX3_block (wsV RX3 70 RX3 yX3_fails wsX3_fails) := goodIn_app (goodIn_of _ (by decide +kernel)) ggX3_block_X3_fails
theorem dX3_block_0 : decode cX3_block 0 = .ok (.aload_n 0, 1) := by decide +kernel
theorem dX3_block_1 : decode cX3_block 1 = .ok (.iconst 0, 1) := by decide +kernel
theorem dX3_block_2 : decode cX3_block 2 = .ok (.putfield 35, 3) := by decide +kernel
theorem dX3_block_5 : decode cX3_block 5 = .ok (.iload_n 1, 1) := by decide +kernel
theorem dX3_block_6 : decode cX3_block 6 = .ok (.iconst 0, 1) := by decide +kernel
theorem dX3_block_7 : decode cX3_block 7 = .ok (.aload_n 0, 1) := by decide +kernel
theorem dX3_block_8 : decode cX3_block 8 = .ok (.getfield 39, 3) := by decide +kernel
theorem dX3_block_11 : decode cX3_block 11 = .ok (.iconst 1, 1) := by decide +kernel
theorem dX3_block_12 : decode cX3_block 12 = .ok (.isub, 1) := by decide +kernel
theorem dX3_block_13 : decode cX3_block 13 = .ok (.invokestatic 66, 3) := by decide +kernel
theorem dX3_block_16 : decode cX3_block 16 = .ok (.ifCond .eq 11, 3) := by decide +kernel
theorem dX3_block_19 : decode cX3_block 19 = .ok (.aload_n 0, 1) := by decide +kernel
theorem dX3_block_20 : decode cX3_block 20 = .ok (.iload_n 1, 1) := by decide +kernel
theorem dX3_block_21 : decode cX3_block 21 = .ok (.invokevirtual 102, 3) := by decide +kernel
theorem dX3_block_24 : decode cX3_block 24 = .ok (.goto 8, 3) := by decide +kernel
theorem dX3_block_27 : decode cX3_block 27 = .ok (.aload_n 0, 1) := by decide +kernel
theorem dX3_block_28 : decode cX3_block 28 = .ok (.iconst 1, 1) := by decide +kernel
theorem dX3_block_29 : decode cX3_block 29 = .ok (.invokevirtual 70, 3) := by decide +kernel
theorem dX3_block_32 : decode cX3_block 32 = .ok (.ireturn, 1) := by decide +kernel
set_option maxRecDepth 20000 in
theorem ggX3_stored_X3_countIn : GoodIn wsX3_stored wsX3_countIn := goodIn_r _ [6, 7, 8, 9, 10, 11, 12, 13, 14, 15, 16, 17, 18, 19, 20, 21, 22, 23, 24, 25, 26, 27] (by decide +kernel) (by decide +kernel)
set_option maxRecDepth 20000 in
theorem gX3_stored_X3_countIn : GoodIn wsX3_stored (wsV RX3 108 RX3 yX3_countIn wsX3_countIn) := goodIn_app (goodIn_of _ (by decide +kernel)) ggX3_stored_X3_countIn
theorem dX3_stored_0 : decode cX3_stored 0 = .ok (.aload_n 0, 1) := by decide +kernel
theorem dX3_stored_1 : decode cX3_stored 1 = .ok (.iconst 0, 1) := by decide +kernel
theorem dX3_stored_2 : decode cX3_stored 2 = .ok (.putfield 35, 3) := by decide +kernel
theorem dX3_stored_5 : decode cX3_stored 5 = .ok (.aload_n 0, 1) := by decide +kernel
theorem dX3_stored_6 : decode cX3_stored 6 = .ok (.bipush 10, 2) := by decide +kernel
theorem dX3_stored_8 : decode cX3_stored 8 = .ok (.invokevirtual 108, 3) := by decide +kernel
theorem dX3_stored_11 : decode cX3_stored 11 = .ok (.ireturn, 1) := by decide +kernel
theorem dX3_changes_0 : decode cX3_changes 0 = .ok (.aload_n 0, 1) := by decide +kernel
theorem dX3_changes_1 : decode cX3_changes 1 = .ok (.iconst 0, 1) := by decide +kernel
theorem dX3_changes_2 : decode cX3_changes 2 = .ok (.putfield 35, 3) := by decide +kernel
theorem dX3_changes_5 : decode cX3_changes 5 = .ok (.aload_n 0, 1) := by decide +kernel
theorem dX3_changes_6 : decode cX3_changes 6 = .ok (.getfield 57, 3) := by decide +kernel
theorem dX3_changes_9 : decode cX3_changes 9 = .ok (.ireturn, 1) := by decide +kernel
theorem dX3_released_0 : decode cX3_released 0 = .ok (.aload_n 0, 1) := by decide +kernel
theorem dX3_released_1 : decode cX3_released 1 = .ok (.iconst 0, 1) := by decide +kernel
theorem dX3_released_2 : decode cX3_released 2 = .ok (.putfield 35, 3) := by decide +kernel
theorem dX3_released_5 : decode cX3_released 5 = .ok (.aload_n 0, 1) := by decide +kernel
theorem dX3_released_6 : decode cX3_released 6 = .ok (.getfield 54, 3) := by decide +kernel
theorem dX3_released_9 : decode cX3_released 9 = .ok (.ireturn, 1) := by decide +kernel
set_option maxRecDepth 20000 in
theorem ggX3_assembledAt_X3_in : GoodIn wsX3_assembledAt wsX3_in := goodIn_r _ [7] (by decide +kernel) (by decide +kernel)
set_option maxRecDepth 20000 in
theorem gX3_assembledAt_X3_in : GoodIn wsX3_assembledAt (va_wsS RX3 66 yX3_in wsX3_in) := goodIn_app (goodIn_of _ (by decide +kernel)) ggX3_assembledAt_X3_in
set_option maxRecDepth 20000 in
theorem ggX3_assembledAt_X3_fails : GoodIn wsX3_assembledAt wsX3_fails := goodIn_r _ [11, 1, 12, 13, 14, 15, 16, 17, 18, 19, 20, 21, 22, 23, 24, 25, 26, 27, 28, 29, 30] (by decide +kernel) (by decide +kernel)
set_option maxRecDepth 20000 in
theorem gX3_assembledAt_X3_fails : GoodIn wsX3_assembledAt (wsV RX3 70 RX3 yX3_fails wsX3_fails) := goodIn_app (goodIn_of _ (by decide +kernel)) ggX3_assembledAt_X3_fails
theorem dX3_assembledAt_0 : decode cX3_assembledAt 0 = .ok (.aload_n 0, 1) := by decide +kernel
theorem dX3_assembledAt_1 : decode cX3_assembledAt 1 = .ok (.iconst 0, 1) := by decide +kernel
theorem dX3_assembledAt_2 : decode cX3_assembledAt 2 = .ok (.putfield 35, 3) := by decide +kernel
theorem dX3_assembledAt_5 : decode cX3_assembledAt 5 = .ok (.iload_n 1, 1) := by decide +kernel
theorem dX3_assembledAt_6 : decode cX3_assembledAt 6 = .ok (.iconst 0, 1) := by decide +kernel
theorem dX3_assembledAt_7 : decode cX3_assembledAt 7 = .ok (.aload_n 0, 1) := by decide +kernel
theorem dX3_assembledAt_8 : decode cX3_assembledAt 8 = .ok (.getfield 51, 3) := by decide +kernel
theorem dX3_assembledAt_11 : decode cX3_assembledAt 11 = .ok (.iconst 1, 1) := by decide +kernel
theorem dX3_assembledAt_12 : decode cX3_assembledAt 12 = .ok (.isub, 1) := by decide +kernel
theorem dX3_assembledAt_13 : decode cX3_assembledAt 13 = .ok (.invokestatic 66, 3) := by decide +kernel
theorem dX3_assembledAt_16 : decode cX3_assembledAt 16 = .ok (.ifCond .eq 12, 3) := by decide +kernel
theorem dX3_assembledAt_19 : decode cX3_assembledAt 19 = .ok (.aload_n 0, 1) := by decide +kernel
theorem dX3_assembledAt_20 : decode cX3_assembledAt 20 = .ok (.getfield 22, 3) := by decide +kernel
theorem dX3_assembledAt_23 : decode cX3_assembledAt 23 = .ok (.iload_n 1, 1) := by decide +kernel
theorem dX3_assembledAt_24 : decode cX3_assembledAt 24 = .ok (.iaload, 1) := by decide +kernel
theorem dX3_assembledAt_25 : decode cX3_assembledAt 25 = .ok (.goto 8, 3) := by decide +kernel
theorem dX3_assembledAt_28 : decode cX3_assembledAt 28 = .ok (.aload_n 0, 1) := by decide +kernel
theorem dX3_assembledAt_29 : decode cX3_assembledAt 29 = .ok (.iconst 1, 1) := by decide +kernel
theorem dX3_assembledAt_30 : decode cX3_assembledAt 30 = .ok (.invokevirtual 70, 3) := by decide +kernel
theorem dX3_assembledAt_33 : decode cX3_assembledAt 33 = .ok (.ireturn, 1) := by decide +kernel
theorem dX3_latenessOf_0 : decode cX3_latenessOf 0 = .ok (.iconst 0, 1) := by decide +kernel
theorem dX3_latenessOf_1 : decode cX3_latenessOf 1 = .ok (.istore_n 2, 1) := by decide +kernel
theorem dX3_latenessOf_2 : decode cX3_latenessOf 2 = .ok (.aload_n 0, 1) := by decide +kernel
theorem dX3_latenessOf_3 : decode cX3_latenessOf 3 = .ok (.getfield 22, 3) := by decide +kernel
theorem dX3_latenessOf_6 : decode cX3_latenessOf 6 = .ok (.iload_n 2, 1) := by decide +kernel
theorem dX3_latenessOf_7 : decode cX3_latenessOf 7 = .ok (.iaload, 1) := by decide +kernel
theorem dX3_latenessOf_8 : decode cX3_latenessOf 8 = .ok (.iload_n 1, 1) := by decide +kernel
theorem dX3_latenessOf_9 : decode cX3_latenessOf 9 = .ok (.if_icmp .eq 9, 3) := by decide +kernel
theorem dX3_latenessOf_12 : decode cX3_latenessOf 12 = .ok (.iinc 2 1, 3) := by decide +kernel
theorem dX3_latenessOf_15 : decode cX3_latenessOf 15 = .ok (.goto (-13), 3) := by decide +kernel
theorem dX3_latenessOf_18 : decode cX3_latenessOf 18 = .ok (.iload_n 2, 1) := by decide +kernel
theorem dX3_latenessOf_19 : decode cX3_latenessOf 19 = .ok (.iload_n 1, 1) := by decide +kernel
theorem dX3_latenessOf_20 : decode cX3_latenessOf 20 = .ok (.isub, 1) := by decide +kernel
theorem dX3_latenessOf_21 : decode cX3_latenessOf 21 = .ok (.ireturn, 1) := by decide +kernel
set_option maxRecDepth 20000 in
theorem ggX3_lateness_X3_isBody : GoodIn wsX3_lateness wsX3_isBody := goodIn_r _ [7, 8, 9, 10, 6, 11, 21, 22, 23, 24, 25, 26, 27, 28, 29, 30, 31, 32, 33, 34, 35, 36, 37, 38, 39] (by decide +kernel) (by decide +kernel)
set_option maxRecDepth 20000 in
theorem gX3_lateness_X3_isBody : GoodIn wsX3_lateness (wsV RX3 127 RX3 yX3_isBody wsX3_isBody) := goodIn_app (goodIn_of _ (by decide +kernel)) ggX3_lateness_X3_isBody
set_option maxRecDepth 20000 in
theorem ggX3_lateness_X3_fails : GoodIn wsX3_lateness wsX3_fails := goodIn_r _ [15, 1, 21, 22, 23, 24, 25, 26, 27, 28, 29, 30, 31, 32, 33, 34, 35, 36, 37, 38, 39] (by decide +kernel) (by decide +kernel)
set_option maxRecDepth 20000 in
theorem gX3_lateness_X3_fails : GoodIn wsX3_lateness (wsV RX3 70 RX3 yX3_fails wsX3_fails) := goodIn_app (goodIn_of _ (by decide +kernel)) ggX3_lateness_X3_fails
set_option maxRecDepth 20000 in
theorem ggX3_lateness_X3_latenessOf : GoodIn wsX3_lateness wsX3_latenessOf := goodIn_r _ [19, 20, 21, 22, 23, 24, 25, 26, 27, 28, 29, 30, 31, 32, 33, 34, 35, 36, 37, 38, 39] (by decide +kernel) (by decide +kernel)
set_option maxRecDepth 20000 in
theorem gX3_lateness_X3_latenessOf : GoodIn wsX3_lateness (wsV RX3 130 RX3 yX3_latenessOf wsX3_latenessOf) := goodIn_app (goodIn_of _ (by decide +kernel)) ggX3_lateness_X3_latenessOf
theorem dX3_lateness_0 : decode cX3_lateness 0 = .ok (.aload_n 0, 1) := by decide +kernel
theorem dX3_lateness_1 : decode cX3_lateness 1 = .ok (.iconst 0, 1) := by decide +kernel
theorem dX3_lateness_2 : decode cX3_lateness 2 = .ok (.putfield 35, 3) := by decide +kernel
theorem dX3_lateness_5 : decode cX3_lateness 5 = .ok (.aload_n 0, 1) := by decide +kernel
theorem dX3_lateness_6 : decode cX3_lateness 6 = .ok (.iload_n 1, 1) := by decide +kernel
theorem dX3_lateness_7 : decode cX3_lateness 7 = .ok (.invokevirtual 127, 3) := by decide +kernel
theorem dX3_lateness_10 : decode cX3_lateness 10 = .ok (.ifCond .ne 9, 3) := by decide +kernel
theorem dX3_lateness_13 : decode cX3_lateness 13 = .ok (.aload_n 0, 1) := by decide +kernel
theorem dX3_lateness_14 : decode cX3_lateness 14 = .ok (.iconst 1, 1) := by decide +kernel
theorem dX3_lateness_15 : decode cX3_lateness 15 = .ok (.invokevirtual 70, 3) := by decide +kernel
theorem dX3_lateness_18 : decode cX3_lateness 18 = .ok (.ireturn, 1) := by decide +kernel
theorem dX3_lateness_19 : decode cX3_lateness 19 = .ok (.aload_n 0, 1) := by decide +kernel
theorem dX3_lateness_20 : decode cX3_lateness 20 = .ok (.getfield 19, 3) := by decide +kernel
theorem dX3_lateness_23 : decode cX3_lateness 23 = .ok (.iload_n 1, 1) := by decide +kernel
theorem dX3_lateness_24 : decode cX3_lateness 24 = .ok (.iaload, 1) := by decide +kernel
theorem dX3_lateness_25 : decode cX3_lateness 25 = .ok (.bipush 12, 2) := by decide +kernel
theorem dX3_lateness_27 : decode cX3_lateness 27 = .ok (.if_icmp .ne 11, 3) := by decide +kernel
theorem dX3_lateness_30 : decode cX3_lateness 30 = .ok (.aload_n 0, 1) := by decide +kernel
theorem dX3_lateness_31 : decode cX3_lateness 31 = .ok (.iload_n 1, 1) := by decide +kernel
theorem dX3_lateness_32 : decode cX3_lateness 32 = .ok (.invokevirtual 130, 3) := by decide +kernel
theorem dX3_lateness_35 : decode cX3_lateness 35 = .ok (.goto 8, 3) := by decide +kernel
theorem dX3_lateness_38 : decode cX3_lateness 38 = .ok (.aload_n 0, 1) := by decide +kernel
theorem dX3_lateness_39 : decode cX3_lateness 39 = .ok (.iconst 2, 1) := by decide +kernel
theorem dX3_lateness_40 : decode cX3_lateness 40 = .ok (.invokevirtual 70, 3) := by decide +kernel
theorem dX3_lateness_43 : decode cX3_lateness 43 = .ok (.ireturn, 1) := by decide +kernel
theorem dX3_worstLateness_0 : decode cX3_worstLateness 0 = .ok (.aload_n 0, 1) := by decide +kernel
theorem dX3_worstLateness_1 : decode cX3_worstLateness 1 = .ok (.iconst 0, 1) := by decide +kernel
theorem dX3_worstLateness_2 : decode cX3_worstLateness 2 = .ok (.putfield 35, 3) := by decide +kernel
theorem dX3_worstLateness_5 : decode cX3_worstLateness 5 = .ok (.iconst 0, 1) := by decide +kernel
theorem dX3_worstLateness_6 : decode cX3_worstLateness 6 = .ok (.istore_n 1, 1) := by decide +kernel
theorem dX3_worstLateness_7 : decode cX3_worstLateness 7 = .ok (.iconst 0, 1) := by decide +kernel
theorem dX3_worstLateness_8 : decode cX3_worstLateness 8 = .ok (.istore_n 2, 1) := by decide +kernel
theorem dX3_worstLateness_9 : decode cX3_worstLateness 9 = .ok (.iload_n 2, 1) := by decide +kernel
theorem dX3_worstLateness_10 : decode cX3_worstLateness 10 = .ok (.aload_n 0, 1) := by decide +kernel
theorem dX3_worstLateness_11 : decode cX3_worstLateness 11 = .ok (.getfield 51, 3) := by decide +kernel
theorem dX3_worstLateness_14 : decode cX3_worstLateness 14 = .ok (.if_icmp .ge 34, 3) := by decide +kernel
theorem dX3_worstLateness_17 : decode cX3_worstLateness 17 = .ok (.iload_n 2, 1) := by decide +kernel
theorem dX3_worstLateness_18 : decode cX3_worstLateness 18 = .ok (.aload_n 0, 1) := by decide +kernel
theorem dX3_worstLateness_19 : decode cX3_worstLateness 19 = .ok (.getfield 22, 3) := by decide +kernel
theorem dX3_worstLateness_22 : decode cX3_worstLateness 22 = .ok (.iload_n 2, 1) := by decide +kernel
theorem dX3_worstLateness_23 : decode cX3_worstLateness 23 = .ok (.iaload, 1) := by decide +kernel
theorem dX3_worstLateness_24 : decode cX3_worstLateness 24 = .ok (.isub, 1) := by decide +kernel
theorem dX3_worstLateness_25 : decode cX3_worstLateness 25 = .ok (.iload_n 1, 1) := by decide +kernel
theorem dX3_worstLateness_26 : decode cX3_worstLateness 26 = .ok (.if_icmp .le 14, 3) := by decide +kernel
theorem dX3_worstLateness_29 : decode cX3_worstLateness 29 = .ok (.iload_n 2, 1) := by decide +kernel
theorem dX3_worstLateness_30 : decode cX3_worstLateness 30 = .ok (.aload_n 0, 1) := by decide +kernel
theorem dX3_worstLateness_31 : decode cX3_worstLateness 31 = .ok (.getfield 22, 3) := by decide +kernel
theorem dX3_worstLateness_34 : decode cX3_worstLateness 34 = .ok (.iload_n 2, 1) := by decide +kernel
theorem dX3_worstLateness_35 : decode cX3_worstLateness 35 = .ok (.iaload, 1) := by decide +kernel
theorem dX3_worstLateness_36 : decode cX3_worstLateness 36 = .ok (.isub, 1) := by decide +kernel
theorem dX3_worstLateness_37 : decode cX3_worstLateness 37 = .ok (.goto 4, 3) := by decide +kernel
theorem dX3_worstLateness_40 : decode cX3_worstLateness 40 = .ok (.iload_n 1, 1) := by decide +kernel
theorem dX3_worstLateness_41 : decode cX3_worstLateness 41 = .ok (.istore_n 1, 1) := by decide +kernel
theorem dX3_worstLateness_42 : decode cX3_worstLateness 42 = .ok (.iinc 2 1, 3) := by decide +kernel
theorem dX3_worstLateness_45 : decode cX3_worstLateness 45 = .ok (.goto (-36), 3) := by decide +kernel
theorem dX3_worstLateness_48 : decode cX3_worstLateness 48 = .ok (.iload_n 1, 1) := by decide +kernel
theorem dX3_worstLateness_49 : decode cX3_worstLateness 49 = .ok (.ireturn, 1) := by decide +kernel
set_option maxRecDepth 20000 in
theorem ggX3_fewestChanges_X3_inLanes : GoodIn wsX3_fewestChanges wsX3_inLanes := goodIn_r _ [6, 7, 8, 22, 23, 24, 25, 26, 27, 28, 29, 30, 31, 32, 33, 34, 35, 36, 37, 38, 39, 40] (by decide +kernel) (by decide +kernel)
set_option maxRecDepth 20000 in
theorem gX3_fewestChanges_X3_inLanes : GoodIn wsX3_fewestChanges (wsV RX3 121 RX3 yX3_inLanes wsX3_inLanes) := goodIn_app (goodIn_of _ (by decide +kernel)) ggX3_fewestChanges_X3_inLanes
set_option maxRecDepth 20000 in
theorem ggX3_fewestChanges_X3_fails : GoodIn wsX3_fewestChanges wsX3_fails := goodIn_r _ [12, 1, 22, 23, 24, 25, 26, 27, 28, 29, 30, 31, 32, 33, 34, 35, 36, 37, 38, 39, 40] (by decide +kernel) (by decide +kernel)
set_option maxRecDepth 20000 in
theorem gX3_fewestChanges_X3_fails : GoodIn wsX3_fewestChanges (wsV RX3 70 RX3 yX3_fails wsX3_fails) := goodIn_app (goodIn_of _ (by decide +kernel)) ggX3_fewestChanges_X3_fails
set_option maxRecDepth 20000 in
theorem ggX3_fewestChanges_X3_layLeast : GoodIn wsX3_fewestChanges wsX3_layLeast := goodIn_r _ [16, 17, 7, 8, 18, 19, 20, 21, 22, 23, 24, 25, 26, 27, 28, 29, 30, 31, 32, 33, 34, 35, 36, 37, 38, 39, 40] (by decide +kernel) (by decide +kernel)
set_option maxRecDepth 20000 in
theorem gX3_fewestChanges_X3_layLeast : GoodIn wsX3_fewestChanges (wsV RX3 124 RX3 yX3_layLeast wsX3_layLeast) := goodIn_app (goodIn_of _ (by decide +kernel)) ggX3_fewestChanges_X3_layLeast
theorem dX3_fewestChanges_0 : decode cX3_fewestChanges 0 = .ok (.aload_n 0, 1) := by decide +kernel
theorem dX3_fewestChanges_1 : decode cX3_fewestChanges 1 = .ok (.iconst 0, 1) := by decide +kernel
theorem dX3_fewestChanges_2 : decode cX3_fewestChanges 2 = .ok (.putfield 35, 3) := by decide +kernel
theorem dX3_fewestChanges_5 : decode cX3_fewestChanges 5 = .ok (.aload_n 0, 1) := by decide +kernel
theorem dX3_fewestChanges_6 : decode cX3_fewestChanges 6 = .ok (.invokevirtual 121, 3) := by decide +kernel
theorem dX3_fewestChanges_9 : decode cX3_fewestChanges 9 = .ok (.bipush 12, 2) := by decide +kernel
theorem dX3_fewestChanges_11 : decode cX3_fewestChanges 11 = .ok (.if_icmp .le 11, 3) := by decide +kernel
theorem dX3_fewestChanges_14 : decode cX3_fewestChanges 14 = .ok (.aload_n 0, 1) := by decide +kernel
theorem dX3_fewestChanges_15 : decode cX3_fewestChanges 15 = .ok (.iconst 1, 1) := by decide +kernel
theorem dX3_fewestChanges_16 : decode cX3_fewestChanges 16 = .ok (.invokevirtual 70, 3) := by decide +kernel
theorem dX3_fewestChanges_19 : decode cX3_fewestChanges 19 = .ok (.goto 7, 3) := by decide +kernel
theorem dX3_fewestChanges_22 : decode cX3_fewestChanges 22 = .ok (.aload_n 0, 1) := by decide +kernel
theorem dX3_fewestChanges_23 : decode cX3_fewestChanges 23 = .ok (.invokevirtual 124, 3) := by decide +kernel
theorem dX3_fewestChanges_26 : decode cX3_fewestChanges 26 = .ok (.ireturn, 1) := by decide +kernel
set_option maxRecDepth 20000 in
theorem ggX3_fewestByAll_X3_inLanes : GoodIn wsX3_fewestByAll wsX3_inLanes := goodIn_r _ [6, 7, 8, 22, 23, 24, 25, 26, 27, 28, 29, 30, 31, 32, 33, 34, 35, 36, 37, 38, 39, 40] (by decide +kernel) (by decide +kernel)
set_option maxRecDepth 20000 in
theorem gX3_fewestByAll_X3_inLanes : GoodIn wsX3_fewestByAll (wsV RX3 121 RX3 yX3_inLanes wsX3_inLanes) := goodIn_app (goodIn_of _ (by decide +kernel)) ggX3_fewestByAll_X3_inLanes
set_option maxRecDepth 20000 in
theorem ggX3_fewestByAll_X3_fails : GoodIn wsX3_fewestByAll wsX3_fails := goodIn_r _ [12, 1, 22, 23, 24, 25, 26, 27, 28, 29, 30, 31, 32, 33, 34, 35, 36, 37, 38, 39, 40] (by decide +kernel) (by decide +kernel)
set_option maxRecDepth 20000 in
theorem gX3_fewestByAll_X3_fails : GoodIn wsX3_fewestByAll (wsV RX3 70 RX3 yX3_fails wsX3_fails) := goodIn_app (goodIn_of _ (by decide +kernel)) ggX3_fewestByAll_X3_fails
set_option maxRecDepth 20000 in
theorem ggX3_fewestByAll_X3_layLeast : GoodIn wsX3_fewestByAll wsX3_layLeast := goodIn_r _ [16, 17, 7, 8, 18, 19, 20, 21, 22, 23, 24, 25, 26, 27, 28, 29, 30, 31, 32, 33, 34, 35, 36, 37, 38, 39, 40] (by decide +kernel) (by decide +kernel)
set_option maxRecDepth 20000 in
theorem gX3_fewestByAll_X3_layLeast : GoodIn wsX3_fewestByAll (wsV RX3 124 RX3 yX3_layLeast wsX3_layLeast) := goodIn_app (goodIn_of _ (by decide +kernel)) ggX3_fewestByAll_X3_layLeast
theorem dX3_fewestByAll_0 : decode cX3_fewestByAll 0 = .ok (.aload_n 0, 1) := by decide +kernel
theorem dX3_fewestByAll_1 : decode cX3_fewestByAll 1 = .ok (.iconst 0, 1) := by decide +kernel
theorem dX3_fewestByAll_2 : decode cX3_fewestByAll 2 = .ok (.putfield 35, 3) := by decide +kernel
theorem dX3_fewestByAll_5 : decode cX3_fewestByAll 5 = .ok (.aload_n 0, 1) := by decide +kernel
theorem dX3_fewestByAll_6 : decode cX3_fewestByAll 6 = .ok (.invokevirtual 121, 3) := by decide +kernel
theorem dX3_fewestByAll_9 : decode cX3_fewestByAll 9 = .ok (.bipush 8, 2) := by decide +kernel
theorem dX3_fewestByAll_11 : decode cX3_fewestByAll 11 = .ok (.if_icmp .le 11, 3) := by decide +kernel
theorem dX3_fewestByAll_14 : decode cX3_fewestByAll 14 = .ok (.aload_n 0, 1) := by decide +kernel
theorem dX3_fewestByAll_15 : decode cX3_fewestByAll 15 = .ok (.iconst 1, 1) := by decide +kernel
theorem dX3_fewestByAll_16 : decode cX3_fewestByAll 16 = .ok (.invokevirtual 70, 3) := by decide +kernel
theorem dX3_fewestByAll_19 : decode cX3_fewestByAll 19 = .ok (.goto 7, 3) := by decide +kernel
theorem dX3_fewestByAll_22 : decode cX3_fewestByAll 22 = .ok (.aload_n 0, 1) := by decide +kernel
theorem dX3_fewestByAll_23 : decode cX3_fewestByAll 23 = .ok (.invokevirtual 124, 3) := by decide +kernel
theorem dX3_fewestByAll_26 : decode cX3_fewestByAll 26 = .ok (.ireturn, 1) := by decide +kernel
