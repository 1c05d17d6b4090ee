theorem dX0_init_0 : decode cX0_init 0 = .ok (.aload_n 0, 1) := by decide +kernel
theorem dX0_init_1 : decode cX0_init 1 = .ok (.invokespecial 3, 3) := by decide +kernel
theorem dX0_init_4 : decode cX0_init 4 = .ok (.aload_n 0, 1) := by decide +kernel
theorem dX0_init_5 : decode cX0_init 5 = .ok (.bipush 6, 2) := by decide +kernel
theorem dX0_init_7 : decode cX0_init 7 = .ok (.newarray .int, 2) := by decide +kernel
theorem dX0_init_9 : decode cX0_init 9 = .ok (.putfield 9, 3) := by decide +kernel
theorem dX0_init_12 : decode cX0_init 12 = .ok (.return_, 1) := by decide +kernel
theorem dX0_count_0 : decode cX0_count 0 = .ok (.aload_n 0, 1) := by decide +kernel
theorem dX0_count_1 : decode cX0_count 1 = .ok (.getfield 15, 3) := by decide +kernel
theorem dX0_count_4 : decode cX0_count 4 = .ok (.ireturn, 1) := by decide +kernel
theorem dX0_isEmpty_0 : decode cX0_isEmpty 0 = .ok (.aload_n 0, 1) := by decide +kernel
theorem dX0_isEmpty_1 : decode cX0_isEmpty 1 = .ok (.getfield 15, 3) := by decide +kernel
theorem dX0_isEmpty_4 : decode cX0_isEmpty 4 = .ok (.ifCond .ne 7, 3) := by decide +kernel
theorem dX0_isEmpty_7 : decode cX0_isEmpty 7 = .ok (.iconst 1, 1) := by decide +kernel
theorem dX0_isEmpty_8 : decode cX0_isEmpty 8 = .ok (.goto 4, 3) := by decide +kernel
theorem dX0_isEmpty_11 : decode cX0_isEmpty 11 = .ok (.iconst 0, 1) := by decide +kernel
theorem dX0_isEmpty_12 : decode cX0_isEmpty 12 = .ok (.ireturn, 1) := by decide +kernel
theorem dX0_at_0 : decode cX0_at 0 = .ok (.iload_n 1, 1) := by decide +kernel
theorem dX0_at_1 : decode cX0_at 1 = .ok (.ifCond .lt 20, 3) := by decide +kernel
theorem dX0_at_4 : decode cX0_at 4 = .ok (.iload_n 1, 1) := by decide +kernel
theorem dX0_at_5 : decode cX0_at 5 = .ok (.aload_n 0, 1) := by decide +kernel
theorem dX0_at_6 : decode cX0_at 6 = .ok (.getfield 15, 3) := by decide +kernel
theorem dX0_at_9 : decode cX0_at 9 = .ok (.if_icmp .ge 12, 3) := by decide +kernel
theorem dX0_at_12 : decode cX0_at 12 = .ok (.aload_n 0, 1) := by decide +kernel
theorem dX0_at_13 : decode cX0_at 13 = .ok (.getfield 9, 3) := by decide +kernel
theorem dX0_at_16 : decode cX0_at 16 = .ok (.iload_n 1, 1) := by decide +kernel
theorem dX0_at_17 : decode cX0_at 17 = .ok (.iaload, 1) := by decide +kernel
theorem dX0_at_18 : decode cX0_at 18 = .ok (.goto 4, 3) := by decide +kernel
theorem dX0_at_21 : decode cX0_at 21 = .ok (.iconst (-1), 1) := by decide +kernel
theorem dX0_at_22 : decode cX0_at 22 = .ok (.ireturn, 1) := by decide +kernel
theorem dX0_add_0 : decode cX0_add 0 = .ok (.aload_n 0, 1) := by decide +kernel
theorem dX0_add_1 : decode cX0_add 1 = .ok (.getfield 15, 3) := by decide +kernel
theorem dX0_add_4 : decode cX0_add 4 = .ok (.bipush 6, 2) := by decide +kernel
theorem dX0_add_6 : decode cX0_add 6 = .ok (.if_icmp .ge 23, 3) := by decide +kernel
theorem dX0_add_9 : decode cX0_add 9 = .ok (.aload_n 0, 1) := by decide +kernel
theorem dX0_add_10 : decode cX0_add 10 = .ok (.getfield 9, 3) := by decide +kernel
theorem dX0_add_13 : decode cX0_add 13 = .ok (.aload_n 0, 1) := by decide +kernel
theorem dX0_add_14 : decode cX0_add 14 = .ok (.getfield 15, 3) := by decide +kernel
theorem dX0_add_17 : decode cX0_add 17 = .ok (.iload_n 1, 1) := by decide +kernel
theorem dX0_add_18 : decode cX0_add 18 = .ok (.iastore, 1) := by decide +kernel
theorem dX0_add_19 : decode cX0_add 19 = .ok (.aload_n 0, 1) := by decide +kernel
theorem dX0_add_20 : decode cX0_add 20 = .ok (.dup, 1) := by decide +kernel
theorem dX0_add_21 : decode cX0_add 21 = .ok (.getfield 15, 3) := by decide +kernel
theorem dX0_add_24 : decode cX0_add 24 = .ok (.iconst 1, 1) := by decide +kernel
theorem dX0_add_25 : decode cX0_add 25 = .ok (.iadd, 1) := by decide +kernel
theorem dX0_add_26 : decode cX0_add 26 = .ok (.putfield 15, 3) := by decide +kernel
theorem dX0_add_29 : decode cX0_add 29 = .ok (.return_, 1) := by decide +kernel
set_option maxRecDepth 20000 in
theorem ggX0_takeHead_X0_at : GoodIn wsX0_takeHead wsX0_at := goodIn_r _ [7, 1, 2, 8, 9] (by decide +kernel) (by decide +kernel)
set_option maxRecDepth 20000 in
theorem gX0_takeHead_X0_at : GoodIn wsX0_takeHead (wsV RX0 19 RX0 yX0_at wsX0_at) := goodIn_app (goodIn_of _ (by decide +kernel)) ggX0_takeHead_X0_at
theorem dX0_takeHead_0 : decode cX0_takeHead 0 = .ok (.aload_n 0, 1) := by decide +kernel
theorem dX0_takeHead_1 : decode cX0_takeHead 1 = .ok (.iconst 0, 1) := by decide +kernel
theorem dX0_takeHead_2 : decode cX0_takeHead 2 = .ok (.invokevirtual 19, 3) := by decide +kernel
theorem dX0_takeHead_5 : decode cX0_takeHead 5 = .ok (.istore_n 1, 1) := by decide +kernel
theorem dX0_takeHead_6 : decode cX0_takeHead 6 = .ok (.iconst 1, 1) := by decide +kernel
theorem dX0_takeHead_7 : decode cX0_takeHead 7 = .ok (.istore_n 2, 1) := by decide +kernel
theorem dX0_takeHead_8 : decode cX0_takeHead 8 = .ok (.iload_n 2, 1) := by decide +kernel
theorem dX0_takeHead_9 : decode cX0_takeHead 9 = .ok (.aload_n 0, 1) := by decide +kernel
theorem dX0_takeHead_10 : decode cX0_takeHead 10 = .ok (.getfield 15, 3) := by decide +kernel
theorem dX0_takeHead_13 : decode cX0_takeHead 13 = .ok (.if_icmp .ge 23, 3) := by decide +kernel
theorem dX0_takeHead_16 : decode cX0_takeHead 16 = .ok (.aload_n 0, 1) := by decide +kernel
theorem dX0_takeHead_17 : decode cX0_takeHead 17 = .ok (.getfield 9, 3) := by decide +kernel
theorem dX0_takeHead_20 : decode cX0_takeHead 20 = .ok (.iload_n 2, 1) := by decide +kernel
theorem dX0_takeHead_21 : decode cX0_takeHead 21 = .ok (.iconst 1, 1) := by decide +kernel
theorem dX0_takeHead_22 : decode cX0_takeHead 22 = .ok (.isub, 1) := by decide +kernel
theorem dX0_takeHead_23 : decode cX0_takeHead 23 = .ok (.aload_n 0, 1) := by decide +kernel
theorem dX0_takeHead_24 : decode cX0_takeHead 24 = .ok (.getfield 9, 3) := by decide +kernel
theorem dX0_takeHead_27 : decode cX0_takeHead 27 = .ok (.iload_n 2, 1) := by decide +kernel
theorem dX0_takeHead_28 : decode cX0_takeHead 28 = .ok (.iaload, 1) := by decide +kernel
theorem dX0_takeHead_29 : decode cX0_takeHead 29 = .ok (.iastore, 1) := by decide +kernel
theorem dX0_takeHead_30 : decode cX0_takeHead 30 = .ok (.iinc 2 1, 3) := by decide +kernel
theorem dX0_takeHead_33 : decode cX0_takeHead 33 = .ok (.goto (-25), 3) := by decide +kernel
theorem dX0_takeHead_36 : decode cX0_takeHead 36 = .ok (.aload_n 0, 1) := by decide +kernel
theorem dX0_takeHead_37 : decode cX0_takeHead 37 = .ok (.aload_n 0, 1) := by decide +kernel
theorem dX0_takeHead_38 : decode cX0_takeHead 38 = .ok (.getfield 15, 3) := by decide +kernel
theorem dX0_takeHead_41 : decode cX0_takeHead 41 = .ok (.ifCond .le 12, 3) := by decide +kernel
theorem dX0_takeHead_44 : decode cX0_takeHead 44 = .ok (.aload_n 0, 1) := by decide +kernel
theorem dX0_takeHead_45 : decode cX0_takeHead 45 = .ok (.getfield 15, 3) := by decide +kernel
theorem dX0_takeHead_48 : decode cX0_takeHead 48 = .ok (.iconst 1, 1) := by decide +kernel
theorem dX0_takeHead_49 : decode cX0_takeHead 49 = .ok (.isub, 1) := by decide +kernel
theorem dX0_takeHead_50 : decode cX0_takeHead 50 = .ok (.goto 4, 3) := by decide +kernel
theorem dX0_takeHead_53 : decode cX0_takeHead 53 = .ok (.iconst 0, 1) := by decide +kernel
theorem dX0_takeHead_54 : decode cX0_takeHead 54 = .ok (.putfield 15, 3) := by decide +kernel
theorem dX0_takeHead_57 : decode cX0_takeHead 57 = .ok (.iload_n 1, 1) := by decide +kernel
theorem dX0_takeHead_58 : decode cX0_takeHead 58 = .ok (.ireturn, 1) := by decide +kernel
theorem dX0_clear_0 : decode cX0_clear 0 = .ok (.aload_n 0, 1) := by decide +kernel
theorem dX0_clear_1 : decode cX0_clear 1 = .ok (.iconst 0, 1) := by decide +kernel
theorem dX0_clear_2 : decode cX0_clear 2 = .ok (.putfield 15, 3) := by decide +kernel
theorem dX0_clear_5 : decode cX0_clear 5 = .ok (.return_, 1) := by decide +kernel
theorem dX1_init_0 : decode cX1_init 0 = .ok (.aload_n 0, 1) := by decide +kernel
theorem dX1_init_1 : decode cX1_init 1 = .ok (.invokespecial 3, 3) := by decide +kernel
theorem dX1_init_4 : decode cX1_init 4 = .ok (.aload_n 0, 1) := by decide +kernel
theorem dX1_init_5 : decode cX1_init 5 = .ok (.iconst 5, 1) := by decide +kernel
theorem dX1_init_6 : decode cX1_init 6 = .ok (.bipush 6, 2) := by decide +kernel
theorem dX1_init_8 : decode cX1_init 8 = .ok (.multianewarray 9 2, 4) := by decide +kernel
theorem dX1_init_12 : decode cX1_init 12 = .ok (.putfield 11, 3) := by decide +kernel
theorem dX1_init_15 : decode cX1_init 15 = .ok (.aload_n 0, 1) := by decide +kernel
theorem dX1_init_16 : decode cX1_init 16 = .ok (.iconst 5, 1) := by decide +kernel
theorem dX1_init_17 : decode cX1_init 17 = .ok (.newarray .int, 2) := by decide +kernel
theorem dX1_init_19 : decode cX1_init 19 = .ok (.putfield 16, 3) := by decide +kernel
theorem dX1_init_22 : decode cX1_init 22 = .ok (.aload_n 0, 1) := by decide +kernel
theorem dX1_init_23 : decode cX1_init 23 = .ok (.iconst 5, 1) := by decide +kernel
theorem dX1_init_24 : decode cX1_init 24 = .ok (.newarray .int, 2) := by decide +kernel
theorem dX1_init_26 : decode cX1_init 26 = .ok (.putfield 20, 3) := by decide +kernel
theorem dX1_init_29 : decode cX1_init 29 = .ok (.aload_n 0, 1) := by decide +kernel
theorem dX1_init_30 : decode cX1_init 30 = .ok (.iconst 5, 1) := by decide +kernel
theorem dX1_init_31 : decode cX1_init 31 = .ok (.newarray .int, 2) := by decide +kernel
theorem dX1_init_33 : decode cX1_init 33 = .ok (.putfield 23, 3) := by decide +kernel
theorem dX1_init_36 : decode cX1_init 36 = .ok (.aload_n 0, 1) := by decide +kernel
theorem dX1_init_37 : decode cX1_init 37 = .ok (.sipush 432, 3) := by decide +kernel
theorem dX1_init_40 : decode cX1_init 40 = .ok (.newarray .int, 2) := by decide +kernel
theorem dX1_init_42 : decode cX1_init 42 = .ok (.putfield 26, 3) := by decide +kernel
theorem dX1_init_45 : decode cX1_init 45 = .ok (.aload_n 0, 1) := by decide +kernel
theorem dX1_init_46 : decode cX1_init 46 = .ok (.sipush 432, 3) := by decide +kernel
theorem dX1_init_49 : decode cX1_init 49 = .ok (.newarray .int, 2) := by decide +kernel
theorem dX1_init_51 : decode cX1_init 51 = .ok (.putfield 29, 3) := by decide +kernel
theorem dX1_init_54 : decode cX1_init 54 = .ok (.return_, 1) := by decide +kernel
theorem dX1_clear_0 : decode cX1_clear 0 = .ok (.iconst 0, 1) := by decide +kernel
theorem dX1_clear_1 : decode cX1_clear 1 = .ok (.istore_n 1, 1) := by decide +kernel
theorem dX1_clear_2 : decode cX1_clear 2 = .ok (.iload_n 1, 1) := by decide +kernel
theorem dX1_clear_3 : decode cX1_clear 3 = .ok (.iconst 5, 1) := by decide +kernel
theorem dX1_clear_4 : decode cX1_clear 4 = .ok (.if_icmp .ge 16, 3) := by decide +kernel
theorem dX1_clear_7 : decode cX1_clear 7 = .ok (.aload_n 0, 1) := by decide +kernel
theorem dX1_clear_8 : decode cX1_clear 8 = .ok (.getfield 16, 3) := by decide +kernel
theorem dX1_clear_11 : decode cX1_clear 11 = .ok (.iload_n 1, 1) := by decide +kernel
theorem dX1_clear_12 : decode cX1_clear 12 = .ok (.iconst 0, 1) := by decide +kernel
theorem dX1_clear_13 : decode cX1_clear 13 = .ok (.iastore, 1) := by decide +kernel
theorem dX1_clear_14 : decode cX1_clear 14 = .ok (.iinc 1 1, 3) := by decide +kernel
theorem dX1_clear_17 : decode cX1_clear 17 = .ok (.goto (-15), 3) := by decide +kernel
theorem dX1_clear_20 : decode cX1_clear 20 = .ok (.return_, 1) := by decide +kernel
theorem dX1_add_0 : decode cX1_add 0 = .ok (.aload_n 0, 1) := by decide +kernel
theorem dX1_add_1 : decode cX1_add 1 = .ok (.getfield 16, 3) := by decide +kernel
theorem dX1_add_4 : decode cX1_add 4 = .ok (.iload_n 1, 1) := by decide +kernel
theorem dX1_add_5 : decode cX1_add 5 = .ok (.iaload, 1) := by decide +kernel
theorem dX1_add_6 : decode cX1_add 6 = .ok (.bipush 6, 2) := by decide +kernel
theorem dX1_add_8 : decode cX1_add 8 = .ok (.if_icmp .ge 27, 3) := by decide +kernel
theorem dX1_add_11 : decode cX1_add 11 = .ok (.aload_n 0, 1) := by decide +kernel
theorem dX1_add_12 : decode cX1_add 12 = .ok (.getfield 11, 3) := by decide +kernel
theorem dX1_add_15 : decode cX1_add 15 = .ok (.iload_n 1, 1) := by decide +kernel
theorem dX1_add_16 : decode cX1_add 16 = .ok (.aaload, 1) := by decide +kernel
theorem dX1_add_17 : decode cX1_add 17 = .ok (.aload_n 0, 1) := by decide +kernel
theorem dX1_add_18 : decode cX1_add 18 = .ok (.getfield 16, 3) := by decide +kernel
theorem dX1_add_21 : decode cX1_add 21 = .ok (.iload_n 1, 1) := by decide +kernel
theorem dX1_add_22 : decode cX1_add 22 = .ok (.iaload, 1) := by decide +kernel
theorem dX1_add_23 : decode cX1_add 23 = .ok (.iload_n 2, 1) := by decide +kernel
theorem dX1_add_24 : decode cX1_add 24 = .ok (.iastore, 1) := by decide +kernel
theorem dX1_add_25 : decode cX1_add 25 = .ok (.aload_n 0, 1) := by decide +kernel
theorem dX1_add_26 : decode cX1_add 26 = .ok (.getfield 16, 3) := by decide +kernel
theorem dX1_add_29 : decode cX1_add 29 = .ok (.iload_n 1, 1) := by decide +kernel
theorem dX1_add_30 : decode cX1_add 30 = .ok (.dup2, 1) := by decide +kernel
theorem dX1_add_31 : decode cX1_add 31 = .ok (.iaload, 1) := by decide +kernel
theorem dX1_add_32 : decode cX1_add 32 = .ok (.iconst 1, 1) := by decide +kernel
theorem dX1_add_33 : decode cX1_add 33 = .ok (.iadd, 1) := by decide +kernel
theorem dX1_add_34 : decode cX1_add 34 = .ok (.iastore, 1) := by decide +kernel
theorem dX1_add_35 : decode cX1_add 35 = .ok (.return_, 1) := by decide +kernel
set_option maxRecDepth 20000 in
theorem ggX1_fewest_X1_fillTable : GoodIn wsX1_fewest wsX1_fillTable := goodIn_r _ [5, 6, 7, 8, 9, 10, 4, 11, 12, 13, 14, 15, 16, 17, 18, 19, 20, 21, 22, 23, 24, 25, 26, 27, 28, 29, 30, 31, 32, 33] (by decide +kernel) (by decide +kernel)
set_option maxRecDepth 20000 in
theorem gX1_fewest_X1_fillTable : GoodIn wsX1_fewest (wsV RX1 32 RX1 yX1_fillTable wsX1_fillTable) := goodIn_app (goodIn_of _ (by decide +kernel)) ggX1_fewest_X1_fillTable
set_option maxRecDepth 20000 in
theorem ggX1_fewest_X1_fewestFrom : GoodIn wsX1_fewest wsX1_fewestFrom := goodIn_r _ [23, 19, 18, 28, 29, 30, 31, 32, 33] (by decide +kernel) (by decide +kernel)
set_option maxRecDepth 20000 in
theorem gX1_fewest_X1_fewestFrom : GoodIn wsX1_fewest (wsV RX1 35 RX1 yX1_fewestFrom wsX1_fewestFrom) := goodIn_app (goodIn_of _ (by decide +kernel)) ggX1_fewest_X1_fewestFrom
theorem dX1_fewest_0 : decode cX1_fewest 0 = .ok (.aload_n 0, 1) := by decide +kernel
theorem dX1_fewest_1 : decode cX1_fewest 1 = .ok (.invokevirtual 32, 3) := by decide +kernel
theorem dX1_fewest_4 : decode cX1_fewest 4 = .ok (.aload_n 0, 1) := by decide +kernel
theorem dX1_fewest_5 : decode cX1_fewest 5 = .ok (.iconst 0, 1) := by decide +kernel
theorem dX1_fewest_6 : decode cX1_fewest 6 = .ok (.iload_n 1, 1) := by decide +kernel
theorem dX1_fewest_7 : decode cX1_fewest 7 = .ok (.invokevirtual 35, 3) := by decide +kernel
theorem dX1_fewest_10 : decode cX1_fewest 10 = .ok (.ireturn, 1) := by decide +kernel
set_option maxRecDepth 20000 in
theorem ggX1_bestLane_X1_fewest : GoodIn wsX1_bestLane wsX1_fewest := goodIn_r _ [6, 7, 8, 9, 5, 10, 11, 1, 12, 13, 14, 15, 16, 17, 18, 19, 20, 21, 22, 23, 24, 25, 26, 27, 28, 29, 30, 31, 39, 40, 41, 42, 43, 44] (by decide +kernel) (by decide +kernel)
set_option maxRecDepth 20000 in
theorem gX1_bestLane_X1_fewest : GoodIn wsX1_bestLane (wsV RX1 39 RX1 yX1_fewest wsX1_fewest) := goodIn_app (goodIn_of _ (by decide +kernel)) ggX1_bestLane_X1_fewest
set_option maxRecDepth 20000 in
theorem ggX1_bestLane_X1_fewestWith : GoodIn wsX1_bestLane wsX1_fewestWith := goodIn_r _ [35, 21, 16, 36, 37, 38, 24, 25, 26, 5, 27, 23, 22, 39, 40, 41, 42, 43, 44] (by decide +kernel) (by decide +kernel)
set_option maxRecDepth 20000 in
theorem gX1_bestLane_X1_fewestWith : GoodIn wsX1_bestLane (wsV RX1 43 RX1 yX1_fewestWith wsX1_fewestWith) := goodIn_app (goodIn_of _ (by decide +kernel)) ggX1_bestLane_X1_fewestWith
theorem dX1_bestLane_0 : decode cX1_bestLane 0 = .ok (.aload_n 0, 1) := by decide +kernel
theorem dX1_bestLane_1 : decode cX1_bestLane 1 = .ok (.iload_n 1, 1) := by decide +kernel
theorem dX1_bestLane_2 : decode cX1_bestLane 2 = .ok (.invokevirtual 39, 3) := by decide +kernel
theorem dX1_bestLane_5 : decode cX1_bestLane 5 = .ok (.istore_n 2, 1) := by decide +kernel
theorem dX1_bestLane_6 : decode cX1_bestLane 6 = .ok (.iconst 0, 1) := by decide +kernel
theorem dX1_bestLane_7 : decode cX1_bestLane 7 = .ok (.istore_n 3, 1) := by decide +kernel
theorem dX1_bestLane_8 : decode cX1_bestLane 8 = .ok (.iload_n 3, 1) := by decide +kernel
theorem dX1_bestLane_9 : decode cX1_bestLane 9 = .ok (.iconst 5, 1) := by decide +kernel
theorem dX1_bestLane_10 : decode cX1_bestLane 10 = .ok (.if_icmp .ge 30, 3) := by decide +kernel
theorem dX1_bestLane_13 : decode cX1_bestLane 13 = .ok (.aload_n 0, 1) := by decide +kernel
theorem dX1_bestLane_14 : decode cX1_bestLane 14 = .ok (.getfield 16, 3) := by decide +kernel
theorem dX1_bestLane_17 : decode cX1_bestLane 17 = .ok (.iload_n 3, 1) := by decide +kernel
theorem dX1_bestLane_18 : decode cX1_bestLane 18 = .ok (.iaload, 1) := by decide +kernel
theorem dX1_bestLane_19 : decode cX1_bestLane 19 = .ok (.ifCond .le 15, 3) := by decide +kernel
theorem dX1_bestLane_22 : decode cX1_bestLane 22 = .ok (.aload_n 0, 1) := by decide +kernel
theorem dX1_bestLane_23 : decode cX1_bestLane 23 = .ok (.iload_n 3, 1) := by decide +kernel
theorem dX1_bestLane_24 : decode cX1_bestLane 24 = .ok (.iload_n 1, 1) := by decide +kernel
theorem dX1_bestLane_25 : decode cX1_bestLane 25 = .ok (.invokevirtual 43, 3) := by decide +kernel
theorem dX1_bestLane_28 : decode cX1_bestLane 28 = .ok (.iload_n 2, 1) := by decide +kernel
theorem dX1_bestLane_29 : decode cX1_bestLane 29 = .ok (.if_icmp .ne 5, 3) := by decide +kernel
theorem dX1_bestLane_32 : decode cX1_bestLane 32 = .ok (.iload_n 3, 1) := by decide +kernel
theorem dX1_bestLane_33 : decode cX1_bestLane 33 = .ok (.ireturn, 1) := by decide +kernel
theorem dX1_bestLane_34 : decode cX1_bestLane 34 = .ok (.iinc 3 1, 3) := by decide +kernel
theorem dX1_bestLane_37 : decode cX1_bestLane 37 = .ok (.goto (-29), 3) := by decide +kernel
theorem dX1_bestLane_40 : decode cX1_bestLane 40 = .ok (.iconst (-1), 1) := by decide +kernel
theorem dX1_bestLane_41 : decode cX1_bestLane 41 = .ok (.ireturn, 1) := by decide +kernel
set_option maxRecDepth 20000 in
theorem ggX1_fewestWith_X2_changeBetween : GoodIn wsX1_fewestWith wsX2_changeBetween := goodIn_r _ [5] (by decide +kernel) (by decide +kernel)
set_option maxRecDepth 20000 in
theorem gX1_fewestWith_X2_changeBetween_n46 : GoodIn wsX1_fewestWith (wsX2_changeBetween) := ggX1_fewestWith_X2_changeBetween
set_option maxRecDepth 20000 in
theorem ggX1_fewestWith_X1_fewestFrom : GoodIn wsX1_fewestWith wsX1_fewestFrom := goodIn_r _ [10, 11, 12, 13, 14, 15, 16, 17, 18] (by decide +kernel) (by decide +kernel)
set_option maxRecDepth 20000 in
theorem gX1_fewestWith_X1_fewestFrom : GoodIn wsX1_fewestWith (wsV RX1 35 RX1 yX1_fewestFrom wsX1_fewestFrom) := goodIn_app (goodIn_of _ (by decide +kernel)) ggX1_fewestWith_X1_fewestFrom
theorem dX1_fewestWith_0 : decode cX1_fewestWith 0 = .ok (.aload_n 0, 1) := by decide +kernel
theorem dX1_fewestWith_1 : decode cX1_fewestWith 1 = .ok (.getfield 11, 3) := by decide +kernel
theorem dX1_fewestWith_4 : decode cX1_fewestWith 4 = .ok (.iload_n 1, 1) := by decide +kernel
theorem dX1_fewestWith_5 : decode cX1_fewestWith 5 = .ok (.aaload, 1) := by decide +kernel
theorem dX1_fewestWith_6 : decode cX1_fewestWith 6 = .ok (.iconst 0, 1) := by decide +kernel
theorem dX1_fewestWith_7 : decode cX1_fewestWith 7 = .ok (.iaload, 1) := by decide +kernel
theorem dX1_fewestWith_8 : decode cX1_fewestWith 8 = .ok (.istore_n 3, 1) := by decide +kernel
theorem dX1_fewestWith_9 : decode cX1_fewestWith 9 = .ok (.iload_n 2, 1) := by decide +kernel
theorem dX1_fewestWith_10 : decode cX1_fewestWith 10 = .ok (.iload_n 3, 1) := by decide +kernel
theorem dX1_fewestWith_11 : decode cX1_fewestWith 11 = .ok (.invokestatic 46, 3) := by decide +kernel
theorem dX1_fewestWith_14 : decode cX1_fewestWith 14 = .ok (.aload_n 0, 1) := by decide +kernel
theorem dX1_fewestWith_15 : decode cX1_fewestWith 15 = .ok (.aload_n 0, 1) := by decide +kernel
theorem dX1_fewestWith_16 : decode cX1_fewestWith 16 = .ok (.getfield 23, 3) := by decide +kernel
theorem dX1_fewestWith_19 : decode cX1_fewestWith 19 = .ok (.iload_n 1, 1) := by decide +kernel
theorem dX1_fewestWith_20 : decode cX1_fewestWith 20 = .ok (.iaload, 1) := by decide +kernel
theorem dX1_fewestWith_21 : decode cX1_fewestWith 21 = .ok (.iload_n 3, 1) := by decide +kernel
theorem dX1_fewestWith_22 : decode cX1_fewestWith 22 = .ok (.invokevirtual 35, 3) := by decide +kernel
theorem dX1_fewestWith_25 : decode cX1_fewestWith 25 = .ok (.iadd, 1) := by decide +kernel
theorem dX1_fewestWith_26 : decode cX1_fewestWith 26 = .ok (.ireturn, 1) := by decide +kernel
set_option maxRecDepth 20000 in
theorem ggX1_fillTable_X1_layStrides : GoodIn wsX1_fillTable wsX1_layStrides := goodIn_r _ [7, 8, 2, 24, 25, 26, 27, 28, 29] (by decide +kernel) (by decide +kernel)
set_option maxRecDepth 20000 in
theorem gX1_fillTable_X1_layStrides : GoodIn wsX1_fillTable (wsV RX1 49 RX1 yX1_layStrides wsX1_layStrides) := goodIn_app (goodIn_of _ (by decide +kernel)) ggX1_fillTable_X1_layStrides
set_option maxRecDepth 20000 in
theorem ggX1_fillTable_X1_fillState : GoodIn wsX1_fillTable wsX1_fillState := goodIn_r _ [12, 1, 2, 13, 8, 14, 15, 16, 17, 18, 6, 19, 24, 25, 26, 27, 28, 29] (by decide +kernel) (by decide +kernel)
set_option maxRecDepth 20000 in
theorem gX1_fillTable_X1_fillState : GoodIn wsX1_fillTable (wsV RX1 53 RX1 yX1_fillState wsX1_fillState) := goodIn_app (goodIn_of _ (by decide +kernel)) ggX1_fillTable_X1_fillState
set_option maxRecDepth 20000 in
theorem ggX1_fillTable_X1_stepBack : GoodIn wsX1_fillTable wsX1_stepBack := goodIn_r _ [23, 1, 2, 24, 25, 26, 27, 28, 29] (by decide +kernel) (by decide +kernel)
set_option maxRecDepth 20000 in
theorem gX1_fillTable_X1_stepBack : GoodIn wsX1_fillTable (wsV RX1 57 RX1 yX1_stepBack wsX1_stepBack) := goodIn_app (goodIn_of _ (by decide +kernel)) ggX1_fillTable_X1_stepBack
theorem dX1_fillTable_0 : decode cX1_fillTable 0 = .ok (.aload_n 0, 1) := by decide +kernel
theorem dX1_fillTable_1 : decode cX1_fillTable 1 = .ok (.invokevirtual 49, 3) := by decide +kernel
theorem dX1_fillTable_4 : decode cX1_fillTable 4 = .ok (.istore_n 1, 1) := by decide +kernel
theorem dX1_fillTable_5 : decode cX1_fillTable 5 = .ok (.iconst 0, 1) := by decide +kernel
theorem dX1_fillTable_6 : decode cX1_fillTable 6 = .ok (.istore_n 2, 1) := by decide +kernel
theorem dX1_fillTable_7 : decode cX1_fillTable 7 = .ok (.iload_n 2, 1) := by decide +kernel
theorem dX1_fillTable_8 : decode cX1_fillTable 8 = .ok (.iconst 5, 1) := by decide +kernel
theorem dX1_fillTable_9 : decode cX1_fillTable 9 = .ok (.if_icmp .ge 21, 3) := by decide +kernel
theorem dX1_fillTable_12 : decode cX1_fillTable 12 = .ok (.aload_n 0, 1) := by decide +kernel
theorem dX1_fillTable_13 : decode cX1_fillTable 13 = .ok (.getfield 20, 3) := by decide +kernel
theorem dX1_fillTable_16 : decode cX1_fillTable 16 = .ok (.iload_n 2, 1) := by decide +kernel
theorem dX1_fillTable_17 : decode cX1_fillTable 17 = .ok (.aload_n 0, 1) := by decide +kernel
theorem dX1_fillTable_18 : decode cX1_fillTable 18 = .ok (.getfield 16, 3) := by decide +kernel
theorem dX1_fillTable_21 : decode cX1_fillTable 21 = .ok (.iload_n 2, 1) := by decide +kernel
theorem dX1_fillTable_22 : decode cX1_fillTable 22 = .ok (.iaload, 1) := by decide +kernel
theorem dX1_fillTable_23 : decode cX1_fillTable 23 = .ok (.iastore, 1) := by decide +kernel
theorem dX1_fillTable_24 : decode cX1_fillTable 24 = .ok (.iinc 2 1, 3) := by decide +kernel
theorem dX1_fillTable_27 : decode cX1_fillTable 27 = .ok (.goto (-20), 3) := by decide +kernel
theorem dX1_fillTable_30 : decode cX1_fillTable 30 = .ok (.iload_n 1, 1) := by decide +kernel
theorem dX1_fillTable_31 : decode cX1_fillTable 31 = .ok (.iconst 1, 1) := by decide +kernel
theorem dX1_fillTable_32 : decode cX1_fillTable 32 = .ok (.isub, 1) := by decide +kernel
theorem dX1_fillTable_33 : decode cX1_fillTable 33 = .ok (.istore_n 2, 1) := by decide +kernel
theorem dX1_fillTable_34 : decode cX1_fillTable 34 = .ok (.iload_n 2, 1) := by decide +kernel
theorem dX1_fillTable_35 : decode cX1_fillTable 35 = .ok (.ifCond .lt 18, 3) := by decide +kernel
theorem dX1_fillTable_38 : decode cX1_fillTable 38 = .ok (.aload_n 0, 1) := by decide +kernel
theorem dX1_fillTable_39 : decode cX1_fillTable 39 = .ok (.iload_n 2, 1) := by decide +kernel
theorem dX1_fillTable_40 : decode cX1_fillTable 40 = .ok (.invokevirtual 53, 3) := by decide +kernel
theorem dX1_fillTable_43 : decode cX1_fillTable 43 = .ok (.aload_n 0, 1) := by decide +kernel
theorem dX1_fillTable_44 : decode cX1_fillTable 44 = .ok (.invokevirtual 57, 3) := by decide +kernel
theorem dX1_fillTable_47 : decode cX1_fillTable 47 = .ok (.iinc 2 (-1), 3) := by decide +kernel
theorem dX1_fillTable_50 : decode cX1_fillTable 50 = .ok (.goto (-16), 3) := by decide +kernel
theorem dX1_fillTable_53 : decode cX1_fillTable 53 = .ok (.return_, 1) := by decide +kernel
theorem dX1_layStrides_0 : decode cX1_layStrides 0 = .ok (.iconst 1, 1) := by decide +kernel
theorem dX1_layStrides_1 : decode cX1_layStrides 1 = .ok (.istore_n 1, 1) := by decide +kernel
theorem dX1_layStrides_2 : decode cX1_layStrides 2 = .ok (.iconst 0, 1) := by decide +kernel
theorem dX1_layStrides_3 : decode cX1_layStrides 3 = .ok (.istore_n 2, 1) := by decide +kernel
theorem dX1_layStrides_4 : decode cX1_layStrides 4 = .ok (.iload_n 2, 1) := by decide +kernel
theorem dX1_layStrides_5 : decode cX1_layStrides 5 = .ok (.iconst 5, 1) := by decide +kernel
theorem dX1_layStrides_6 : decode cX1_layStrides 6 = .ok (.if_icmp .ge 27, 3) := by decide +kernel
theorem dX1_layStrides_9 : decode cX1_layStrides 9 = .ok (.aload_n 0, 1) := by decide +kernel
theorem dX1_layStrides_10 : decode cX1_layStrides 10 = .ok (.getfield 23, 3) := by decide +kernel
theorem dX1_layStrides_13 : decode cX1_layStrides 13 = .ok (.iload_n 2, 1) := by decide +kernel
theorem dX1_layStrides_14 : decode cX1_layStrides 14 = .ok (.iload_n 1, 1) := by decide +kernel
theorem dX1_layStrides_15 : decode cX1_layStrides 15 = .ok (.iastore, 1) := by decide +kernel
theorem dX1_layStrides_16 : decode cX1_layStrides 16 = .ok (.iload_n 1, 1) := by decide +kernel
theorem dX1_layStrides_17 : decode cX1_layStrides 17 = .ok (.aload_n 0, 1) := by decide +kernel
theorem dX1_layStrides_18 : decode cX1_layStrides 18 = .ok (.getfield 16, 3) := by decide +kernel
theorem dX1_layStrides_21 : decode cX1_layStrides 21 = .ok (.iload_n 2, 1) := by decide +kernel
theorem dX1_layStrides_22 : decode cX1_layStrides 22 = .ok (.iaload, 1) := by decide +kernel
theorem dX1_layStrides_23 : decode cX1_layStrides 23 = .ok (.iconst 1, 1) := by decide +kernel
theorem dX1_layStrides_24 : decode cX1_layStrides 24 = .ok (.iadd, 1) := by decide +kernel
theorem dX1_layStrides_25 : decode cX1_layStrides 25 = .ok (.imul, 1) := by decide +kernel
theorem dX1_layStrides_26 : decode cX1_layStrides 26 = .ok (.istore_n 1, 1) := by decide +kernel
theorem dX1_layStrides_27 : decode cX1_layStrides 27 = .ok (.iinc 2 1, 3) := by decide +kernel
theorem dX1_layStrides_30 : decode cX1_layStrides 30 = .ok (.goto (-26), 3) := by decide +kernel
theorem dX1_layStrides_33 : decode cX1_layStrides 33 = .ok (.iload_n 1, 1) := by decide +kernel
theorem dX1_layStrides_34 : decode cX1_layStrides 34 = .ok (.sipush 432, 3) := by decide +kernel
theorem dX1_layStrides_37 : decode cX1_layStrides 37 = .ok (.if_icmp .ge 7, 3) := by decide +kernel
theorem dX1_layStrides_40 : decode cX1_layStrides 40 = .ok (.iload_n 1, 1) := by decide +kernel
theorem dX1_layStrides_41 : decode cX1_layStrides 41 = .ok (.goto 6, 3) := by decide +kernel
theorem dX1_layStrides_44 : decode cX1_layStrides 44 = .ok (.sipush 432, 3) := by decide +kernel
theorem dX1_layStrides_47 : decode cX1_layStrides 47 = .ok (.ireturn, 1) := by decide +kernel
theorem dX1_stepBack_0 : decode cX1_stepBack 0 = .ok (.iconst 0, 1) := by decide +kernel
theorem dX1_stepBack_1 : decode cX1_stepBack 1 = .ok (.istore_n 1, 1) := by decide +kernel
theorem dX1_stepBack_2 : decode cX1_stepBack 2 = .ok (.iload_n 1, 1) := by decide +kernel
theorem dX1_stepBack_3 : decode cX1_stepBack 3 = .ok (.iconst 5, 1) := by decide +kernel
theorem dX1_stepBack_4 : decode cX1_stepBack 4 = .ok (.if_icmp .ge 41, 3) := by decide +kernel
theorem dX1_stepBack_7 : decode cX1_stepBack 7 = .ok (.aload_n 0, 1) := by decide +kernel
theorem dX1_stepBack_8 : decode cX1_stepBack 8 = .ok (.getfield 20, 3) := by decide +kernel
theorem dX1_stepBack_11 : decode cX1_stepBack 11 = .ok (.iload_n 1, 1) := by decide +kernel
theorem dX1_stepBack_12 : decode cX1_stepBack 12 = .ok (.iaload, 1) := by decide +kernel
theorem dX1_stepBack_13 : decode cX1_stepBack 13 = .ok (.ifCond .le 14, 3) := by decide +kernel
theorem dX1_stepBack_16 : decode cX1_stepBack 16 = .ok (.aload_n 0, 1) := by decide +kernel
theorem dX1_stepBack_17 : decode cX1_stepBack 17 = .ok (.getfield 20, 3) := by decide +kernel
theorem dX1_stepBack_20 : decode cX1_stepBack 20 = .ok (.iload_n 1, 1) := by decide +kernel
theorem dX1_stepBack_21 : decode cX1_stepBack 21 = .ok (.dup2, 1) := by decide +kernel
theorem dX1_stepBack_22 : decode cX1_stepBack 22 = .ok (.iaload, 1) := by decide +kernel
theorem dX1_stepBack_23 : decode cX1_stepBack 23 = .ok (.iconst 1, 1) := by decide +kernel
theorem dX1_stepBack_24 : decode cX1_stepBack 24 = .ok (.isub, 1) := by decide +kernel
theorem dX1_stepBack_25 : decode cX1_stepBack 25 = .ok (.iastore, 1) := by decide +kernel
theorem dX1_stepBack_26 : decode cX1_stepBack 26 = .ok (.return_, 1) := by decide +kernel
theorem dX1_stepBack_27 : decode cX1_stepBack 27 = .ok (.aload_n 0, 1) := by decide +kernel
theorem dX1_stepBack_28 : decode cX1_stepBack 28 = .ok (.getfield 20, 3) := by decide +kernel
theorem dX1_stepBack_31 : decode cX1_stepBack 31 = .ok (.iload_n 1, 1) := by decide +kernel
theorem dX1_stepBack_32 : decode cX1_stepBack 32 = .ok (.aload_n 0, 1) := by decide +kernel
theorem dX1_stepBack_33 : decode cX1_stepBack 33 = .ok (.getfield 16, 3) := by decide +kernel
theorem dX1_stepBack_36 : decode cX1_stepBack 36 = .ok (.iload_n 1, 1) := by decide +kernel
theorem dX1_stepBack_37 : decode cX1_stepBack 37 = .ok (.iaload, 1) := by decide +kernel
theorem dX1_stepBack_38 : decode cX1_stepBack 38 = .ok (.iastore, 1) := by decide +kernel
theorem dX1_stepBack_39 : decode cX1_stepBack 39 = .ok (.iinc 1 1, 3) := by decide +kernel
theorem dX1_stepBack_42 : decode cX1_stepBack 42 = .ok (.goto (-40), 3) := by decide +kernel
theorem dX1_stepBack_45 : decode cX1_stepBack 45 = .ok (.return_, 1) := by decide +kernel
set_option maxRecDepth 20000 in
theorem ggX1_fillState_X1_fewestFrom : GoodIn wsX1_fillState wsX1_fewestFrom := goodIn_r _ [11, 6, 5, 12, 13, 14, 15, 16, 17] (by decide +kernel) (by decide +kernel)
set_option maxRecDepth 20000 in
theorem gX1_fillState_X1_fewestFrom : GoodIn wsX1_fillState (wsV RX1 35 RX1 yX1_fewestFrom wsX1_fewestFrom) := goodIn_app (goodIn_of _ (by decide +kernel)) ggX1_fillState_X1_fewestFrom
theorem dX1_fillState_0 : decode cX1_fillState 0 = .ok (.iconst 0, 1) := by decide +kernel
theorem dX1_fillState_1 : decode cX1_fillState 1 = .ok (.istore_n 2, 1) := by decide +kernel
theorem dX1_fillState_2 : decode cX1_fillState 2 = .ok (.iconst 0, 1) := by decide +kernel
theorem dX1_fillState_3 : decode cX1_fillState 3 = .ok (.istore_n 3, 1) := by decide +kernel
theorem dX1_fillState_4 : decode cX1_fillState 4 = .ok (.iconst 0, 1) := by decide +kernel
theorem dX1_fillState_5 : decode cX1_fillState 5 = .ok (.istore 4, 2) := by decide +kernel
theorem dX1_fillState_7 : decode cX1_fillState 7 = .ok (.iload 4, 2) := by decide +kernel
theorem dX1_fillState_9 : decode cX1_fillState 9 = .ok (.iconst 5, 1) := by decide +kernel
theorem dX1_fillState_10 : decode cX1_fillState 10 = .ok (.if_icmp .ge 94, 3) := by decide +kernel
theorem dX1_fillState_13 : decode cX1_fillState 13 = .ok (.aload_n 0, 1) := by decide +kernel
theorem dX1_fillState_14 : decode cX1_fillState 14 = .ok (.getfield 20, 3) := by decide +kernel
theorem dX1_fillState_17 : decode cX1_fillState 17 = .ok (.iload 4, 2) := by decide +kernel
theorem dX1_fillState_19 : decode cX1_fillState 19 = .ok (.iaload, 1) := by decide +kernel
theorem dX1_fillState_20 : decode cX1_fillState 20 = .ok (.aload_n 0, 1) := by decide +kernel
theorem dX1_fillState_21 : decode cX1_fillState 21 = .ok (.getfield 16, 3) := by decide +kernel
theorem dX1_fillState_24 : decode cX1_fillState 24 = .ok (.iload 4, 2) := by decide +kernel
theorem dX1_fillState_26 : decode cX1_fillState 26 = .ok (.iaload, 1) := by decide +kernel
theorem dX1_fillState_27 : decode cX1_fillState 27 = .ok (.if_icmp .ge 71, 3) := by decide +kernel
theorem dX1_fillState_30 : decode cX1_fillState 30 = .ok (.aload_n 0, 1) := by decide +kernel
theorem dX1_fillState_31 : decode cX1_fillState 31 = .ok (.getfield 11, 3) := by decide +kernel
theorem dX1_fillState_34 : decode cX1_fillState 34 = .ok (.iload 4, 2) := by decide +kernel
theorem dX1_fillState_36 : decode cX1_fillState 36 = .ok (.aaload, 1) := by decide +kernel
theorem dX1_fillState_37 : decode cX1_fillState 37 = .ok (.aload_n 0, 1) := by decide +kernel
theorem dX1_fillState_38 : decode cX1_fillState 38 = .ok (.getfield 20, 3) := by decide +kernel
theorem dX1_fillState_41 : decode cX1_fillState 41 = .ok (.iload 4, 2) := by decide +kernel
theorem dX1_fillState_43 : decode cX1_fillState 43 = .ok (.iaload, 1) := by decide +kernel
theorem dX1_fillState_44 : decode cX1_fillState 44 = .ok (.iaload, 1) := by decide +kernel
theorem dX1_fillState_45 : decode cX1_fillState 45 = .ok (.istore 5, 2) := by decide +kernel
theorem dX1_fillState_47 : decode cX1_fillState 47 = .ok (.aload_n 0, 1) := by decide +kernel
theorem dX1_fillState_48 : decode cX1_fillState 48 = .ok (.iload_n 1, 1) := by decide +kernel
theorem dX1_fillState_49 : decode cX1_fillState 49 = .ok (.aload_n 0, 1) := by decide +kernel
theorem dX1_fillState_50 : decode cX1_fillState 50 = .ok (.getfield 23, 3) := by decide +kernel
theorem dX1_fillState_53 : decode cX1_fillState 53 = .ok (.iload 4, 2) := by decide +kernel
theorem dX1_fillState_55 : decode cX1_fillState 55 = .ok (.iaload, 1) := by decide +kernel
theorem dX1_fillState_56 : decode cX1_fillState 56 = .ok (.iadd, 1) := by decide +kernel
theorem dX1_fillState_57 : decode cX1_fillState 57 = .ok (.iload 5, 2) := by decide +kernel
theorem dX1_fillState_59 : decode cX1_fillState 59 = .ok (.invokevirtual 35, 3) := by decide +kernel
theorem dX1_fillState_62 : decode cX1_fillState 62 = .ok (.istore 6, 2) := by decide +kernel
theorem dX1_fillState_64 : decode cX1_fillState 64 = .ok (.iload_n 3, 1) := by decide +kernel
theorem dX1_fillState_65 : decode cX1_fillState 65 = .ok (.ifCond .eq 9, 3) := by decide +kernel
theorem dX1_fillState_68 : decode cX1_fillState 68 = .ok (.iload 6, 2) := by decide +kernel
theorem dX1_fillState_70 : decode cX1_fillState 70 = .ok (.iload_n 2, 1) := by decide +kernel
theorem dX1_fillState_71 : decode cX1_fillState 71 = .ok (.if_icmp .ge 14, 3) := by decide +kernel
theorem dX1_fillState_74 : decode cX1_fillState 74 = .ok (.iload 6, 2) := by decide +kernel
theorem dX1_fillState_76 : decode cX1_fillState 76 = .ok (.istore_n 2, 1) := by decide +kernel
theorem dX1_fillState_77 : decode cX1_fillState 77 = .ok (.iconst 1, 1) := by decide +kernel
theorem dX1_fillState_78 : decode cX1_fillState 78 = .ok (.iload 5, 2) := by decide +kernel
theorem dX1_fillState_80 : decode cX1_fillState 80 = .ok (.ishl, 1) := by decide +kernel
theorem dX1_fillState_81 : decode cX1_fillState 81 = .ok (.istore_n 3, 1) := by decide +kernel
theorem dX1_fillState_82 : decode cX1_fillState 82 = .ok (.goto 16, 3) := by decide +kernel
theorem dX1_fillState_85 : decode cX1_fillState 85 = .ok (.iload 6, 2) := by decide +kernel
theorem dX1_fillState_87 : decode cX1_fillState 87 = .ok (.iload_n 2, 1) := by decide +kernel
theorem dX1_fillState_88 : decode cX1_fillState 88 = .ok (.if_icmp .ne 10, 3) := by decide +kernel
theorem dX1_fillState_91 : decode cX1_fillState 91 = .ok (.iload_n 3, 1) := by decide +kernel
theorem dX1_fillState_92 : decode cX1_fillState 92 = .ok (.iconst 1, 1) := by decide +kernel
theorem dX1_fillState_93 : decode cX1_fillState 93 = .ok (.iload 5, 2) := by decide +kernel
theorem dX1_fillState_95 : decode cX1_fillState 95 = .ok (.ishl, 1) := by decide +kernel
theorem dX1_fillState_96 : decode cX1_fillState 96 = .ok (.ior, 1) := by decide +kernel
theorem dX1_fillState_97 : decode cX1_fillState 97 = .ok (.istore_n 3, 1) := by decide +kernel
theorem dX1_fillState_98 : decode cX1_fillState 98 = .ok (.iinc 4 1, 3) := by decide +kernel
theorem dX1_fillState_101 : decode cX1_fillState 101 = .ok (.goto (-94), 3) := by decide +kernel
theorem dX1_fillState_104 : decode cX1_fillState 104 = .ok (.aload_n 0, 1) := by decide +kernel
theorem dX1_fillState_105 : decode cX1_fillState 105 = .ok (.getfield 26, 3) := by decide +kernel
theorem dX1_fillState_108 : decode cX1_fillState 108 = .ok (.iload_n 1, 1) := by decide +kernel
theorem dX1_fillState_109 : decode cX1_fillState 109 = .ok (.iload_n 2, 1) := by decide +kernel
theorem dX1_fillState_110 : decode cX1_fillState 110 = .ok (.iastore, 1) := by decide +kernel
theorem dX1_fillState_111 : decode cX1_fillState 111 = .ok (.aload_n 0, 1) := by decide +kernel
theorem dX1_fillState_112 : decode cX1_fillState 112 = .ok (.getfield 29, 3) := by decide +kernel
theorem dX1_fillState_115 : decode cX1_fillState 115 = .ok (.iload_n 1, 1) := by decide +kernel
theorem dX1_fillState_116 : decode cX1_fillState 116 = .ok (.iload_n 3, 1) := by decide +kernel
theorem dX1_fillState_117 : decode cX1_fillState 117 = .ok (.iastore, 1) := by decide +kernel
theorem dX1_fillState_118 : decode cX1_fillState 118 = .ok (.return_, 1) := by decide +kernel
theorem dX1_fewestFrom_0 : decode cX1_fewestFrom 0 = .ok (.iload_n 1, 1) := by decide +kernel
theorem dX1_fewestFrom_1 : decode cX1_fewestFrom 1 = .ok (.ifCond .lt 10, 3) := by decide +kernel
theorem dX1_fewestFrom_4 : decode cX1_fewestFrom 4 = .ok (.iload_n 1, 1) := by decide +kernel
theorem dX1_fewestFrom_5 : decode cX1_fewestFrom 5 = .ok (.sipush 432, 3) := by decide +kernel
theorem dX1_fewestFrom_8 : decode cX1_fewestFrom 8 = .ok (.if_icmp .lt 5, 3) := by decide +kernel
theorem dX1_fewestFrom_11 : decode cX1_fewestFrom 11 = .ok (.iconst 0, 1) := by decide +kernel
theorem dX1_fewestFrom_12 : decode cX1_fewestFrom 12 = .ok (.ireturn, 1) := by decide +kernel
theorem dX1_fewestFrom_13 : decode cX1_fewestFrom 13 = .ok (.iload_n 2, 1) := by decide +kernel
theorem dX1_fewestFrom_14 : decode cX1_fewestFrom 14 = .ok (.iconst (-1), 1) := by decide +kernel
theorem dX1_fewestFrom_15 : decode cX1_fewestFrom 15 = .ok (.if_icmp .eq 12, 3) := by decide +kernel
theorem dX1_fewestFrom_18 : decode cX1_fewestFrom 18 = .ok (.aload_n 0, 1) := by decide +kernel
theorem dX1_fewestFrom_19 : decode cX1_fewestFrom 19 = .ok (.getfield 29, 3) := by decide +kernel
theorem dX1_fewestFrom_22 : decode cX1_fewestFrom 22 = .ok (.iload_n 1, 1) := by decide +kernel
theorem dX1_fewestFrom_23 : decode cX1_fewestFrom 23 = .ok (.iaload, 1) := by decide +kernel
theorem dX1_fewestFrom_24 : decode cX1_fewestFrom 24 = .ok (.ifCond .ne 7, 3) := by decide +kernel
theorem dX1_fewestFrom_27 : decode cX1_fewestFrom 27 = .ok (.iconst 1, 1) := by decide +kernel
theorem dX1_fewestFrom_28 : decode cX1_fewestFrom 28 = .ok (.goto 4, 3) := by decide +kernel
theorem dX1_fewestFrom_31 : decode cX1_fewestFrom 31 = .ok (.iconst 0, 1) := by decide +kernel
theorem dX1_fewestFrom_32 : decode cX1_fewestFrom 32 = .ok (.istore_n 3, 1) := by decide +kernel
theorem dX1_fewestFrom_33 : decode cX1_fewestFrom 33 = .ok (.iload_n 3, 1) := by decide +kernel
theorem dX1_fewestFrom_34 : decode cX1_fewestFrom 34 = .ok (.ifCond .ne 17, 3) := by decide +kernel
theorem dX1_fewestFrom_37 : decode cX1_fewestFrom 37 = .ok (.aload_n 0, 1) := by decide +kernel
theorem dX1_fewestFrom_38 : decode cX1_fewestFrom 38 = .ok (.getfield 29, 3) := by decide +kernel
theorem dX1_fewestFrom_41 : decode cX1_fewestFrom 41 = .ok (.iload_n 1, 1) := by decide +kernel
theorem dX1_fewestFrom_42 : decode cX1_fewestFrom 42 = .ok (.iaload, 1) := by decide +kernel
theorem dX1_fewestFrom_43 : decode cX1_fewestFrom 43 = .ok (.iload_n 2, 1) := by decide +kernel
theorem dX1_fewestFrom_44 : decode cX1_fewestFrom 44 = .ok (.ishr, 1) := by decide +kernel
theorem dX1_fewestFrom_45 : decode cX1_fewestFrom 45 = .ok (.iconst 1, 1) := by decide +kernel
theorem dX1_fewestFrom_46 : decode cX1_fewestFrom 46 = .ok (.iand, 1) := by decide +kernel
theorem dX1_fewestFrom_47 : decode cX1_fewestFrom 47 = .ok (.iconst 1, 1) := by decide +kernel
theorem dX1_fewestFrom_48 : decode cX1_fewestFrom 48 = .ok (.if_icmp .ne 7, 3) := by decide +kernel
theorem dX1_fewestFrom_51 : decode cX1_fewestFrom 51 = .ok (.iconst 1, 1) := by decide +kernel
theorem dX1_fewestFrom_52 : decode cX1_fewestFrom 52 = .ok (.goto 4, 3) := by decide +kernel
theorem dX1_fewestFrom_55 : decode cX1_fewestFrom 55 = .ok (.iconst 0, 1) := by decide +kernel
theorem dX1_fewestFrom_56 : decode cX1_fewestFrom 56 = .ok (.istore 4, 2) := by decide +kernel
theorem dX1_fewestFrom_58 : decode cX1_fewestFrom 58 = .ok (.iload 4, 2) := by decide +kernel
theorem dX1_fewestFrom_60 : decode cX1_fewestFrom 60 = .ok (.ifCond .eq 12, 3) := by decide +kernel
theorem dX1_fewestFrom_63 : decode cX1_fewestFrom 63 = .ok (.aload_n 0, 1) := by decide +kernel
theorem dX1_fewestFrom_64 : decode cX1_fewestFrom 64 = .ok (.getfield 26, 3) := by decide +kernel
theorem dX1_fewestFrom_67 : decode cX1_fewestFrom 67 = .ok (.iload_n 1, 1) := by decide +kernel
theorem dX1_fewestFrom_68 : decode cX1_fewestFrom 68 = .ok (.iaload, 1) := by decide +kernel
theorem dX1_fewestFrom_69 : decode cX1_fewestFrom 69 = .ok (.goto 11, 3) := by decide +kernel
theorem dX1_fewestFrom_72 : decode cX1_fewestFrom 72 = .ok (.aload_n 0, 1) := by decide +kernel
theorem dX1_fewestFrom_73 : decode cX1_fewestFrom 73 = .ok (.getfield 26, 3) := by decide +kernel
theorem dX1_fewestFrom_76 : decode cX1_fewestFrom 76 = .ok (.iload_n 1, 1) := by decide +kernel
theorem dX1_fewestFrom_77 : decode cX1_fewestFrom 77 = .ok (.iaload, 1) := by decide +kernel
theorem dX1_fewestFrom_78 : decode cX1_fewestFrom 78 = .ok (.iconst 1, 1) := by decide +kernel
theorem dX1_fewestFrom_79 : decode cX1_fewestFrom 79 = .ok (.iadd, 1) := by decide +kernel
theorem dX1_fewestFrom_80 : decode cX1_fewestFrom 80 = .ok (.ireturn, 1) := by decide +kernel
set_option maxRecDepth 20000 in
theorem ggX1_fewestOfAllOrders_X1_tryOrders : GoodIn wsX1_fewestOfAllOrders wsX1_tryOrders := goodIn_r _ [6, 1, 2, 7, 8, 9, 10, 3, 4, 5, 11, 12, 13, 14, 15, 16] (by decide +kernel) (by decide +kernel)
set_option maxRecDepth 20000 in
theorem gX1_fewestOfAllOrders_X1_tryOrders : GoodIn wsX1_fewestOfAllOrders (va_wsS RX1 60 yX1_tryOrders wsX1_tryOrders) := goodIn_app (goodIn_of _ (by decide +kernel)) ggX1_fewestOfAllOrders_X1_tryOrders
theorem dX1_fewestOfAllOrders_0 : decode cX1_fewestOfAllOrders 0 = .ok (.iconst 0, 1) := by decide +kernel
theorem dX1_fewestOfAllOrders_1 : decode cX1_fewestOfAllOrders 1 = .ok (.istore_n 2, 1) := by decide +kernel
theorem dX1_fewestOfAllOrders_2 : decode cX1_fewestOfAllOrders 2 = .ok (.iconst 0, 1) := by decide +kernel
theorem dX1_fewestOfAllOrders_3 : decode cX1_fewestOfAllOrders 3 = .ok (.istore_n 3, 1) := by decide +kernel
theorem dX1_fewestOfAllOrders_4 : decode cX1_fewestOfAllOrders 4 = .ok (.iload_n 3, 1) := by decide +kernel
theorem dX1_fewestOfAllOrders_5 : decode cX1_fewestOfAllOrders 5 = .ok (.iconst 5, 1) := by decide +kernel
theorem dX1_fewestOfAllOrders_6 : decode cX1_fewestOfAllOrders 6 = .ok (.if_icmp .ge 25, 3) := by decide +kernel
theorem dX1_fewestOfAllOrders_9 : decode cX1_fewestOfAllOrders 9 = .ok (.aload_n 0, 1) := by decide +kernel
theorem dX1_fewestOfAllOrders_10 : decode cX1_fewestOfAllOrders 10 = .ok (.getfield 20, 3) := by decide +kernel
theorem dX1_fewestOfAllOrders_13 : decode cX1_fewestOfAllOrders 13 = .ok (.iload_n 3, 1) := by decide +kernel
theorem dX1_fewestOfAllOrders_14 : decode cX1_fewestOfAllOrders 14 = .ok (.iconst 0, 1) := by decide +kernel
theorem dX1_fewestOfAllOrders_15 : decode cX1_fewestOfAllOrders 15 = .ok (.iastore, 1) := by decide +kernel
theorem dX1_fewestOfAllOrders_16 : decode cX1_fewestOfAllOrders 16 = .ok (.iload_n 2, 1) := by decide +kernel
theorem dX1_fewestOfAllOrders_17 : decode cX1_fewestOfAllOrders 17 = .ok (.aload_n 0, 1) := by decide +kernel
theorem dX1_fewestOfAllOrders_18 : decode cX1_fewestOfAllOrders 18 = .ok (.getfield 16, 3) := by decide +kernel
theorem dX1_fewestOfAllOrders_21 : decode cX1_fewestOfAllOrders 21 = .ok (.iload_n 3, 1) := by decide +kernel
theorem dX1_fewestOfAllOrders_22 : decode cX1_fewestOfAllOrders 22 = .ok (.iaload, 1) := by decide +kernel
theorem dX1_fewestOfAllOrders_23 : decode cX1_fewestOfAllOrders 23 = .ok (.iadd, 1) := by decide +kernel
theorem dX1_fewestOfAllOrders_24 : decode cX1_fewestOfAllOrders 24 = .ok (.istore_n 2, 1) := by decide +kernel
theorem dX1_fewestOfAllOrders_25 : decode cX1_fewestOfAllOrders 25 = .ok (.iinc 3 1, 3) := by decide +kernel
theorem dX1_fewestOfAllOrders_28 : decode cX1_fewestOfAllOrders 28 = .ok (.goto (-24), 3) := by decide +kernel
theorem dX1_fewestOfAllOrders_31 : decode cX1_fewestOfAllOrders 31 = .ok (.aload_n 0, 1) := by decide +kernel
theorem dX1_fewestOfAllOrders_32 : decode cX1_fewestOfAllOrders 32 = .ok (.iload_n 2, 1) := by decide +kernel
theorem dX1_fewestOfAllOrders_33 : decode cX1_fewestOfAllOrders 33 = .ok (.iload_n 1, 1) := by decide +kernel
theorem dX1_fewestOfAllOrders_34 : decode cX1_fewestOfAllOrders 34 = .ok (.iconst 0, 1) := by decide +kernel
theorem dX1_fewestOfAllOrders_35 : decode cX1_fewestOfAllOrders 35 = .ok (.iload_n 2, 1) := by decide +kernel
theorem dX1_fewestOfAllOrders_36 : decode cX1_fewestOfAllOrders 36 = .ok (.iconst 1, 1) := by decide +kernel
theorem dX1_fewestOfAllOrders_37 : decode cX1_fewestOfAllOrders 37 = .ok (.iadd, 1) := by decide +kernel
theorem dX1_fewestOfAllOrders_38 : decode cX1_fewestOfAllOrders 38 = .ok (.invokestatic 60, 3) := by decide +kernel
theorem dX1_fewestOfAllOrders_41 : decode cX1_fewestOfAllOrders 41 = .ok (.ireturn, 1) := by decide +kernel
set_option maxRecDepth 20000 in
theorem ggX1_tryOrders_X2_changeBetween : GoodIn wsX1_tryOrders wsX2_changeBetween := goodIn_r _ [6] (by decide +kernel) (by decide +kernel)
set_option maxRecDepth 20000 in
theorem gX1_tryOrders_X2_changeBetween_n46 : GoodIn wsX1_tryOrders (wsX2_changeBetween) := ggX1_tryOrders_X2_changeBetween
set_option maxRecDepth 20000 in
theorem ggX1_tryOrders_X1_tryOrders : GoodIn wsX1_tryOrders wsX1_tryOrders := goodIn_r _ [0, 1, 2, 3, 4, 5, 6, 7, 8, 9, 10, 11, 12, 13, 14, 15] (by decide +kernel) (by decide +kernel)
set_option maxRecDepth 20000 in
theorem gX1_tryOrders_X1_tryOrders : GoodIn wsX1_tryOrders (va_wsS RX1 60 yX1_tryOrders wsX1_tryOrders) := goodIn_app (goodIn_of _ (by decide +kernel)) ggX1_tryOrders_X1_tryOrders
theorem dX1_tryOrders_0 : decode cX1_tryOrders 0 = .ok (.iload_n 3, 1) := by decide +kernel
theorem dX1_tryOrders_1 : decode cX1_tryOrders 1 = .ok (.iload 4, 2) := by decide +kernel
theorem dX1_tryOrders_3 : decode cX1_tryOrders 3 = .ok (.if_icmp .lt 6, 3) := by decide +kernel
theorem dX1_tryOrders_6 : decode cX1_tryOrders 6 = .ok (.iload 4, 2) := by decide +kernel
theorem dX1_tryOrders_8 : decode cX1_tryOrders 8 = .ok (.ireturn, 1) := by decide +kernel
theorem dX1_tryOrders_9 : decode cX1_tryOrders 9 = .ok (.iload_n 1, 1) := by decide +kernel
theorem dX1_tryOrders_10 : decode cX1_tryOrders 10 = .ok (.ifCond .gt 5, 3) := by decide +kernel
theorem dX1_tryOrders_13 : decode cX1_tryOrders 13 = .ok (.iload_n 3, 1) := by decide +kernel
theorem dX1_tryOrders_14 : decode cX1_tryOrders 14 = .ok (.ireturn, 1) := by decide +kernel
theorem dX1_tryOrders_15 : decode cX1_tryOrders 15 = .ok (.iload 4, 2) := by decide +kernel
theorem dX1_tryOrders_17 : decode cX1_tryOrders 17 = .ok (.istore 5, 2) := by decide +kernel
theorem dX1_tryOrders_19 : decode cX1_tryOrders 19 = .ok (.iconst 0, 1) := by decide +kernel
theorem dX1_tryOrders_20 : decode cX1_tryOrders 20 = .ok (.istore 6, 2) := by decide +kernel
theorem dX1_tryOrders_22 : decode cX1_tryOrders 22 = .ok (.iload 6, 2) := by decide +kernel
theorem dX1_tryOrders_24 : decode cX1_tryOrders 24 = .ok (.iconst 5, 1) := by decide +kernel
theorem dX1_tryOrders_25 : decode cX1_tryOrders 25 = .ok (.if_icmp .ge 87, 3) := by decide +kernel
theorem dX1_tryOrders_28 : decode cX1_tryOrders 28 = .ok (.aload_n 0, 1) := by decide +kernel
theorem dX1_tryOrders_29 : decode cX1_tryOrders 29 = .ok (.getfield 20, 3) := by decide +kernel
theorem dX1_tryOrders_32 : decode cX1_tryOrders 32 = .ok (.iload 6, 2) := by decide +kernel
theorem dX1_tryOrders_34 : decode cX1_tryOrders 34 = .ok (.iaload, 1) := by decide +kernel
theorem dX1_tryOrders_35 : decode cX1_tryOrders 35 = .ok (.istore 7, 2) := by decide +kernel
theorem dX1_tryOrders_37 : decode cX1_tryOrders 37 = .ok (.iload 7, 2) := by decide +kernel
theorem dX1_tryOrders_39 : decode cX1_tryOrders 39 = .ok (.aload_n 0, 1) := by decide +kernel
theorem dX1_tryOrders_40 : decode cX1_tryOrders 40 = .ok (.getfield 16, 3) := by decide +kernel
theorem dX1_tryOrders_43 : decode cX1_tryOrders 43 = .ok (.iload 6, 2) := by decide +kernel
theorem dX1_tryOrders_45 : decode cX1_tryOrders 45 = .ok (.iaload, 1) := by decide +kernel
theorem dX1_tryOrders_46 : decode cX1_tryOrders 46 = .ok (.if_icmp .ge 60, 3) := by decide +kernel
theorem dX1_tryOrders_49 : decode cX1_tryOrders 49 = .ok (.aload_n 0, 1) := by decide +kernel
theorem dX1_tryOrders_50 : decode cX1_tryOrders 50 = .ok (.getfield 11, 3) := by decide +kernel
theorem dX1_tryOrders_53 : decode cX1_tryOrders 53 = .ok (.iload 6, 2) := by decide +kernel
theorem dX1_tryOrders_55 : decode cX1_tryOrders 55 = .ok (.aaload, 1) := by decide +kernel
theorem dX1_tryOrders_56 : decode cX1_tryOrders 56 = .ok (.iload 7, 2) := by decide +kernel
theorem dX1_tryOrders_58 : decode cX1_tryOrders 58 = .ok (.iaload, 1) := by decide +kernel
theorem dX1_tryOrders_59 : decode cX1_tryOrders 59 = .ok (.istore 8, 2) := by decide +kernel
theorem dX1_tryOrders_61 : decode cX1_tryOrders 61 = .ok (.iload_n 3, 1) := by decide +kernel
theorem dX1_tryOrders_62 : decode cX1_tryOrders 62 = .ok (.iload_n 2, 1) := by decide +kernel
theorem dX1_tryOrders_63 : decode cX1_tryOrders 63 = .ok (.iload 8, 2) := by decide +kernel
theorem dX1_tryOrders_65 : decode cX1_tryOrders 65 = .ok (.invokestatic 46, 3) := by decide +kernel
theorem dX1_tryOrders_68 : decode cX1_tryOrders 68 = .ok (.iadd, 1) := by decide +kernel
theorem dX1_tryOrders_69 : decode cX1_tryOrders 69 = .ok (.istore 9, 2) := by decide +kernel
theorem dX1_tryOrders_71 : decode cX1_tryOrders 71 = .ok (.aload_n 0, 1) := by decide +kernel
theorem dX1_tryOrders_72 : decode cX1_tryOrders 72 = .ok (.getfield 20, 3) := by decide +kernel
theorem dX1_tryOrders_75 : decode cX1_tryOrders 75 = .ok (.iload 6, 2) := by decide +kernel
theorem dX1_tryOrders_77 : decode cX1_tryOrders 77 = .ok (.iload 7, 2) := by decide +kernel
theorem dX1_tryOrders_79 : decode cX1_tryOrders 79 = .ok (.iconst 1, 1) := by decide +kernel
theorem dX1_tryOrders_80 : decode cX1_tryOrders 80 = .ok (.iadd, 1) := by decide +kernel
theorem dX1_tryOrders_81 : decode cX1_tryOrders 81 = .ok (.iastore, 1) := by decide +kernel
theorem dX1_tryOrders_82 : decode cX1_tryOrders 82 = .ok (.aload_n 0, 1) := by decide +kernel
theorem dX1_tryOrders_83 : decode cX1_tryOrders 83 = .ok (.iload_n 1, 1) := by decide +kernel
theorem dX1_tryOrders_84 : decode cX1_tryOrders 84 = .ok (.iconst 1, 1) := by decide +kernel
theorem dX1_tryOrders_85 : decode cX1_tryOrders 85 = .ok (.isub, 1) := by decide +kernel
theorem dX1_tryOrders_86 : decode cX1_tryOrders 86 = .ok (.iload 8, 2) := by decide +kernel
theorem dX1_tryOrders_88 : decode cX1_tryOrders 88 = .ok (.iload 9, 2) := by decide +kernel
theorem dX1_tryOrders_90 : decode cX1_tryOrders 90 = .ok (.iload 5, 2) := by decide +kernel
theorem dX1_tryOrders_92 : decode cX1_tryOrders 92 = .ok (.invokestatic 60, 3) := by decide +kernel
theorem dX1_tryOrders_95 : decode cX1_tryOrders 95 = .ok (.istore 5, 2) := by decide +kernel
theorem dX1_tryOrders_97 : decode cX1_tryOrders 97 = .ok (.aload_n 0, 1) := by decide +kernel
theorem dX1_tryOrders_98 : decode cX1_tryOrders 98 = .ok (.getfield 20, 3) := by decide +kernel
theorem dX1_tryOrders_101 : decode cX1_tryOrders 101 = .ok (.iload 6, 2) := by decide +kernel
theorem dX1_tryOrders_103 : decode cX1_tryOrders 103 = .ok (.iload 7, 2) := by decide +kernel
theorem dX1_tryOrders_105 : decode cX1_tryOrders 105 = .ok (.iastore, 1) := by decide +kernel
theorem dX1_tryOrders_106 : decode cX1_tryOrders 106 = .ok (.iinc 6 1, 3) := by decide +kernel
theorem dX1_tryOrders_109 : decode cX1_tryOrders 109 = .ok (.goto (-87), 3) := by decide +kernel
theorem dX1_tryOrders_112 : decode cX1_tryOrders 112 = .ok (.iload 5, 2) := by decide +kernel
theorem dX1_tryOrders_114 : decode cX1_tryOrders 114 = .ok (.ireturn, 1) := by decide +kernel
