theorem dL_cell_0 : decode cL_cell 0 = .ok (.iload_n 1, 1) := by decide +kernel
theorem dL_cell_1 : decode cL_cell 1 = .ok (.aload_n 0, 1) := by decide +kernel
theorem dL_cell_2 : decode cL_cell 2 = .ok (.arraylength, 1) := by decide +kernel
theorem dL_cell_3 : decode cL_cell 3 = .ok (.if_icmp .ge 9, 3) := by decide +kernel
theorem dL_cell_6 : decode cL_cell 6 = .ok (.aload_n 0, 1) := by decide +kernel
theorem dL_cell_7 : decode cL_cell 7 = .ok (.iload_n 1, 1) := by decide +kernel
theorem dL_cell_8 : decode cL_cell 8 = .ok (.iaload, 1) := by decide +kernel
theorem dL_cell_9 : decode cL_cell 9 = .ok (.goto 9, 3) := by decide +kernel
theorem dL_cell_12 : decode cL_cell 12 = .ok (.ldc 7, 2) := by decide +kernel
theorem dL_cell_14 : decode cL_cell 14 = .ok (.iload_n 1, 1) := by decide +kernel
theorem dL_cell_15 : decode cL_cell 15 = .ok (.iconst 1, 1) := by decide +kernel
theorem dL_cell_16 : decode cL_cell 16 = .ok (.iadd, 1) := by decide +kernel
theorem dL_cell_17 : decode cL_cell 17 = .ok (.imul, 1) := by decide +kernel
theorem dL_cell_18 : decode cL_cell 18 = .ok (.ireturn, 1) := by decide +kernel
theorem dL_at_0 : decode cL_at 0 = .ok (.iload_n 0, 1) := by decide +kernel
theorem dL_at_1 : decode cL_at 1 = .ok (.iconst 1, 1) := by decide +kernel
theorem dL_at_2 : decode cL_at 2 = .ok (.iushr, 1) := by decide +kernel
theorem dL_at_3 : decode cL_at 3 = .ok (.iload_n 1, 1) := by decide +kernel
theorem dL_at_4 : decode cL_at 4 = .ok (.irem, 1) := by decide +kernel
theorem dL_at_5 : decode cL_at 5 = .ok (.ireturn, 1) := by decide +kernel
set_option maxRecDepth 20000 in
theorem ggL_fill_X2_begin : GoodIn wsL_fill wsX2_begin := goodIn_ca (goodIn_r _ [5, 6, 7, 8, 9, 10, 11, 12, 13, 14, 4, 15, 16, 17, 18, 19, 20, 21, 22, 23, 24, 25, 26, 27, 82, 83, 84, 85, 86, 87, 88, 89, 90, 91, 92, 93, 94, 95, 96, 97, 98, 99, 100] (by decide +kernel) (by decide +kernel)) (goodIn_sub (fun _ h => List.mem_cons_of_mem _ (List.mem_append_left _ (List.mem_append_left _ (List.mem_append_right _ h)))) (by decide +kernel))
set_option maxRecDepth 20000 in
theorem gL_fill_X2_begin : GoodIn wsL_fill (wsV RL 8 RX2 yX2_begin wsX2_begin) := goodIn_app (goodIn_of _ (by decide +kernel)) ggL_fill_X2_begin
set_option maxRecDepth 20000 in
theorem ggL_fill_L_at : GoodIn wsL_fill wsL_at := goodIn_r _ [31] (by decide +kernel) (by decide +kernel)
set_option maxRecDepth 20000 in
theorem gL_fill_L_at : GoodIn wsL_fill (va_wsS RL 14 yL_at wsL_at) := goodIn_app (goodIn_of _ (by decide +kernel)) ggL_fill_L_at
set_option maxRecDepth 20000 in
theorem ggL_fill_X2_inLane : GoodIn wsL_fill wsX2_inLane := goodIn_ca (goodIn_r _ [35, 36, 37, 16, 38, 39, 40, 4, 41, 9, 42, 43, 44, 25, 45, 27, 82, 83, 84, 85, 86, 87, 88, 89, 90, 91, 92, 93, 94, 95, 96, 97, 98, 99, 100] (by decide +kernel) (by decide +kernel)) (goodIn_sub (fun _ h => List.mem_cons_of_mem _ (List.mem_append_left _ (List.mem_append_right _ h))) (by decide +kernel))
set_option maxRecDepth 20000 in
theorem gL_fill_X2_inLane : GoodIn wsL_fill (wsV RL 20 RX2 yX2_inLane wsX2_inLane) := goodIn_app (goodIn_of _ (by decide +kernel)) ggL_fill_X2_inLane
set_option maxRecDepth 20000 in
theorem ggL_fill_X2_arriveIn : GoodIn wsL_fill wsX2_arriveIn := goodIn_ca (goodIn_ca (goodIn_ca (goodIn_r _ [49, 6, 7, 36, 37, 50, 51, 8, 52, 53, 4, 54, 38, 39, 40, 41, 9, 55, 56, 57, 58, 16, 10, 42, 43, 44, 25, 45, 27, 59, 60, 61, 62, 63, 64, 65, 66, 67, 68, 18, 69, 70, 71, 72, 73, 74, 75, 76, 77, 82, 83, 84, 85, 86, 87, 88, 89, 90, 91, 92, 93, 94, 95, 96, 97, 98, 99, 100] (by decide +kernel) (by decide +kernel)) (goodIn_sub (fun _ h => List.mem_cons_of_mem _ (List.mem_append_left _ (List.mem_append_left _ (List.mem_append_right _ h)))) (by decide +kernel))) (goodIn_sub (fun _ h => List.mem_cons_of_mem _ (List.mem_append_left _ (List.mem_append_right _ h))) (by decide +kernel))) (goodIn_sub (fun _ h => List.mem_cons_of_mem _ (List.mem_append_right _ h)) (by decide +kernel))
set_option maxRecDepth 20000 in
theorem gL_fill_X2_arriveIn : GoodIn wsL_fill (wsV RL 24 RX2 yX2_arriveIn wsX2_arriveIn) := goodIn_app (goodIn_of _ (by decide +kernel)) ggL_fill_X2_arriveIn
set_option maxRecDepth 20000 in
theorem ggL_fill_X2_bodies : GoodIn wsL_fill wsX2_bodies := goodIn_r _ [81, 8, 82, 83, 84, 85, 86, 87, 88, 89, 90, 91, 92, 93, 94, 95, 96, 97, 98] (by decide +kernel) (by decide +kernel)
set_option maxRecDepth 20000 in
theorem gL_fill_X2_bodies : GoodIn wsL_fill (wsV RL 27 RX2 yX2_bodies wsX2_bodies) := goodIn_app (goodIn_of _ (by decide +kernel)) ggL_fill_X2_bodies
theorem dL_fill_0 : decode cL_fill 0 = .ok (.aload_n 0, 1) := by decide +kernel
theorem dL_fill_1 : decode cL_fill 1 = .ok (.iload_n 1, 1) := by decide +kernel
theorem dL_fill_2 : decode cL_fill 2 = .ok (.iconst 5, 1) := by decide +kernel
theorem dL_fill_3 : decode cL_fill 3 = .ok (.bipush 6, 2) := by decide +kernel
theorem dL_fill_5 : decode cL_fill 5 = .ok (.invokevirtual 8, 3) := by decide +kernel
theorem dL_fill_8 : decode cL_fill 8 = .ok (.pop, 1) := by decide +kernel
theorem dL_fill_9 : decode cL_fill 9 = .ok (.iload_n 2, 1) := by decide +kernel
theorem dL_fill_10 : decode cL_fill 10 = .ok (.bipush 13, 2) := by decide +kernel
theorem dL_fill_12 : decode cL_fill 12 = .ok (.invokestatic 14, 3) := by decide +kernel
theorem dL_fill_15 : decode cL_fill 15 = .ok (.istore 4, 2) := by decide +kernel
theorem dL_fill_17 : decode cL_fill 17 = .ok (.iconst 0, 1) := by decide +kernel
theorem dL_fill_18 : decode cL_fill 18 = .ok (.istore 5, 2) := by decide +kernel
theorem dL_fill_20 : decode cL_fill 20 = .ok (.iload 5, 2) := by decide +kernel
theorem dL_fill_22 : decode cL_fill 22 = .ok (.iload 4, 2) := by decide +kernel
theorem dL_fill_24 : decode cL_fill 24 = .ok (.if_icmp .ge 77, 3) := by decide +kernel
theorem dL_fill_27 : decode cL_fill 27 = .ok (.iload_n 3, 1) := by decide +kernel
theorem dL_fill_28 : decode cL_fill 28 = .ok (.bipush 61, 2) := by decide +kernel
theorem dL_fill_30 : decode cL_fill 30 = .ok (.iload 5, 2) := by decide +kernel
theorem dL_fill_32 : decode cL_fill 32 = .ok (.imul, 1) := by decide +kernel
theorem dL_fill_33 : decode cL_fill 33 = .ok (.iload 5, 2) := by decide +kernel
theorem dL_fill_35 : decode cL_fill 35 = .ok (.imul, 1) := by decide +kernel
theorem dL_fill_36 : decode cL_fill 36 = .ok (.iadd, 1) := by decide +kernel
theorem dL_fill_37 : decode cL_fill 37 = .ok (.iload 5, 2) := by decide +kernel
theorem dL_fill_39 : decode cL_fill 39 = .ok (.bipush 7, 2) := by decide +kernel
theorem dL_fill_41 : decode cL_fill 41 = .ok (.irem, 1) := by decide +kernel
theorem dL_fill_42 : decode cL_fill 42 = .ok (.ishr, 1) := by decide +kernel
theorem dL_fill_43 : decode cL_fill 43 = .ok (.iload_n 1, 1) := by decide +kernel
theorem dL_fill_44 : decode cL_fill 44 = .ok (.invokestatic 14, 3) := by decide +kernel
theorem dL_fill_47 : decode cL_fill 47 = .ok (.istore 6, 2) := by decide +kernel
theorem dL_fill_49 : decode cL_fill 49 = .ok (.aload_n 0, 1) := by decide +kernel
theorem dL_fill_50 : decode cL_fill 50 = .ok (.iload 6, 2) := by decide +kernel
theorem dL_fill_52 : decode cL_fill 52 = .ok (.invokevirtual 20, 3) := by decide +kernel
theorem dL_fill_55 : decode cL_fill 55 = .ok (.iconst 5, 1) := by decide +kernel
theorem dL_fill_56 : decode cL_fill 56 = .ok (.if_icmp .ge 39, 3) := by decide +kernel
theorem dL_fill_59 : decode cL_fill 59 = .ok (.aload_n 0, 1) := by decide +kernel
theorem dL_fill_60 : decode cL_fill 60 = .ok (.iload_n 2, 1) := by decide +kernel
theorem dL_fill_61 : decode cL_fill 61 = .ok (.iconst 5, 1) := by decide +kernel
theorem dL_fill_62 : decode cL_fill 62 = .ok (.ishr, 1) := by decide +kernel
theorem dL_fill_63 : decode cL_fill 63 = .ok (.iload 5, 2) := by decide +kernel
theorem dL_fill_65 : decode cL_fill 65 = .ok (.iconst 1, 1) := by decide +kernel
theorem dL_fill_66 : decode cL_fill 66 = .ok (.iadd, 1) := by decide +kernel
theorem dL_fill_67 : decode cL_fill 67 = .ok (.imul, 1) := by decide +kernel
theorem dL_fill_68 : decode cL_fill 68 = .ok (.iload_n 3, 1) := by decide +kernel
theorem dL_fill_69 : decode cL_fill 69 = .ok (.iadd, 1) := by decide +kernel
theorem dL_fill_70 : decode cL_fill 70 = .ok (.iload_n 3, 1) := by decide +kernel
theorem dL_fill_71 : decode cL_fill 71 = .ok (.bipush 9, 2) := by decide +kernel
theorem dL_fill_73 : decode cL_fill 73 = .ok (.ishr, 1) := by decide +kernel
theorem dL_fill_74 : decode cL_fill 74 = .ok (.iconst 2, 1) := by decide +kernel
theorem dL_fill_75 : decode cL_fill 75 = .ok (.invokestatic 14, 3) := by decide +kernel
theorem dL_fill_78 : decode cL_fill 78 = .ok (.ifCond .ne 7, 3) := by decide +kernel
theorem dL_fill_81 : decode cL_fill 81 = .ok (.iconst 3, 1) := by decide +kernel
theorem dL_fill_82 : decode cL_fill 82 = .ok (.goto 4, 3) := by decide +kernel
theorem dL_fill_85 : decode cL_fill 85 = .ok (.iconst 5, 1) := by decide +kernel
theorem dL_fill_86 : decode cL_fill 86 = .ok (.invokestatic 14, 3) := by decide +kernel
theorem dL_fill_89 : decode cL_fill 89 = .ok (.iload 6, 2) := by decide +kernel
theorem dL_fill_91 : decode cL_fill 91 = .ok (.invokevirtual 24, 3) := by decide +kernel
theorem dL_fill_94 : decode cL_fill 94 = .ok (.pop, 1) := by decide +kernel
theorem dL_fill_95 : decode cL_fill 95 = .ok (.iinc 5 1, 3) := by decide +kernel
theorem dL_fill_98 : decode cL_fill 98 = .ok (.goto (-78), 3) := by decide +kernel
theorem dL_fill_101 : decode cL_fill 101 = .ok (.aload_n 0, 1) := by decide +kernel
theorem dL_fill_102 : decode cL_fill 102 = .ok (.invokevirtual 27, 3) := by decide +kernel
theorem dL_fill_105 : decode cL_fill 105 = .ok (.ireturn, 1) := by decide +kernel
set_option maxRecDepth 20000 in
theorem ggL_first_L_at : GoodIn wsL_first wsL_at := goodIn_r _ [4] (by decide +kernel) (by decide +kernel)
set_option maxRecDepth 20000 in
theorem gL_first_L_at : GoodIn wsL_first (va_wsS RL 14 yL_at wsL_at) := goodIn_app (goodIn_of _ (by decide +kernel)) ggL_first_L_at
set_option maxRecDepth 20000 in
theorem ggL_first_X2_inLane : GoodIn wsL_first wsX2_inLane := goodIn_ca (goodIn_r _ [9, 10, 11, 12, 13, 14, 15, 8, 16, 17, 18, 19, 20, 21, 22, 23, 88, 89, 90, 91, 92, 93, 94, 95, 96, 97, 98, 99, 100, 101, 102, 103, 104, 105, 106] (by decide +kernel) (by decide +kernel)) (goodIn_sub (fun _ h => List.mem_cons_of_mem _ (List.mem_append_left _ (List.mem_append_right _ h))) (by decide +kernel))
set_option maxRecDepth 20000 in
theorem gL_first_X2_inLane : GoodIn wsL_first (wsV RL 20 RX2 yX2_inLane wsX2_inLane) := goodIn_app (goodIn_of _ (by decide +kernel)) ggL_first_X2_inLane
set_option maxRecDepth 20000 in
theorem ggL_first_X2_releaseFrom : GoodIn wsL_first wsX2_releaseFrom := goodIn_ca (goodIn_ca (goodIn_r _ [27, 10, 11, 28, 29, 12, 13, 14, 15, 8, 16, 17, 30, 31, 32, 21, 33, 23, 34, 35, 36, 37, 38, 39, 40, 41, 42, 43, 44, 45, 46, 47, 48, 49, 50, 51, 52, 53, 54, 55, 56, 57, 58, 59, 60, 61, 62, 63, 64, 65, 66, 67, 68, 88, 89, 90, 91, 92, 93, 94, 95, 96, 97, 98, 99, 100, 101, 102, 103, 104, 105, 106] (by decide +kernel) (by decide +kernel)) (goodIn_sub (fun _ h => List.mem_cons_of_mem _ (List.mem_append_left _ (List.mem_append_right _ h))) (by decide +kernel))) (goodIn_sub (fun _ h => List.mem_cons_of_mem _ (List.mem_append_right _ h)) (by decide +kernel))
set_option maxRecDepth 20000 in
theorem gL_first_X2_releaseFrom : GoodIn wsL_first (wsV RL 31 RX2 yX2_releaseFrom wsX2_releaseFrom) := goodIn_app (goodIn_of _ (by decide +kernel)) ggL_first_X2_releaseFrom
set_option maxRecDepth 20000 in
theorem ggL_first_X2_stored : GoodIn wsL_first wsX2_stored := goodIn_r _ [72, 39, 40, 41, 8, 42, 43, 44, 88, 89, 90, 91, 92, 93, 94, 95, 96, 97, 98, 99, 100, 101, 102, 103, 104] (by decide +kernel) (by decide +kernel)
set_option maxRecDepth 20000 in
theorem gL_first_X2_stored : GoodIn wsL_first (wsV RL 34 RX2 yX2_stored wsX2_stored) := goodIn_app (goodIn_of _ (by decide +kernel)) ggL_first_X2_stored
set_option maxRecDepth 20000 in
theorem ggL_first_X2_assemble : GoodIn wsL_first wsX2_assemble := goodIn_ca (goodIn_r _ [76, 28, 29, 44, 77, 78, 79, 80, 81, 82, 8, 83, 43, 88, 89, 90, 91, 92, 93, 94, 95, 96, 97, 98, 99, 100, 101, 102, 103, 104] (by decide +kernel) (by decide +kernel)) (goodIn_sub (fun _ h => List.mem_cons_of_mem _ (List.mem_append_right _ h)) (by decide +kernel))
set_option maxRecDepth 20000 in
theorem gL_first_X2_assemble : GoodIn wsL_first (wsV RL 37 RX2 yX2_assemble wsX2_assemble) := goodIn_app (goodIn_of _ (by decide +kernel)) ggL_first_X2_assemble
set_option maxRecDepth 20000 in
theorem ggL_first_X2_where : GoodIn wsL_first wsX2_where := goodIn_ca (goodIn_r _ [87, 10, 11, 44, 62, 63, 64, 8, 65, 43, 88, 89, 90, 91, 92, 93, 94, 95, 96, 97, 98, 99, 100, 101, 102, 103, 104] (by decide +kernel) (by decide +kernel)) (goodIn_sub (fun _ h => List.mem_cons_of_mem _ (List.mem_append_left _ (List.mem_append_right _ h))) (by decide +kernel))
set_option maxRecDepth 20000 in
theorem gL_first_X2_where : GoodIn wsL_first (wsV RL 40 RX2 yX2_where wsX2_where) := goodIn_app (goodIn_of _ (by decide +kernel)) ggL_first_X2_where
theorem dL_first_0 : decode cL_first 0 = .ok (.iconst 0, 1) := by decide +kernel
theorem dL_first_1 : decode cL_first 1 = .ok (.istore 4, 2) := by decide +kernel
theorem dL_first_3 : decode cL_first 3 = .ok (.iload 4, 2) := by decide +kernel
theorem dL_first_5 : decode cL_first 5 = .ok (.iload_n 3, 1) := by decide +kernel
theorem dL_first_6 : decode cL_first 6 = .ok (.if_icmp .ge 71, 3) := by decide +kernel
theorem dL_first_9 : decode cL_first 9 = .ok (.iload_n 2, 1) := by decide +kernel
theorem dL_first_10 : decode cL_first 10 = .ok (.iconst 2, 1) := by decide +kernel
theorem dL_first_11 : decode cL_first 11 = .ok (.iload 4, 2) := by decide +kernel
theorem dL_first_13 : decode cL_first 13 = .ok (.imul, 1) := by decide +kernel
theorem dL_first_14 : decode cL_first 14 = .ok (.ishr, 1) := by decide +kernel
theorem dL_first_15 : decode cL_first 15 = .ok (.iload_n 1, 1) := by decide +kernel
theorem dL_first_16 : decode cL_first 16 = .ok (.invokestatic 14, 3) := by decide +kernel
theorem dL_first_19 : decode cL_first 19 = .ok (.istore 5, 2) := by decide +kernel
theorem dL_first_21 : decode cL_first 21 = .ok (.aload_n 0, 1) := by decide +kernel
theorem dL_first_22 : decode cL_first 22 = .ok (.iload 5, 2) := by decide +kernel
theorem dL_first_24 : decode cL_first 24 = .ok (.invokevirtual 20, 3) := by decide +kernel
theorem dL_first_27 : decode cL_first 27 = .ok (.ifCond .ne 6, 3) := by decide +kernel
theorem dL_first_30 : decode cL_first 30 = .ok (.goto 41, 3) := by decide +kernel
theorem dL_first_33 : decode cL_first 33 = .ok (.aload_n 0, 1) := by decide +kernel
theorem dL_first_34 : decode cL_first 34 = .ok (.iload 5, 2) := by decide +kernel
theorem dL_first_36 : decode cL_first 36 = .ok (.invokevirtual 31, 3) := by decide +kernel
theorem dL_first_39 : decode cL_first 39 = .ok (.istore 6, 2) := by decide +kernel
theorem dL_first_41 : decode cL_first 41 = .ok (.aload_n 0, 1) := by decide +kernel
theorem dL_first_42 : decode cL_first 42 = .ok (.invokevirtual 34, 3) := by decide +kernel
theorem dL_first_45 : decode cL_first 45 = .ok (.iconst 1, 1) := by decide +kernel
theorem dL_first_46 : decode cL_first 46 = .ok (.if_icmp .ne 23, 3) := by decide +kernel
theorem dL_first_49 : decode cL_first 49 = .ok (.aload_n 0, 1) := by decide +kernel
theorem dL_first_50 : decode cL_first 50 = .ok (.invokevirtual 37, 3) := by decide +kernel
theorem dL_first_53 : decode cL_first 53 = .ok (.iload 6, 2) := by decide +kernel
theorem dL_first_55 : decode cL_first 55 = .ok (.if_icmp .ne 14, 3) := by decide +kernel
theorem dL_first_58 : decode cL_first 58 = .ok (.aload_n 0, 1) := by decide +kernel
theorem dL_first_59 : decode cL_first 59 = .ok (.iload 6, 2) := by decide +kernel
theorem dL_first_61 : decode cL_first 61 = .ok (.invokevirtual 40, 3) := by decide +kernel
theorem dL_first_64 : decode cL_first 64 = .ok (.bipush 12, 2) := by decide +kernel
theorem dL_first_66 : decode cL_first 66 = .ok (.if_icmp .eq 5, 3) := by decide +kernel
theorem dL_first_69 : decode cL_first 69 = .ok (.iconst 0, 1) := by decide +kernel
theorem dL_first_70 : decode cL_first 70 = .ok (.ireturn, 1) := by decide +kernel
theorem dL_first_71 : decode cL_first 71 = .ok (.iinc 4 1, 3) := by decide +kernel
theorem dL_first_74 : decode cL_first 74 = .ok (.goto (-71), 3) := by decide +kernel
theorem dL_first_77 : decode cL_first 77 = .ok (.iconst 1, 1) := by decide +kernel
theorem dL_first_78 : decode cL_first 78 = .ok (.ireturn, 1) := by decide +kernel
set_option maxRecDepth 20000 in
theorem ggL_bounds_L_fill : GoodIn wsL_bounds wsL_fill := goodIn_ca (goodIn_ca (goodIn_ca (goodIn_r _ [4, 5, 6, 7, 8, 9, 10, 11, 12, 13, 14, 15, 16, 17, 18, 19, 20, 21, 22, 23, 24, 25, 26, 27, 28, 29, 30, 31, 32, 33, 3, 34, 35, 36, 37, 38, 39, 40, 41, 42, 43, 44, 45, 46, 47, 48, 49, 50, 51, 52, 53, 54, 55, 56, 57, 58, 59, 60, 61, 62, 63, 64, 65, 66, 67, 68, 69, 70, 71, 72, 73, 74, 75, 76, 77, 78, 79, 80, 81, 82, 83, 84, 202, 203, 204, 205, 206, 207, 208, 209, 210, 211, 212, 213, 214, 215, 216, 217, 218, 219, 220] (by decide +kernel) (by decide +kernel)) (goodIn_sub (fun _ h => List.mem_cons_of_mem _ (List.mem_append_left _ (List.mem_append_left _ (List.mem_append_right _ h)))) (by decide +kernel))) (goodIn_sub (fun _ h => List.mem_cons_of_mem _ (List.mem_append_left _ (List.mem_append_right _ h))) (by decide +kernel))) (goodIn_sub (fun _ h => List.mem_cons_of_mem _ (List.mem_append_right _ h)) (by decide +kernel))
set_option maxRecDepth 20000 in
theorem gL_bounds_L_fill : GoodIn wsL_bounds (va_wsS RL 43 yL_fill wsL_fill) := goodIn_app (goodIn_of _ (by decide +kernel)) ggL_bounds_L_fill
set_option maxRecDepth 20000 in
theorem ggL_bounds_L_first : GoodIn wsL_bounds wsL_first := goodIn_ca (goodIn_ca (goodIn_r _ [87, 32, 33, 3, 34, 35, 36, 37, 8, 38, 39, 40, 20, 41, 42, 43, 44, 13, 45, 46, 47, 29, 48, 31, 88, 89, 90, 91, 53, 54, 92, 93, 94, 95, 96, 97, 98, 99, 15, 100, 101, 102, 103, 12, 71, 104, 105, 106, 107, 24, 23, 66, 25, 108, 109, 110, 111, 76, 112, 113, 114, 115, 116, 117, 118, 119, 120, 121, 122, 123, 124, 125, 126, 127, 128, 129, 130, 131, 21, 132, 133, 134, 135, 136, 137, 138, 139, 140, 202, 203, 204, 205, 206, 207, 208, 209, 210, 211, 212, 213, 214, 215, 216, 217, 218, 219, 220] (by decide +kernel) (by decide +kernel)) (goodIn_sub (fun _ h => List.mem_cons_of_mem _ (List.mem_append_left _ (List.mem_append_right _ h))) (by decide +kernel))) (goodIn_sub (fun _ h => List.mem_cons_of_mem _ (List.mem_append_right _ h)) (by decide +kernel))
set_option maxRecDepth 20000 in
theorem gL_bounds_L_first : GoodIn wsL_bounds (va_wsS RL 47 yL_first wsL_first) := goodIn_app (goodIn_of _ (by decide +kernel)) ggL_bounds_L_first
set_option maxRecDepth 20000 in
theorem ggL_bounds_X2_inLane : GoodIn wsL_bounds wsX2_inLane := goodIn_ca (goodIn_r _ [38, 39, 40, 20, 41, 42, 43, 8, 44, 13, 45, 46, 47, 29, 48, 31, 202, 203, 204, 205, 206, 207, 208, 209, 210, 211, 212, 213, 214, 215, 216, 217, 218, 219, 220] (by decide +kernel) (by decide +kernel)) (goodIn_sub (fun _ h => List.mem_cons_of_mem _ (List.mem_append_left _ (List.mem_append_right _ h))) (by decide +kernel))
set_option maxRecDepth 20000 in
theorem gL_bounds_X2_inLane : GoodIn wsL_bounds (wsV RL 20 RX2 yX2_inLane wsX2_inLane) := goodIn_app (goodIn_of _ (by decide +kernel)) ggL_bounds_X2_inLane
set_option maxRecDepth 20000 in
theorem ggL_bounds_X2_changes : GoodIn wsL_bounds wsX2_changes := goodIn_r _ [144, 24, 202, 203, 204, 205, 206, 207, 208, 209, 210, 211, 212, 213, 214, 215, 216, 217, 218] (by decide +kernel) (by decide +kernel)
set_option maxRecDepth 20000 in
theorem gL_bounds_X2_changes : GoodIn wsL_bounds (wsV RL 51 RX2 yX2_changes wsX2_changes) := goodIn_app (goodIn_of _ (by decide +kernel)) ggL_bounds_X2_changes
set_option maxRecDepth 20000 in
theorem ggL_bounds_X2_releaseFrom : GoodIn wsL_bounds wsX2_releaseFrom := goodIn_ca (goodIn_ca (goodIn_r _ [91, 39, 40, 53, 54, 20, 41, 42, 43, 8, 44, 13, 92, 93, 94, 29, 95, 31, 96, 97, 98, 99, 15, 100, 101, 102, 103, 12, 71, 104, 105, 106, 107, 24, 23, 66, 25, 108, 109, 110, 111, 76, 112, 113, 114, 115, 116, 117, 118, 119, 120, 121, 122, 202, 203, 204, 205, 206, 207, 208, 209, 210, 211, 212, 213, 214, 215, 216, 217, 218, 219, 220] (by decide +kernel) (by decide +kernel)) (goodIn_sub (fun _ h => List.mem_cons_of_mem _ (List.mem_append_left _ (List.mem_append_right _ h))) (by decide +kernel))) (goodIn_sub (fun _ h => List.mem_cons_of_mem _ (List.mem_append_right _ h)) (by decide +kernel))
set_option maxRecDepth 20000 in
theorem gL_bounds_X2_releaseFrom : GoodIn wsL_bounds (wsV RL 31 RX2 yX2_releaseFrom wsX2_releaseFrom) := goodIn_app (goodIn_of _ (by decide +kernel)) ggL_bounds_X2_releaseFrom
set_option maxRecDepth 20000 in
theorem ggL_bounds_X2_fewestChanges : GoodIn wsL_bounds wsX2_fewestChanges := goodIn_ca (goodIn_r _ [148, 53, 54, 149, 23, 150, 151, 152, 8, 153, 13, 20, 45, 46, 47, 29, 48, 31, 154, 155, 156, 157, 158, 159, 160, 161, 162, 163, 164, 113, 114, 115, 76, 165, 166, 167, 168, 66, 116, 117, 118, 119, 12, 169, 170, 171, 172, 173, 174, 175, 176, 177, 178, 179, 180, 181, 182, 183, 184, 185, 186, 187, 188, 189, 190, 191, 192, 193, 194, 195, 196, 197, 198, 199, 200, 201, 202, 203, 204, 205, 206, 207, 208, 209, 210, 211, 212, 213, 214, 215, 216, 217, 218, 219, 220, 221, 222, 223, 224, 225, 226] (by decide +kernel) (by decide +kernel)) (goodIn_sub (fun _ h => List.mem_cons_of_mem _ (List.mem_append_right _ h)) (by decide +kernel))
set_option maxRecDepth 20000 in
theorem gL_bounds_X2_fewestChanges : GoodIn wsL_bounds (wsV RL 54 RX2 yX2_fewestChanges wsX2_fewestChanges) := goodIn_app (goodIn_of _ (by decide +kernel)) ggL_bounds_X2_fewestChanges
theorem dL_bounds_0 : decode cL_bounds 0 = .ok (.iconst 0, 1) := by decide +kernel
theorem dL_bounds_1 : decode cL_bounds 1 = .ok (.istore 6, 2) := by decide +kernel
theorem dL_bounds_3 : decode cL_bounds 3 = .ok (.iload 6, 2) := by decide +kernel
theorem dL_bounds_5 : decode cL_bounds 5 = .ok (.iload_n 1, 1) := by decide +kernel
theorem dL_bounds_6 : decode cL_bounds 6 = .ok (.if_icmp .ge 74, 3) := by decide +kernel
theorem dL_bounds_9 : decode cL_bounds 9 = .ok (.aload_n 0, 1) := by decide +kernel
theorem dL_bounds_10 : decode cL_bounds 10 = .ok (.iload_n 1, 1) := by decide +kernel
theorem dL_bounds_11 : decode cL_bounds 11 = .ok (.iload_n 2, 1) := by decide +kernel
theorem dL_bounds_12 : decode cL_bounds 12 = .ok (.iload_n 3, 1) := by decide +kernel
theorem dL_bounds_13 : decode cL_bounds 13 = .ok (.invokestatic 43, 3) := by decide +kernel
theorem dL_bounds_16 : decode cL_bounds 16 = .ok (.pop, 1) := by decide +kernel
theorem dL_bounds_17 : decode cL_bounds 17 = .ok (.aload_n 0, 1) := by decide +kernel
theorem dL_bounds_18 : decode cL_bounds 18 = .ok (.iload_n 1, 1) := by decide +kernel
theorem dL_bounds_19 : decode cL_bounds 19 = .ok (.iload 4, 2) := by decide +kernel
theorem dL_bounds_21 : decode cL_bounds 21 = .ok (.iconst 2, 1) := by decide +kernel
theorem dL_bounds_22 : decode cL_bounds 22 = .ok (.invokestatic 47, 3) := by decide +kernel
theorem dL_bounds_25 : decode cL_bounds 25 = .ok (.ifCond .ne 5, 3) := by decide +kernel
theorem dL_bounds_28 : decode cL_bounds 28 = .ok (.iconst 0, 1) := by decide +kernel
theorem dL_bounds_29 : decode cL_bounds 29 = .ok (.ireturn, 1) := by decide +kernel
theorem dL_bounds_30 : decode cL_bounds 30 = .ok (.aload_n 0, 1) := by decide +kernel
theorem dL_bounds_31 : decode cL_bounds 31 = .ok (.iload 6, 2) := by decide +kernel
theorem dL_bounds_33 : decode cL_bounds 33 = .ok (.invokevirtual 20, 3) := by decide +kernel
theorem dL_bounds_36 : decode cL_bounds 36 = .ok (.ifCond .ne 6, 3) := by decide +kernel
theorem dL_bounds_39 : decode cL_bounds 39 = .ok (.goto 35, 3) := by decide +kernel
theorem dL_bounds_42 : decode cL_bounds 42 = .ok (.aload_n 0, 1) := by decide +kernel
theorem dL_bounds_43 : decode cL_bounds 43 = .ok (.invokevirtual 51, 3) := by decide +kernel
theorem dL_bounds_46 : decode cL_bounds 46 = .ok (.istore 7, 2) := by decide +kernel
theorem dL_bounds_48 : decode cL_bounds 48 = .ok (.aload_n 0, 1) := by decide +kernel
theorem dL_bounds_49 : decode cL_bounds 49 = .ok (.iload 6, 2) := by decide +kernel
theorem dL_bounds_51 : decode cL_bounds 51 = .ok (.invokevirtual 31, 3) := by decide +kernel
theorem dL_bounds_54 : decode cL_bounds 54 = .ok (.pop, 1) := by decide +kernel
theorem dL_bounds_55 : decode cL_bounds 55 = .ok (.aload_n 0, 1) := by decide +kernel
theorem dL_bounds_56 : decode cL_bounds 56 = .ok (.invokevirtual 51, 3) := by decide +kernel
theorem dL_bounds_59 : decode cL_bounds 59 = .ok (.iload 7, 2) := by decide +kernel
theorem dL_bounds_61 : decode cL_bounds 61 = .ok (.isub, 1) := by decide +kernel
theorem dL_bounds_62 : decode cL_bounds 62 = .ok (.aload_n 0, 1) := by decide +kernel
theorem dL_bounds_63 : decode cL_bounds 63 = .ok (.invokevirtual 54, 3) := by decide +kernel
theorem dL_bounds_66 : decode cL_bounds 66 = .ok (.iadd, 1) := by decide +kernel
theorem dL_bounds_67 : decode cL_bounds 67 = .ok (.iload 5, 2) := by decide +kernel
theorem dL_bounds_69 : decode cL_bounds 69 = .ok (.if_icmp .ge 5, 3) := by decide +kernel
theorem dL_bounds_72 : decode cL_bounds 72 = .ok (.iconst 0, 1) := by decide +kernel
theorem dL_bounds_73 : decode cL_bounds 73 = .ok (.ireturn, 1) := by decide +kernel
theorem dL_bounds_74 : decode cL_bounds 74 = .ok (.iinc 6 1, 3) := by decide +kernel
theorem dL_bounds_77 : decode cL_bounds 77 = .ok (.goto (-74), 3) := by decide +kernel
theorem dL_bounds_80 : decode cL_bounds 80 = .ok (.iconst 1, 1) := by decide +kernel
theorem dL_bounds_81 : decode cL_bounds 81 = .ok (.ireturn, 1) := by decide +kernel
set_option maxRecDepth 20000 in
theorem ggL_follows_X2_changes : GoodIn wsL_follows wsX2_changes := goodIn_r _ [5, 6, 140, 141, 142, 143, 144, 145, 146, 147, 148, 149, 150, 151, 152, 153, 154, 155, 156] (by decide +kernel) (by decide +kernel)
set_option maxRecDepth 20000 in
theorem gL_follows_X2_changes : GoodIn wsL_follows (wsV RL 51 RX2 yX2_changes wsX2_changes) := goodIn_app (goodIn_of _ (by decide +kernel)) ggL_follows_X2_changes
set_option maxRecDepth 20000 in
theorem ggL_follows_X2_released : GoodIn wsL_follows wsX2_released := goodIn_r _ [10, 11, 140, 141, 142, 143, 144, 145, 146, 147, 148, 149, 150, 151, 152, 153, 154, 155, 156] (by decide +kernel) (by decide +kernel)
set_option maxRecDepth 20000 in
theorem gL_follows_X2_released : GoodIn wsL_follows (wsV RL 57 RX2 yX2_released wsX2_released) := goodIn_app (goodIn_of _ (by decide +kernel)) ggL_follows_X2_released
set_option maxRecDepth 20000 in
theorem ggL_follows_X2_bodies : GoodIn wsL_follows wsX2_bodies := goodIn_r _ [15, 16, 140, 141, 142, 143, 144, 145, 146, 147, 148, 149, 150, 151, 152, 153, 154, 155, 156] (by decide +kernel) (by decide +kernel)
set_option maxRecDepth 20000 in
theorem gL_follows_X2_bodies : GoodIn wsL_follows (wsV RL 27 RX2 yX2_bodies wsX2_bodies) := goodIn_app (goodIn_of _ (by decide +kernel)) ggL_follows_X2_bodies
set_option maxRecDepth 20000 in
theorem ggL_follows_X2_releaseBest : GoodIn wsL_follows wsX2_releaseBest := goodIn_ca (goodIn_r _ [20, 21, 22, 23, 24, 25, 26, 27, 4, 28, 29, 30, 31, 32, 33, 16, 34, 35, 36, 37, 38, 39, 40, 41, 42, 43, 44, 45, 46, 47, 48, 49, 50, 51, 52, 53, 54, 55, 56, 57, 58, 59, 60, 61, 62, 63, 64, 65, 66, 67, 68, 69, 70, 71, 72, 73, 74, 75, 76, 77, 78, 79, 80, 81, 82, 83, 84, 85, 86, 87, 88, 89, 90, 91, 92, 93, 94, 95, 96, 97, 98, 99, 100, 101, 102, 103, 104, 105, 106, 107, 108, 109, 110, 111, 112, 113, 114, 115, 116, 117, 6, 11, 118, 119, 120, 121, 122, 123, 140, 141, 142, 143, 144, 145, 146, 147, 148, 149, 150, 151, 152, 153, 154, 155, 156, 157, 158, 159, 160, 161, 162, 163, 164] (by decide +kernel) (by decide +kernel)) (goodIn_sub (fun _ h => List.mem_cons_of_mem _ (List.mem_append_right _ h)) (by decide +kernel))
set_option maxRecDepth 20000 in
theorem gL_follows_X2_releaseBest : GoodIn wsL_follows (wsV RL 60 RX2 yX2_releaseBest wsX2_releaseBest) := goodIn_app (goodIn_of _ (by decide +kernel)) ggL_follows_X2_releaseBest
set_option maxRecDepth 20000 in
theorem ggL_follows_X2_fewestChanges : GoodIn wsL_follows wsX2_fewestChanges := goodIn_ca (goodIn_r _ [127, 21, 22, 23, 24, 35, 36, 37, 4, 38, 39, 40, 41, 42, 43, 44, 45, 46, 47, 48, 49, 50, 51, 52, 53, 54, 55, 56, 57, 58, 59, 60, 61, 62, 63, 64, 65, 66, 67, 68, 69, 70, 16, 71, 72, 73, 74, 75, 128, 81, 82, 83, 84, 85, 86, 87, 88, 89, 90, 91, 92, 93, 94, 95, 96, 97, 98, 99, 100, 101, 102, 103, 104, 105, 106, 107, 140, 141, 142, 143, 144, 145, 146, 147, 148, 149, 150, 151, 152, 153, 154, 155, 156, 157, 158, 159, 160, 161, 162, 163, 164] (by decide +kernel) (by decide +kernel)) (goodIn_sub (fun _ h => List.mem_cons_of_mem _ (List.mem_append_right _ h)) (by decide +kernel))
set_option maxRecDepth 20000 in
theorem gL_follows_X2_fewestChanges : GoodIn wsL_follows (wsV RL 54 RX2 yX2_fewestChanges wsX2_fewestChanges) := goodIn_app (goodIn_of _ (by decide +kernel)) ggL_follows_X2_fewestChanges
set_option maxRecDepth 20000 in
theorem ggL_follows_X2_assemble : GoodIn wsL_follows wsX2_assemble := goodIn_ca (goodIn_r _ [132, 21, 22, 34, 133, 134, 135, 136, 137, 138, 4, 139, 16, 140, 141, 142, 143, 144, 145, 146, 147, 148, 149, 150, 151, 152, 153, 154, 155, 156] (by decide +kernel) (by decide +kernel)) (goodIn_sub (fun _ h => List.mem_cons_of_mem _ (List.mem_append_right _ h)) (by decide +kernel))
set_option maxRecDepth 20000 in
theorem gL_follows_X2_assemble : GoodIn wsL_follows (wsV RL 37 RX2 yX2_assemble wsX2_assemble) := goodIn_app (goodIn_of _ (by decide +kernel)) ggL_follows_X2_assemble
theorem dL_follows_0 : decode cL_follows 0 = .ok (.aload_n 0, 1) := by decide +kernel
theorem dL_follows_1 : decode cL_follows 1 = .ok (.invokevirtual 51, 3) := by decide +kernel
theorem dL_follows_4 : decode cL_follows 4 = .ok (.istore_n 2, 1) := by decide +kernel
theorem dL_follows_5 : decode cL_follows 5 = .ok (.iload_n 1, 1) := by decide +kernel
theorem dL_follows_6 : decode cL_follows 6 = .ok (.istore_n 3, 1) := by decide +kernel
theorem dL_follows_7 : decode cL_follows 7 = .ok (.aload_n 0, 1) := by decide +kernel
theorem dL_follows_8 : decode cL_follows 8 = .ok (.invokevirtual 57, 3) := by decide +kernel
theorem dL_follows_11 : decode cL_follows 11 = .ok (.aload_n 0, 1) := by decide +kernel
theorem dL_follows_12 : decode cL_follows 12 = .ok (.invokevirtual 27, 3) := by decide +kernel
theorem dL_follows_15 : decode cL_follows 15 = .ok (.if_icmp .ge 47, 3) := by decide +kernel
theorem dL_follows_18 : decode cL_follows 18 = .ok (.aload_n 0, 1) := by decide +kernel
theorem dL_follows_19 : decode cL_follows 19 = .ok (.invokevirtual 51, 3) := by decide +kernel
theorem dL_follows_22 : decode cL_follows 22 = .ok (.istore 4, 2) := by decide +kernel
theorem dL_follows_24 : decode cL_follows 24 = .ok (.aload_n 0, 1) := by decide +kernel
theorem dL_follows_25 : decode cL_follows 25 = .ok (.invokevirtual 60, 3) := by decide +kernel
theorem dL_follows_28 : decode cL_follows 28 = .ok (.istore 5, 2) := by decide +kernel
theorem dL_follows_30 : decode cL_follows 30 = .ok (.iload_n 3, 1) := by decide +kernel
theorem dL_follows_31 : decode cL_follows 31 = .ok (.aload_n 0, 1) := by decide +kernel
theorem dL_follows_32 : decode cL_follows 32 = .ok (.invokevirtual 51, 3) := by decide +kernel
theorem dL_follows_35 : decode cL_follows 35 = .ok (.iload 4, 2) := by decide +kernel
theorem dL_follows_37 : decode cL_follows 37 = .ok (.isub, 1) := by decide +kernel
theorem dL_follows_38 : decode cL_follows 38 = .ok (.isub, 1) := by decide +kernel
theorem dL_follows_39 : decode cL_follows 39 = .ok (.istore_n 3, 1) := by decide +kernel
theorem dL_follows_40 : decode cL_follows 40 = .ok (.aload_n 0, 1) := by decide +kernel
theorem dL_follows_41 : decode cL_follows 41 = .ok (.invokevirtual 54, 3) := by decide +kernel
theorem dL_follows_44 : decode cL_follows 44 = .ok (.iload_n 3, 1) := by decide +kernel
theorem dL_follows_45 : decode cL_follows 45 = .ok (.if_icmp .ne 12, 3) := by decide +kernel
theorem dL_follows_48 : decode cL_follows 48 = .ok (.aload_n 0, 1) := by decide +kernel
theorem dL_follows_49 : decode cL_follows 49 = .ok (.invokevirtual 37, 3) := by decide +kernel
theorem dL_follows_52 : decode cL_follows 52 = .ok (.iload 5, 2) := by decide +kernel
theorem dL_follows_54 : decode cL_follows 54 = .ok (.if_icmp .eq 5, 3) := by decide +kernel
theorem dL_follows_57 : decode cL_follows 57 = .ok (.iconst 0, 1) := by decide +kernel
theorem dL_follows_58 : decode cL_follows 58 = .ok (.ireturn, 1) := by decide +kernel
theorem dL_follows_59 : decode cL_follows 59 = .ok (.goto (-52), 3) := by decide +kernel
theorem dL_follows_62 : decode cL_follows 62 = .ok (.iload_n 3, 1) := by decide +kernel
theorem dL_follows_63 : decode cL_follows 63 = .ok (.ifCond .ne 17, 3) := by decide +kernel
theorem dL_follows_66 : decode cL_follows 66 = .ok (.aload_n 0, 1) := by decide +kernel
theorem dL_follows_67 : decode cL_follows 67 = .ok (.invokevirtual 51, 3) := by decide +kernel
theorem dL_follows_70 : decode cL_follows 70 = .ok (.iload_n 2, 1) := by decide +kernel
theorem dL_follows_71 : decode cL_follows 71 = .ok (.iload_n 1, 1) := by decide +kernel
theorem dL_follows_72 : decode cL_follows 72 = .ok (.iadd, 1) := by decide +kernel
theorem dL_follows_73 : decode cL_follows 73 = .ok (.if_icmp .ne 7, 3) := by decide +kernel
theorem dL_follows_76 : decode cL_follows 76 = .ok (.iconst 1, 1) := by decide +kernel
theorem dL_follows_77 : decode cL_follows 77 = .ok (.goto 4, 3) := by decide +kernel
theorem dL_follows_80 : decode cL_follows 80 = .ok (.iconst 0, 1) := by decide +kernel
theorem dL_follows_81 : decode cL_follows 81 = .ok (.ireturn, 1) := by decide +kernel
set_option maxRecDepth 20000 in
theorem ggL_ends_X2_assembledAt : GoodIn wsL_ends wsX2_assembledAt := goodIn_ca (goodIn_r _ [5, 6, 7, 8, 9, 35, 36, 37, 38, 39, 40, 41, 42, 43, 44, 45, 46, 47, 48, 49, 50, 51] (by decide +kernel) (by decide +kernel)) (goodIn_sub (fun _ h => List.mem_cons_of_mem _ (List.mem_append_left _ (List.mem_append_right _ h))) (by decide +kernel))
set_option maxRecDepth 20000 in
theorem gL_ends_X2_assembledAt : GoodIn wsL_ends (wsV RL 63 RX2 yX2_assembledAt wsX2_assembledAt) := goodIn_app (goodIn_of _ (by decide +kernel)) ggL_ends_X2_assembledAt
set_option maxRecDepth 20000 in
theorem ggL_ends_X2_lateness : GoodIn wsL_ends wsX2_lateness := goodIn_ca (goodIn_ca (goodIn_r _ [13, 6, 7, 14, 15, 16, 17, 18, 19, 20, 4, 21, 22, 35, 36, 37, 38, 39, 40, 41, 42, 43, 44, 45, 46, 47, 48, 49, 50, 51] (by decide +kernel) (by decide +kernel)) (goodIn_sub (fun _ h => List.mem_cons_of_mem _ (List.mem_append_left _ (List.mem_append_right _ h))) (by decide +kernel))) (goodIn_sub (fun _ h => List.mem_cons_of_mem _ (List.mem_append_right _ h)) (by decide +kernel))
set_option maxRecDepth 20000 in
theorem gL_ends_X2_lateness : GoodIn wsL_ends (wsV RL 66 RX2 yX2_lateness wsX2_lateness) := goodIn_app (goodIn_of _ (by decide +kernel)) ggL_ends_X2_lateness
set_option maxRecDepth 20000 in
theorem ggL_ends_X2_worstLateness : GoodIn wsL_ends wsX2_worstLateness := goodIn_r _ [26, 8, 9, 35, 36, 37, 38, 39, 40, 41, 42, 43, 44, 45, 46, 47, 48, 49, 50, 51] (by decide +kernel) (by decide +kernel)
set_option maxRecDepth 20000 in
theorem gL_ends_X2_worstLateness : GoodIn wsL_ends (wsV RL 69 RX2 yX2_worstLateness wsX2_worstLateness) := goodIn_app (goodIn_of _ (by decide +kernel)) ggL_ends_X2_worstLateness
set_option maxRecDepth 20000 in
theorem ggL_ends_X2_stored : GoodIn wsL_ends wsX2_stored := goodIn_r _ [30, 31, 32, 33, 4, 34, 22, 16, 35, 36, 37, 38, 39, 40, 41, 42, 43, 44, 45, 46, 47, 48, 49, 50, 51] (by decide +kernel) (by decide +kernel)
set_option maxRecDepth 20000 in
theorem gL_ends_X2_stored : GoodIn wsL_ends (wsV RL 34 RX2 yX2_stored wsX2_stored) := goodIn_app (goodIn_of _ (by decide +kernel)) ggL_ends_X2_stored
theorem dL_ends_0 : decode cL_ends 0 = .ok (.iconst 0, 1) := by decide +kernel
theorem dL_ends_1 : decode cL_ends 1 = .ok (.istore_n 2, 1) := by decide +kernel
theorem dL_ends_2 : decode cL_ends 2 = .ok (.iconst 0, 1) := by decide +kernel
theorem dL_ends_3 : decode cL_ends 3 = .ok (.istore_n 3, 1) := by decide +kernel
theorem dL_ends_4 : decode cL_ends 4 = .ok (.iconst 0, 1) := by decide +kernel
theorem dL_ends_5 : decode cL_ends 5 = .ok (.istore 4, 2) := by decide +kernel
theorem dL_ends_7 : decode cL_ends 7 = .ok (.iconst 0, 1) := by decide +kernel
theorem dL_ends_8 : decode cL_ends 8 = .ok (.istore 5, 2) := by decide +kernel
theorem dL_ends_10 : decode cL_ends 10 = .ok (.iload 5, 2) := by decide +kernel
theorem dL_ends_12 : decode cL_ends 12 = .ok (.iload_n 1, 1) := by decide +kernel
theorem dL_ends_13 : decode cL_ends 13 = .ok (.if_icmp .ge 57, 3) := by decide +kernel
theorem dL_ends_16 : decode cL_ends 16 = .ok (.aload_n 0, 1) := by decide +kernel
theorem dL_ends_17 : decode cL_ends 17 = .ok (.iload 5, 2) := by decide +kernel
theorem dL_ends_19 : decode cL_ends 19 = .ok (.invokevirtual 63, 3) := by decide +kernel
theorem dL_ends_22 : decode cL_ends 22 = .ok (.istore 6, 2) := by decide +kernel
theorem dL_ends_24 : decode cL_ends 24 = .ok (.iload_n 3, 1) := by decide +kernel
theorem dL_ends_25 : decode cL_ends 25 = .ok (.iconst 1, 1) := by decide +kernel
theorem dL_ends_26 : decode cL_ends 26 = .ok (.iload 6, 2) := by decide +kernel
theorem dL_ends_28 : decode cL_ends 28 = .ok (.ishl, 1) := by decide +kernel
theorem dL_ends_29 : decode cL_ends 29 = .ok (.ior, 1) := by decide +kernel
theorem dL_ends_30 : decode cL_ends 30 = .ok (.istore_n 3, 1) := by decide +kernel
theorem dL_ends_31 : decode cL_ends 31 = .ok (.iload_n 2, 1) := by decide +kernel
theorem dL_ends_32 : decode cL_ends 32 = .ok (.aload_n 0, 1) := by decide +kernel
theorem dL_ends_33 : decode cL_ends 33 = .ok (.iload 6, 2) := by decide +kernel
theorem dL_ends_35 : decode cL_ends 35 = .ok (.invokevirtual 66, 3) := by decide +kernel
theorem dL_ends_38 : decode cL_ends 38 = .ok (.iadd, 1) := by decide +kernel
theorem dL_ends_39 : decode cL_ends 39 = .ok (.istore_n 2, 1) := by decide +kernel
theorem dL_ends_40 : decode cL_ends 40 = .ok (.aload_n 0, 1) := by decide +kernel
theorem dL_ends_41 : decode cL_ends 41 = .ok (.iload 6, 2) := by decide +kernel
theorem dL_ends_43 : decode cL_ends 43 = .ok (.invokevirtual 66, 3) := by decide +kernel
theorem dL_ends_46 : decode cL_ends 46 = .ok (.iload 4, 2) := by decide +kernel
theorem dL_ends_48 : decode cL_ends 48 = .ok (.if_icmp .le 12, 3) := by decide +kernel
theorem dL_ends_51 : decode cL_ends 51 = .ok (.aload_n 0, 1) := by decide +kernel
theorem dL_ends_52 : decode cL_ends 52 = .ok (.iload 6, 2) := by decide +kernel
theorem dL_ends_54 : decode cL_ends 54 = .ok (.invokevirtual 66, 3) := by decide +kernel
theorem dL_ends_57 : decode cL_ends 57 = .ok (.goto 5, 3) := by decide +kernel
theorem dL_ends_60 : decode cL_ends 60 = .ok (.iload 4, 2) := by decide +kernel
theorem dL_ends_62 : decode cL_ends 62 = .ok (.istore 4, 2) := by decide +kernel
theorem dL_ends_64 : decode cL_ends 64 = .ok (.iinc 5 1, 3) := by decide +kernel
theorem dL_ends_67 : decode cL_ends 67 = .ok (.goto (-57), 3) := by decide +kernel
theorem dL_ends_70 : decode cL_ends 70 = .ok (.iload_n 2, 1) := by decide +kernel
theorem dL_ends_71 : decode cL_ends 71 = .ok (.ifCond .ne 32, 3) := by decide +kernel
theorem dL_ends_74 : decode cL_ends 74 = .ok (.iload_n 3, 1) := by decide +kernel
theorem dL_ends_75 : decode cL_ends 75 = .ok (.iconst 1, 1) := by decide +kernel
theorem dL_ends_76 : decode cL_ends 76 = .ok (.iload_n 1, 1) := by decide +kernel
theorem dL_ends_77 : decode cL_ends 77 = .ok (.ishl, 1) := by decide +kernel
theorem dL_ends_78 : decode cL_ends 78 = .ok (.iconst 1, 1) := by decide +kernel
theorem dL_ends_79 : decode cL_ends 79 = .ok (.isub, 1) := by decide +kernel
theorem dL_ends_80 : decode cL_ends 80 = .ok (.if_icmp .ne 23, 3) := by decide +kernel
theorem dL_ends_83 : decode cL_ends 83 = .ok (.aload_n 0, 1) := by decide +kernel
theorem dL_ends_84 : decode cL_ends 84 = .ok (.invokevirtual 69, 3) := by decide +kernel
theorem dL_ends_87 : decode cL_ends 87 = .ok (.iload 4, 2) := by decide +kernel
theorem dL_ends_89 : decode cL_ends 89 = .ok (.if_icmp .ne 14, 3) := by decide +kernel
theorem dL_ends_92 : decode cL_ends 92 = .ok (.aload_n 0, 1) := by decide +kernel
theorem dL_ends_93 : decode cL_ends 93 = .ok (.invokevirtual 34, 3) := by decide +kernel
theorem dL_ends_96 : decode cL_ends 96 = .ok (.ifCond .ne 7, 3) := by decide +kernel
theorem dL_ends_99 : decode cL_ends 99 = .ok (.iconst 1, 1) := by decide +kernel
theorem dL_ends_100 : decode cL_ends 100 = .ok (.goto 4, 3) := by decide +kernel
theorem dL_ends_103 : decode cL_ends 103 = .ok (.iconst 0, 1) := by decide +kernel
theorem dL_ends_104 : decode cL_ends 104 = .ok (.ireturn, 1) := by decide +kernel
set_option maxRecDepth 20000 in
theorem ggL_round_L_at : GoodIn wsL_round wsL_at := goodIn_r _ [4] (by decide +kernel) (by decide +kernel)
set_option maxRecDepth 20000 in
theorem gL_round_L_at : GoodIn wsL_round (va_wsS RL 14 yL_at wsL_at) := goodIn_app (goodIn_of _ (by decide +kernel)) ggL_round_L_at
set_option maxRecDepth 20000 in
theorem ggL_round_L_fill : GoodIn wsL_round wsL_fill := goodIn_ca (goodIn_ca (goodIn_ca (goodIn_r _ [7, 8, 9, 10, 11, 12, 13, 14, 15, 16, 17, 18, 19, 20, 21, 22, 23, 24, 25, 26, 27, 28, 29, 30, 31, 32, 33, 34, 1, 2, 3, 4, 35, 36, 37, 38, 39, 40, 41, 42, 43, 44, 45, 46, 47, 48, 49, 50, 51, 52, 53, 54, 55, 56, 57, 58, 59, 60, 61, 62, 63, 64, 65, 66, 67, 68, 69, 70, 71, 72, 73, 74, 75, 76, 77, 78, 79, 80, 81, 82, 83, 84, 251, 252, 253, 254, 255, 256, 257, 258, 259, 260, 261, 262, 263, 264, 265, 266, 267, 268, 269] (by decide +kernel) (by decide +kernel)) (goodIn_sub (fun _ h => List.mem_cons_of_mem _ (List.mem_append_left _ (List.mem_append_left _ (List.mem_append_right _ h)))) (by decide +kernel))) (goodIn_sub (fun _ h => List.mem_cons_of_mem _ (List.mem_append_left _ (List.mem_append_right _ h))) (by decide +kernel))) (goodIn_sub (fun _ h => List.mem_cons_of_mem _ (List.mem_append_right _ h)) (by decide +kernel))
set_option maxRecDepth 20000 in
theorem gL_round_L_fill : GoodIn wsL_round (va_wsS RL 43 yL_fill wsL_fill) := goodIn_app (goodIn_of _ (by decide +kernel)) ggL_round_L_fill
set_option maxRecDepth 20000 in
theorem ggL_round_L_first : GoodIn wsL_round wsL_first := goodIn_ca (goodIn_ca (goodIn_r _ [87, 1, 2, 3, 4, 35, 36, 37, 11, 38, 39, 40, 23, 41, 42, 43, 44, 16, 45, 46, 47, 32, 48, 34, 88, 89, 90, 91, 53, 54, 92, 93, 94, 95, 96, 97, 98, 99, 18, 100, 101, 102, 103, 15, 71, 104, 105, 106, 107, 27, 26, 66, 28, 108, 109, 110, 111, 76, 112, 113, 114, 115, 116, 117, 118, 119, 120, 121, 122, 123, 124, 125, 126, 127, 128, 129, 130, 131, 24, 132, 133, 134, 135, 136, 137, 138, 139, 140, 251, 252, 253, 254, 255, 256, 257, 258, 259, 260, 261, 262, 263, 264, 265, 266, 267, 268, 269] (by decide +kernel) (by decide +kernel)) (goodIn_sub (fun _ h => List.mem_cons_of_mem _ (List.mem_append_left _ (List.mem_append_right _ h))) (by decide +kernel))) (goodIn_sub (fun _ h => List.mem_cons_of_mem _ (List.mem_append_right _ h)) (by decide +kernel))
set_option maxRecDepth 20000 in
theorem gL_round_L_first : GoodIn wsL_round (va_wsS RL 47 yL_first wsL_first) := goodIn_app (goodIn_of _ (by decide +kernel)) ggL_round_L_first
set_option maxRecDepth 20000 in
theorem ggL_round_X2_fewestChanges : GoodIn wsL_round wsX2_fewestChanges := goodIn_ca (goodIn_r _ [144, 53, 54, 145, 26, 146, 147, 148, 11, 149, 16, 23, 45, 46, 47, 32, 48, 34, 150, 151, 152, 153, 154, 155, 156, 157, 158, 159, 160, 113, 114, 115, 76, 161, 162, 163, 164, 66, 116, 117, 118, 119, 15, 165, 166, 167, 168, 169, 170, 171, 172, 173, 174, 175, 176, 177, 178, 179, 180, 181, 182, 183, 184, 185, 186, 187, 188, 189, 190, 191, 192, 193, 194, 195, 196, 197, 251, 252, 253, 254, 255, 256, 257, 258, 259, 260, 261, 262, 263, 264, 265, 266, 267, 268, 269, 270, 271, 272, 273, 274, 275] (by decide +kernel) (by decide +kernel)) (goodIn_sub (fun _ h => List.mem_cons_of_mem _ (List.mem_append_right _ h)) (by decide +kernel))
set_option maxRecDepth 20000 in
theorem gL_round_X2_fewestChanges : GoodIn wsL_round (wsV RL 54 RX2 yX2_fewestChanges wsX2_fewestChanges) := goodIn_app (goodIn_of _ (by decide +kernel)) ggL_round_X2_fewestChanges
set_option maxRecDepth 20000 in
theorem ggL_round_X2_released : GoodIn wsL_round wsX2_released := goodIn_r _ [201, 28, 251, 252, 253, 254, 255, 256, 257, 258, 259, 260, 261, 262, 263, 264, 265, 266, 267] (by decide +kernel) (by decide +kernel)
set_option maxRecDepth 20000 in
theorem gL_round_X2_released : GoodIn wsL_round (wsV RL 57 RX2 yX2_released wsX2_released) := goodIn_app (goodIn_of _ (by decide +kernel)) ggL_round_X2_released
set_option maxRecDepth 20000 in
theorem ggL_round_X2_fewestByAll : GoodIn wsL_round wsX2_fewestByAll := goodIn_ca (goodIn_r _ [205, 53, 54, 145, 26, 146, 147, 148, 11, 149, 16, 23, 45, 46, 47, 32, 48, 34, 150, 151, 152, 153, 154, 155, 156, 157, 158, 159, 160, 113, 114, 115, 76, 161, 162, 163, 164, 66, 116, 117, 118, 119, 15, 165, 166, 167, 168, 169, 206, 207, 208, 209, 178, 210, 211, 212, 121, 122, 251, 252, 253, 254, 255, 256, 257, 258, 259, 260, 261, 262, 263, 264, 265, 266, 267, 268, 269, 270, 271, 272, 273, 274, 275] (by decide +kernel) (by decide +kernel)) (goodIn_sub (fun _ h => List.mem_cons_of_mem _ (List.mem_append_right _ h)) (by decide +kernel))
set_option maxRecDepth 20000 in
theorem gL_round_X2_fewestByAll : GoodIn wsL_round (wsV RL 72 RX2 yX2_fewestByAll wsX2_fewestByAll) := goodIn_app (goodIn_of _ (by decide +kernel)) ggL_round_X2_fewestByAll
set_option maxRecDepth 20000 in
theorem ggL_round_L_follows : GoodIn wsL_round wsL_follows := goodIn_ca (goodIn_r _ [215, 216, 217, 218, 11, 219, 27, 198, 199, 200, 201, 28, 81, 82, 83, 84, 15, 220, 221, 222, 223, 53, 54, 145, 26, 96, 97, 98, 99, 18, 100, 101, 102, 103, 71, 146, 147, 148, 149, 16, 23, 45, 46, 47, 32, 48, 34, 150, 151, 152, 153, 154, 155, 156, 157, 158, 159, 160, 113, 114, 115, 76, 161, 162, 163, 164, 66, 116, 117, 118, 119, 165, 166, 167, 168, 169, 224, 225, 226, 227, 228, 171, 172, 173, 174, 175, 176, 177, 178, 179, 180, 181, 182, 183, 184, 185, 186, 187, 188, 189, 190, 191, 192, 193, 194, 195, 196, 197, 229, 230, 231, 232, 121, 122, 104, 105, 106, 107, 108, 109, 110, 111, 112, 120, 141, 142, 143, 144, 170, 127, 128, 129, 130, 131, 24, 132, 133, 134, 135, 136, 251, 252, 253, 254, 255, 256, 257, 258, 259, 260, 261, 262, 263, 264, 265, 266, 267, 268, 269, 270, 271, 272, 273, 274, 275] (by decide +kernel) (by decide +kernel)) (goodIn_sub (fun _ h => List.mem_cons_of_mem _ (List.mem_append_right _ h)) (by decide +kernel))
set_option maxRecDepth 20000 in
theorem gL_round_L_follows : GoodIn wsL_round (va_wsS RL 75 yL_follows wsL_follows) := goodIn_app (goodIn_of _ (by decide +kernel)) ggL_round_L_follows
set_option maxRecDepth 20000 in
theorem ggL_round_L_ends : GoodIn wsL_round wsL_ends := goodIn_ca (goodIn_ca (goodIn_r _ [235, 236, 237, 238, 11, 239, 39, 40, 24, 132, 240, 241, 242, 243, 53, 54, 71, 131, 116, 117, 118, 119, 15, 244, 245, 246, 247, 123, 124, 125, 126, 100, 101, 102, 103, 251, 252, 253, 254, 255, 256, 257, 258, 259, 260, 261, 262, 263, 264, 265, 266, 267] (by decide +kernel) (by decide +kernel)) (goodIn_sub (fun _ h => List.mem_cons_of_mem _ (List.mem_append_left _ (List.mem_append_right _ h))) (by decide +kernel))) (goodIn_sub (fun _ h => List.mem_cons_of_mem _ (List.mem_append_right _ h)) (by decide +kernel))
set_option maxRecDepth 20000 in
theorem gL_round_L_ends : GoodIn wsL_round (va_wsS RL 79 yL_ends wsL_ends) := goodIn_app (goodIn_of _ (by decide +kernel)) ggL_round_L_ends
set_option maxRecDepth 20000 in
theorem ggL_round_L_bounds : GoodIn wsL_round wsL_bounds := goodIn_ca (goodIn_ca (goodIn_ca (goodIn_r _ [250, 5, 6, 3, 7, 8, 9, 10, 11, 12, 13, 14, 15, 16, 17, 18, 19, 20, 21, 22, 23, 24, 25, 26, 27, 28, 29, 30, 31, 32, 33, 34, 1, 2, 4, 35, 36, 37, 38, 39, 40, 41, 42, 43, 44, 45, 46, 47, 48, 49, 50, 51, 52, 53, 54, 55, 56, 57, 58, 59, 60, 61, 62, 63, 64, 65, 66, 67, 68, 69, 70, 71, 72, 73, 74, 75, 76, 77, 78, 79, 80, 81, 82, 83, 84, 85, 86, 87, 88, 89, 90, 91, 92, 93, 94, 95, 96, 97, 98, 99, 100, 101, 102, 103, 104, 105, 106, 107, 108, 109, 110, 111, 112, 113, 114, 115, 116, 117, 118, 119, 120, 121, 122, 123, 124, 125, 126, 127, 128, 129, 130, 131, 132, 133, 134, 135, 136, 137, 138, 139, 140, 216, 217, 218, 219, 141, 142, 143, 144, 145, 146, 147, 148, 149, 150, 151, 152, 153, 154, 155, 156, 157, 158, 159, 160, 161, 162, 163, 164, 165, 166, 167, 168, 169, 170, 171, 172, 173, 174, 175, 176, 177, 178, 179, 180, 181, 182, 183, 184, 185, 186, 187, 188, 189, 190, 191, 192, 193, 194, 195, 196, 197, 251, 252, 253, 254, 255, 256, 257, 258, 259, 260, 261, 262, 263, 264, 265, 266, 267, 268, 269, 270, 271, 272, 273, 274, 275] (by decide +kernel) (by decide +kernel)) (goodIn_sub (fun _ h => List.mem_cons_of_mem _ (List.mem_append_left _ (List.mem_append_left _ (List.mem_append_right _ h)))) (by decide +kernel))) (goodIn_sub (fun _ h => List.mem_cons_of_mem _ (List.mem_append_left _ (List.mem_append_right _ h))) (by decide +kernel))) (goodIn_sub (fun _ h => List.mem_cons_of_mem _ (List.mem_append_right _ h)) (by decide +kernel))
set_option maxRecDepth 20000 in
theorem gL_round_L_bounds : GoodIn wsL_round (va_wsS RL 82 yL_bounds wsL_bounds) := goodIn_app (goodIn_of _ (by decide +kernel)) ggL_round_L_bounds
theorem dL_round_0 : decode cL_round 0 = .ok (.iconst 1, 1) := by decide +kernel
theorem dL_round_1 : decode cL_round 1 = .ok (.iload_n 3, 1) := by decide +kernel
theorem dL_round_2 : decode cL_round 2 = .ok (.bipush 9, 2) := by decide +kernel
theorem dL_round_4 : decode cL_round 4 = .ok (.ishr, 1) := by decide +kernel
theorem dL_round_5 : decode cL_round 5 = .ok (.iconst 5, 1) := by decide +kernel
theorem dL_round_6 : decode cL_round 6 = .ok (.invokestatic 14, 3) := by decide +kernel
theorem dL_round_9 : decode cL_round 9 = .ok (.iadd, 1) := by decide +kernel
theorem dL_round_10 : decode cL_round 10 = .ok (.istore 4, 2) := by decide +kernel
theorem dL_round_12 : decode cL_round 12 = .ok (.aload_n 0, 1) := by decide +kernel
theorem dL_round_13 : decode cL_round 13 = .ok (.iload 4, 2) := by decide +kernel
theorem dL_round_15 : decode cL_round 15 = .ok (.iload_n 1, 1) := by decide +kernel
theorem dL_round_16 : decode cL_round 16 = .ok (.iload_n 2, 1) := by decide +kernel
theorem dL_round_17 : decode cL_round 17 = .ok (.invokestatic 43, 3) := by decide +kernel
theorem dL_round_20 : decode cL_round 20 = .ok (.istore 5, 2) := by decide +kernel
theorem dL_round_22 : decode cL_round 22 = .ok (.aload_n 0, 1) := by decide +kernel
theorem dL_round_23 : decode cL_round 23 = .ok (.iload 4, 2) := by decide +kernel
theorem dL_round_25 : decode cL_round 25 = .ok (.iload_n 3, 1) := by decide +kernel
theorem dL_round_26 : decode cL_round 26 = .ok (.iconst 2, 1) := by decide +kernel
theorem dL_round_27 : decode cL_round 27 = .ok (.invokestatic 47, 3) := by decide +kernel
theorem dL_round_30 : decode cL_round 30 = .ok (.ifCond .ne 5, 3) := by decide +kernel
theorem dL_round_33 : decode cL_round 33 = .ok (.iconst 0, 1) := by decide +kernel
theorem dL_round_34 : decode cL_round 34 = .ok (.ireturn, 1) := by decide +kernel
theorem dL_round_35 : decode cL_round 35 = .ok (.aload_n 0, 1) := by decide +kernel
theorem dL_round_36 : decode cL_round 36 = .ok (.invokevirtual 54, 3) := by decide +kernel
theorem dL_round_39 : decode cL_round 39 = .ok (.istore 6, 2) := by decide +kernel
theorem dL_round_41 : decode cL_round 41 = .ok (.iload 6, 2) := by decide +kernel
theorem dL_round_43 : decode cL_round 43 = .ok (.ifCond .lt 31, 3) := by decide +kernel
theorem dL_round_46 : decode cL_round 46 = .ok (.iload 6, 2) := by decide +kernel
theorem dL_round_48 : decode cL_round 48 = .ok (.iload 5, 2) := by decide +kernel
theorem dL_round_50 : decode cL_round 50 = .ok (.if_icmp .gt 24, 3) := by decide +kernel
theorem dL_round_53 : decode cL_round 53 = .ok (.iload 5, 2) := by decide +kernel
theorem dL_round_55 : decode cL_round 55 = .ok (.aload_n 0, 1) := by decide +kernel
theorem dL_round_56 : decode cL_round 56 = .ok (.invokevirtual 57, 3) := by decide +kernel
theorem dL_round_59 : decode cL_round 59 = .ok (.isub, 1) := by decide +kernel
theorem dL_round_60 : decode cL_round 60 = .ok (.bipush 9, 2) := by decide +kernel
theorem dL_round_62 : decode cL_round 62 = .ok (.if_icmp .ge 14, 3) := by decide +kernel
theorem dL_round_65 : decode cL_round 65 = .ok (.aload_n 0, 1) := by decide +kernel
theorem dL_round_66 : decode cL_round 66 = .ok (.invokevirtual 72, 3) := by decide +kernel
theorem dL_round_69 : decode cL_round 69 = .ok (.iload 6, 2) := by decide +kernel
theorem dL_round_71 : decode cL_round 71 = .ok (.if_icmp .eq 5, 3) := by decide +kernel
theorem dL_round_74 : decode cL_round 74 = .ok (.iconst 0, 1) := by decide +kernel
theorem dL_round_75 : decode cL_round 75 = .ok (.ireturn, 1) := by decide +kernel
theorem dL_round_76 : decode cL_round 76 = .ok (.aload_n 0, 1) := by decide +kernel
theorem dL_round_77 : decode cL_round 77 = .ok (.iload 6, 2) := by decide +kernel
theorem dL_round_79 : decode cL_round 79 = .ok (.invokestatic 75, 3) := by decide +kernel
theorem dL_round_82 : decode cL_round 82 = .ok (.ifCond .eq 12, 3) := by decide +kernel
theorem dL_round_85 : decode cL_round 85 = .ok (.aload_n 0, 1) := by decide +kernel
theorem dL_round_86 : decode cL_round 86 = .ok (.iload 5, 2) := by decide +kernel
theorem dL_round_88 : decode cL_round 88 = .ok (.invokestatic 79, 3) := by decide +kernel
theorem dL_round_91 : decode cL_round 91 = .ok (.ifCond .ne 5, 3) := by decide +kernel
theorem dL_round_94 : decode cL_round 94 = .ok (.iconst 0, 1) := by decide +kernel
theorem dL_round_95 : decode cL_round 95 = .ok (.ireturn, 1) := by decide +kernel
theorem dL_round_96 : decode cL_round 96 = .ok (.aload_n 0, 1) := by decide +kernel
theorem dL_round_97 : decode cL_round 97 = .ok (.iload 4, 2) := by decide +kernel
theorem dL_round_99 : decode cL_round 99 = .ok (.iload_n 1, 1) := by decide +kernel
theorem dL_round_100 : decode cL_round 100 = .ok (.iload_n 2, 1) := by decide +kernel
theorem dL_round_101 : decode cL_round 101 = .ok (.iload_n 3, 1) := by decide +kernel
theorem dL_round_102 : decode cL_round 102 = .ok (.iload 6, 2) := by decide +kernel
theorem dL_round_104 : decode cL_round 104 = .ok (.invokestatic 82, 3) := by decide +kernel
theorem dL_round_107 : decode cL_round 107 = .ok (.ireturn, 1) := by decide +kernel
set_option maxRecDepth 20000 in
theorem ggL_law_X2_init : GoodIn wsL_law wsX2_init := goodIn_r _ [6, 7, 8, 9, 10, 11, 12, 13, 14, 15, 16, 17, 18, 19, 20, 21, 22, 23, 24, 25, 26, 27, 28, 29, 30, 31, 32, 33, 34, 35, 36, 37, 38, 39, 40, 278, 279, 280, 281, 282, 283, 284, 285, 286, 287, 288, 289, 290, 291, 292, 293, 294, 295, 296, 297, 298, 299, 300, 301, 302] (by decide +kernel) (by decide +kernel)
set_option maxRecDepth 20000 in
theorem gL_law_X2_init : GoodIn wsL_law (wsX2_init) := ggL_law_X2_init
set_option maxRecDepth 20000 in
theorem ggL_law_L_cell : GoodIn wsL_law wsL_cell := goodIn_r _ [44, 45] (by decide +kernel) (by decide +kernel)
set_option maxRecDepth 20000 in
theorem gL_law_L_cell : GoodIn wsL_law (va_wsS RL 87 yL_cell wsL_cell) := goodIn_app (goodIn_of _ (by decide +kernel)) ggL_law_L_cell
set_option maxRecDepth 20000 in
theorem ggL_law_L_round : GoodIn wsL_law wsL_round := goodIn_ca (goodIn_ca (goodIn_ca (goodIn_r _ [48, 49, 50, 43, 51, 52, 53, 54, 55, 56, 57, 2, 58, 59, 60, 61, 23, 24, 25, 62, 63, 64, 65, 11, 66, 67, 26, 68, 69, 70, 71, 72, 13, 73, 74, 75, 76, 77, 78, 79, 80, 81, 82, 83, 84, 85, 86, 87, 88, 89, 90, 91, 92, 93, 94, 95, 96, 97, 98, 99, 100, 101, 102, 103, 104, 105, 15, 106, 107, 108, 109, 16, 110, 111, 112, 113, 30, 114, 115, 116, 117, 118, 119, 120, 121, 122, 123, 124, 125, 126, 127, 128, 129, 130, 131, 132, 133, 134, 135, 136, 137, 138, 139, 140, 141, 142, 143, 144, 145, 146, 147, 148, 149, 150, 151, 152, 153, 154, 155, 156, 157, 158, 159, 160, 161, 162, 163, 164, 165, 166, 167, 17, 18, 168, 169, 170, 171, 172, 173, 174, 175, 176, 177, 178, 179, 22, 180, 181, 182, 183, 184, 185, 186, 187, 188, 189, 190, 21, 191, 36, 192, 193, 194, 195, 196, 197, 198, 199, 200, 35, 201, 202, 203, 204, 205, 206, 207, 208, 37, 209, 210, 211, 212, 38, 213, 214, 215, 216, 39, 40, 217, 218, 219, 220, 221, 222, 223, 224, 225, 226, 227, 228, 229, 230, 231, 232, 233, 234, 235, 236, 237, 238, 239, 240, 241, 242, 243, 244, 245, 246, 247, 248, 249, 250, 251, 252, 253, 254, 255, 256, 257, 258, 259, 260, 261, 262, 263, 264, 265, 266, 267, 268, 269, 270, 271, 272, 273, 274, 275, 276, 277, 278, 279, 280, 281, 282, 283, 284, 285, 286, 287, 288, 289, 290, 291, 292, 293, 294, 295, 296, 297, 298, 299, 300, 301, 302] (by decide +kernel) (by decide +kernel)) (goodIn_sub (fun _ h => List.mem_append_left _ (List.mem_append_left _ (List.mem_append_right _ h))) (by decide +kernel))) (goodIn_sub (fun _ h => List.mem_append_left _ (List.mem_append_right _ h)) (by decide +kernel))) (goodIn_sub (fun _ h => List.mem_append_right _ h) (by decide +kernel))
set_option maxRecDepth 20000 in
theorem gL_law_L_round : GoodIn wsL_law (va_wsS RL 92 yL_round wsL_round) := goodIn_app (goodIn_of _ (by decide +kernel)) ggL_law_L_round
theorem dL_law_0 : decode cL_law 0 = .ok (.new 9, 3) := by decide +kernel
theorem dL_law_3 : decode cL_law 3 = .ok (.dup, 1) := by decide +kernel
theorem dL_law_4 : decode cL_law 4 = .ok (.invokespecial 86, 3) := by decide +kernel
theorem dL_law_7 : decode cL_law 7 = .ok (.astore_n 1, 1) := by decide +kernel
theorem dL_law_8 : decode cL_law 8 = .ok (.iconst 0, 1) := by decide +kernel
theorem dL_law_9 : decode cL_law 9 = .ok (.istore_n 2, 1) := by decide +kernel
theorem dL_law_10 : decode cL_law 10 = .ok (.iload_n 2, 1) := by decide +kernel
theorem dL_law_11 : decode cL_law 11 = .ok (.bipush 8, 2) := by decide +kernel
theorem dL_law_13 : decode cL_law 13 = .ok (.if_icmp .ge 52, 3) := by decide +kernel
theorem dL_law_16 : decode cL_law 16 = .ok (.aload_n 1, 1) := by decide +kernel
theorem dL_law_17 : decode cL_law 17 = .ok (.aload_n 0, 1) := by decide +kernel
theorem dL_law_18 : decode cL_law 18 = .ok (.iconst 3, 1) := by decide +kernel
theorem dL_law_19 : decode cL_law 19 = .ok (.iload_n 2, 1) := by decide +kernel
theorem dL_law_20 : decode cL_law 20 = .ok (.imul, 1) := by decide +kernel
theorem dL_law_21 : decode cL_law 21 = .ok (.invokestatic 87, 3) := by decide +kernel
theorem dL_law_24 : decode cL_law 24 = .ok (.ldc 91, 2) := by decide +kernel
theorem dL_law_26 : decode cL_law 26 = .ok (.iand, 1) := by decide +kernel
theorem dL_law_27 : decode cL_law 27 = .ok (.aload_n 0, 1) := by decide +kernel
theorem dL_law_28 : decode cL_law 28 = .ok (.iconst 3, 1) := by decide +kernel
theorem dL_law_29 : decode cL_law 29 = .ok (.iload_n 2, 1) := by decide +kernel
theorem dL_law_30 : decode cL_law 30 = .ok (.imul, 1) := by decide +kernel
theorem dL_law_31 : decode cL_law 31 = .ok (.iconst 1, 1) := by decide +kernel
theorem dL_law_32 : decode cL_law 32 = .ok (.iadd, 1) := by decide +kernel
theorem dL_law_33 : decode cL_law 33 = .ok (.invokestatic 87, 3) := by decide +kernel
theorem dL_law_36 : decode cL_law 36 = .ok (.ldc 91, 2) := by decide +kernel
theorem dL_law_38 : decode cL_law 38 = .ok (.iand, 1) := by decide +kernel
theorem dL_law_39 : decode cL_law 39 = .ok (.aload_n 0, 1) := by decide +kernel
theorem dL_law_40 : decode cL_law 40 = .ok (.iconst 3, 1) := by decide +kernel
theorem dL_law_41 : decode cL_law 41 = .ok (.iload_n 2, 1) := by decide +kernel
theorem dL_law_42 : decode cL_law 42 = .ok (.imul, 1) := by decide +kernel
theorem dL_law_43 : decode cL_law 43 = .ok (.iconst 2, 1) := by decide +kernel
theorem dL_law_44 : decode cL_law 44 = .ok (.iadd, 1) := by decide +kernel
theorem dL_law_45 : decode cL_law 45 = .ok (.invokestatic 87, 3) := by decide +kernel
theorem dL_law_48 : decode cL_law 48 = .ok (.ldc 91, 2) := by decide +kernel
theorem dL_law_50 : decode cL_law 50 = .ok (.iand, 1) := by decide +kernel
theorem dL_law_51 : decode cL_law 51 = .ok (.invokestatic 92, 3) := by decide +kernel
theorem dL_law_54 : decode cL_law 54 = .ok (.ifCond .ne 5, 3) := by decide +kernel
theorem dL_law_57 : decode cL_law 57 = .ok (.iconst 0, 1) := by decide +kernel
theorem dL_law_58 : decode cL_law 58 = .ok (.ireturn, 1) := by decide +kernel
theorem dL_law_59 : decode cL_law 59 = .ok (.iinc 2 1, 3) := by decide +kernel
theorem dL_law_62 : decode cL_law 62 = .ok (.goto (-52), 3) := by decide +kernel
theorem dL_law_65 : decode cL_law 65 = .ok (.iconst 1, 1) := by decide +kernel
theorem dL_law_66 : decode cL_law 66 = .ok (.ireturn, 1) := by decide +kernel
