set_option maxRecDepth 20000 in
theorem ggL_begin_X2_begin : GoodIn wsL_begin wsX2_begin := goodIn_ca (goodIn_r _ [6, 7, 8, 9, 10, 11, 12, 13, 14, 15, 5, 16, 17, 18, 19, 20, 21, 22, 23, 24, 25, 26, 27, 28, 29, 30, 31, 32, 33, 34, 35, 36, 37, 38, 39, 40, 41, 42, 43, 44, 45, 46, 47] (by decide +kernel) (by decide +kernel)) (goodIn_sub (fun _ h => List.mem_cons_of_mem _ (List.mem_append_right _ h)) (by decide +kernel))
set_option maxRecDepth 20000 in
theorem gL_begin_X2_begin : GoodIn wsL_begin (wsV RL 7 RX2 yX2_begin wsX2_begin) := goodIn_app (goodIn_of _ (by decide +kernel)) ggL_begin_X2_begin
theorem dL_begin_0 : decode cL_begin 0 = .ok (.aload 4, 2) := by decide +kernel
theorem dL_begin_2 : decode cL_begin 2 = .ok (.iconst 0, 1) := by decide +kernel
theorem dL_begin_3 : decode cL_begin 3 = .ok (.aload_n 0, 1) := by decide +kernel
theorem dL_begin_4 : decode cL_begin 4 = .ok (.iload_n 1, 1) := by decide +kernel
theorem dL_begin_5 : decode cL_begin 5 = .ok (.iload_n 2, 1) := by decide +kernel
theorem dL_begin_6 : decode cL_begin 6 = .ok (.iload_n 3, 1) := by decide +kernel
theorem dL_begin_7 : decode cL_begin 7 = .ok (.invokevirtual 7, 3) := by decide +kernel
theorem dL_begin_10 : decode cL_begin 10 = .ok (.i2l, 1) := by decide +kernel
theorem dL_begin_11 : decode cL_begin 11 = .ok (.lastore, 1) := by decide +kernel
theorem dL_begin_12 : decode cL_begin 12 = .ok (.goto 7, 3) := by decide +kernel
theorem dL_begin_15 : decode cL_begin 15 = .ok (.astore 5, 2) := by decide +kernel
theorem dL_begin_17 : decode cL_begin 17 = .ok (.iconst 1, 1) := by decide +kernel
theorem dL_begin_18 : decode cL_begin 18 = .ok (.ireturn, 1) := by decide +kernel
theorem dL_begin_19 : decode cL_begin 19 = .ok (.iconst 0, 1) := by decide +kernel
theorem dL_begin_20 : decode cL_begin 20 = .ok (.ireturn, 1) := by decide +kernel
set_option maxRecDepth 20000 in
theorem ggL_setRules_X2_setRules : GoodIn wsL_setRules wsX2_setRules := goodIn_ca (goodIn_r _ [6, 7, 8, 9, 10, 11, 12, 13, 14, 15, 16, 17, 18, 19, 20, 21, 22, 23, 24, 25, 26, 27] (by decide +kernel) (by decide +kernel)) (goodIn_sub (fun _ h => List.mem_cons_of_mem _ (List.mem_append_right _ h)) (by decide +kernel))
set_option maxRecDepth 20000 in
theorem gL_setRules_X2_setRules : GoodIn wsL_setRules (wsV RL 15 RX2 yX2_setRules wsX2_setRules) := goodIn_app (goodIn_of _ (by decide +kernel)) ggL_setRules_X2_setRules
theorem dL_setRules_0 : decode cL_setRules 0 = .ok (.aload_n 0, 1) := by decide +kernel
theorem dL_setRules_1 : decode cL_setRules 1 = .ok (.iload_n 1, 1) := by decide +kernel
theorem dL_setRules_2 : decode cL_setRules 2 = .ok (.iload_n 2, 1) := by decide +kernel
theorem dL_setRules_3 : decode cL_setRules 3 = .ok (.invokevirtual 15, 3) := by decide +kernel
theorem dL_setRules_6 : decode cL_setRules 6 = .ok (.goto 6, 3) := by decide +kernel
theorem dL_setRules_9 : decode cL_setRules 9 = .ok (.astore_n 3, 1) := by decide +kernel
theorem dL_setRules_10 : decode cL_setRules 10 = .ok (.iconst 1, 1) := by decide +kernel
theorem dL_setRules_11 : decode cL_setRules 11 = .ok (.ireturn, 1) := by decide +kernel
theorem dL_setRules_12 : decode cL_setRules 12 = .ok (.iconst 0, 1) := by decide +kernel
theorem dL_setRules_13 : decode cL_setRules 13 = .ok (.ireturn, 1) := by decide +kernel
set_option maxRecDepth 20000 in
theorem ggL_arrive_X2_arrive : GoodIn wsL_arrive wsX2_arrive := goodIn_ca (goodIn_ca (goodIn_r _ [7, 8, 9, 10, 11, 12, 13, 14, 6, 15, 16, 17, 18, 19, 20, 21, 22, 23, 24, 25, 26, 27, 28, 29, 30, 31, 32, 33, 34, 35, 36, 37, 38, 39, 40, 41, 42, 43, 44, 45, 46, 47, 48, 49, 50, 51, 52, 53, 54, 55, 56, 57, 58, 59, 60, 61, 62, 63, 64, 65, 66, 67, 68, 69, 70, 71, 72, 73, 74, 75, 76, 77, 78, 79, 80, 81, 82, 83, 84, 85, 86, 87, 88, 89, 90, 91, 92, 93, 94, 95, 96, 97, 98, 99, 100] (by decide +kernel) (by decide +kernel)) (goodIn_sub (fun _ h => List.mem_cons_of_mem _ (List.mem_append_left _ (List.mem_append_right _ h))) (by decide +kernel))) (goodIn_sub (fun _ h => List.mem_cons_of_mem _ (List.mem_append_right _ h)) (by decide +kernel))
set_option maxRecDepth 20000 in
theorem gL_arrive_X2_arrive : GoodIn wsL_arrive (wsV RL 19 RX2 yX2_arrive wsX2_arrive) := goodIn_app (goodIn_of _ (by decide +kernel)) ggL_arrive_X2_arrive
theorem dL_arrive_0 : decode cL_arrive 0 = .ok (.aload_n 2, 1) := by decide +kernel
theorem dL_arrive_1 : decode cL_arrive 1 = .ok (.iconst 0, 1) := by decide +kernel
theorem dL_arrive_2 : decode cL_arrive 2 = .ok (.aload_n 0, 1) := by decide +kernel
theorem dL_arrive_3 : decode cL_arrive 3 = .ok (.iload_n 1, 1) := by decide +kernel
theorem dL_arrive_4 : decode cL_arrive 4 = .ok (.invokevirtual 19, 3) := by decide +kernel
theorem dL_arrive_7 : decode cL_arrive 7 = .ok (.i2l, 1) := by decide +kernel
theorem dL_arrive_8 : decode cL_arrive 8 = .ok (.lastore, 1) := by decide +kernel
theorem dL_arrive_9 : decode cL_arrive 9 = .ok (.goto 9, 3) := by decide +kernel
theorem dL_arrive_12 : decode cL_arrive 12 = .ok (.astore_n 3, 1) := by decide +kernel
theorem dL_arrive_13 : decode cL_arrive 13 = .ok (.iconst 1, 1) := by decide +kernel
theorem dL_arrive_14 : decode cL_arrive 14 = .ok (.ireturn, 1) := by decide +kernel
theorem dL_arrive_15 : decode cL_arrive 15 = .ok (.astore_n 3, 1) := by decide +kernel
theorem dL_arrive_16 : decode cL_arrive 16 = .ok (.iconst 2, 1) := by decide +kernel
theorem dL_arrive_17 : decode cL_arrive 17 = .ok (.ireturn, 1) := by decide +kernel
theorem dL_arrive_18 : decode cL_arrive 18 = .ok (.iconst 0, 1) := by decide +kernel
theorem dL_arrive_19 : decode cL_arrive 19 = .ok (.ireturn, 1) := by decide +kernel
set_option maxRecDepth 20000 in
theorem ggL_arriveIn_X2_arriveIn : GoodIn wsL_arriveIn wsX2_arriveIn := goodIn_ca (goodIn_ca (goodIn_ca (goodIn_r _ [8, 9, 10, 11, 12, 13, 14, 15, 16, 17, 7, 18, 19, 20, 21, 22, 23, 24, 25, 26, 27, 28, 29, 30, 31, 32, 33, 34, 35, 36, 37, 38, 39, 40, 41, 42, 43, 44, 45, 46, 47, 48, 49, 50, 51, 52, 53, 54, 55, 56, 57, 58, 59, 60, 61, 62, 63, 64, 65, 66, 67, 68, 69, 70, 71, 72, 73, 74] (by decide +kernel) (by decide +kernel)) (goodIn_sub (fun _ h => List.mem_cons_of_mem _ (List.mem_append_left _ (List.mem_append_left _ (List.mem_append_right _ h)))) (by decide +kernel))) (goodIn_sub (fun _ h => List.mem_cons_of_mem _ (List.mem_append_left _ (List.mem_append_right _ h))) (by decide +kernel))) (goodIn_sub (fun _ h => List.mem_cons_of_mem _ (List.mem_append_right _ h)) (by decide +kernel))
set_option maxRecDepth 20000 in
theorem gL_arriveIn_X2_arriveIn : GoodIn wsL_arriveIn (wsV RL 25 RX2 yX2_arriveIn wsX2_arriveIn) := goodIn_app (goodIn_of _ (by decide +kernel)) ggL_arriveIn_X2_arriveIn
theorem dL_arriveIn_0 : decode cL_arriveIn 0 = .ok (.aload_n 3, 1) := by decide +kernel
theorem dL_arriveIn_1 : decode cL_arriveIn 1 = .ok (.iconst 0, 1) := by decide +kernel
theorem dL_arriveIn_2 : decode cL_arriveIn 2 = .ok (.aload_n 0, 1) := by decide +kernel
theorem dL_arriveIn_3 : decode cL_arriveIn 3 = .ok (.iload_n 1, 1) := by decide +kernel
theorem dL_arriveIn_4 : decode cL_arriveIn 4 = .ok (.iload_n 2, 1) := by decide +kernel
theorem dL_arriveIn_5 : decode cL_arriveIn 5 = .ok (.invokevirtual 25, 3) := by decide +kernel
theorem dL_arriveIn_8 : decode cL_arriveIn 8 = .ok (.i2l, 1) := by decide +kernel
theorem dL_arriveIn_9 : decode cL_arriveIn 9 = .ok (.lastore, 1) := by decide +kernel
theorem dL_arriveIn_10 : decode cL_arriveIn 10 = .ok (.goto 15, 3) := by decide +kernel
theorem dL_arriveIn_13 : decode cL_arriveIn 13 = .ok (.astore 4, 2) := by decide +kernel
theorem dL_arriveIn_15 : decode cL_arriveIn 15 = .ok (.iconst 1, 1) := by decide +kernel
theorem dL_arriveIn_16 : decode cL_arriveIn 16 = .ok (.ireturn, 1) := by decide +kernel
theorem dL_arriveIn_17 : decode cL_arriveIn 17 = .ok (.astore 4, 2) := by decide +kernel
theorem dL_arriveIn_19 : decode cL_arriveIn 19 = .ok (.iconst 2, 1) := by decide +kernel
theorem dL_arriveIn_20 : decode cL_arriveIn 20 = .ok (.ireturn, 1) := by decide +kernel
theorem dL_arriveIn_21 : decode cL_arriveIn 21 = .ok (.astore 4, 2) := by decide +kernel
theorem dL_arriveIn_23 : decode cL_arriveIn 23 = .ok (.iconst 3, 1) := by decide +kernel
theorem dL_arriveIn_24 : decode cL_arriveIn 24 = .ok (.ireturn, 1) := by decide +kernel
theorem dL_arriveIn_25 : decode cL_arriveIn 25 = .ok (.iconst 0, 1) := by decide +kernel
theorem dL_arriveIn_26 : decode cL_arriveIn 26 = .ok (.ireturn, 1) := by decide +kernel
set_option maxRecDepth 20000 in
theorem ggL_release_X2_release : GoodIn wsL_release wsX2_release := goodIn_ca (goodIn_r _ [6, 7, 8, 9, 10, 11, 5, 12, 13, 14, 15, 16, 17, 18, 19, 20, 21, 22, 23, 24, 25, 26, 27, 28, 29, 30, 31, 32, 33, 34, 35, 36, 37, 38, 39, 40, 41, 42, 43, 44, 45, 46, 47, 48, 49, 50, 51, 52, 53, 54, 55, 56, 57, 58, 59, 60, 61, 62, 63, 64, 65, 66, 67, 68, 69, 70, 71, 72, 73, 74, 75, 76, 77, 78, 79, 80, 81, 82, 83, 84, 85, 86, 87, 88, 89, 90, 91, 92] (by decide +kernel) (by decide +kernel)) (goodIn_sub (fun _ h => List.mem_cons_of_mem _ (List.mem_append_right _ h)) (by decide +kernel))
set_option maxRecDepth 20000 in
theorem gL_release_X2_release : GoodIn wsL_release (wsV RL 31 RX2 yX2_release wsX2_release) := goodIn_app (goodIn_of _ (by decide +kernel)) ggL_release_X2_release
theorem dL_release_0 : decode cL_release 0 = .ok (.aload_n 1, 1) := by decide +kernel
theorem dL_release_1 : decode cL_release 1 = .ok (.iconst 0, 1) := by decide +kernel
theorem dL_release_2 : decode cL_release 2 = .ok (.aload_n 0, 1) := by decide +kernel
theorem dL_release_3 : decode cL_release 3 = .ok (.invokevirtual 31, 3) := by decide +kernel
theorem dL_release_6 : decode cL_release 6 = .ok (.i2l, 1) := by decide +kernel
theorem dL_release_7 : decode cL_release 7 = .ok (.lastore, 1) := by decide +kernel
theorem dL_release_8 : decode cL_release 8 = .ok (.goto 6, 3) := by decide +kernel
theorem dL_release_11 : decode cL_release 11 = .ok (.astore_n 2, 1) := by decide +kernel
theorem dL_release_12 : decode cL_release 12 = .ok (.iconst 1, 1) := by decide +kernel
theorem dL_release_13 : decode cL_release 13 = .ok (.ireturn, 1) := by decide +kernel
theorem dL_release_14 : decode cL_release 14 = .ok (.iconst 0, 1) := by decide +kernel
theorem dL_release_15 : decode cL_release 15 = .ok (.ireturn, 1) := by decide +kernel
set_option maxRecDepth 20000 in
theorem ggL_releaseFrom_X2_releaseFrom : GoodIn wsL_releaseFrom wsX2_releaseFrom := goodIn_ca (goodIn_ca (goodIn_r _ [7, 8, 9, 10, 11, 12, 13, 14, 15, 6, 16, 17, 18, 19, 20, 21, 22, 23, 24, 25, 26, 27, 28, 29, 30, 31, 32, 33, 34, 35, 36, 37, 38, 39, 40, 41, 42, 43, 44, 45, 46, 47, 48, 49, 50, 51, 52, 53, 54, 55, 56, 57, 58, 59, 60, 61, 62, 63, 64, 65, 66, 67, 68, 69, 70, 71, 72, 73, 74, 75, 76, 77] (by decide +kernel) (by decide +kernel)) (goodIn_sub (fun _ h => List.mem_cons_of_mem _ (List.mem_append_left _ (List.mem_append_right _ h))) (by decide +kernel))) (goodIn_sub (fun _ h => List.mem_cons_of_mem _ (List.mem_append_right _ h)) (by decide +kernel))
set_option maxRecDepth 20000 in
theorem gL_releaseFrom_X2_releaseFrom : GoodIn wsL_releaseFrom (wsV RL 35 RX2 yX2_releaseFrom wsX2_releaseFrom) := goodIn_app (goodIn_of _ (by decide +kernel)) ggL_releaseFrom_X2_releaseFrom
theorem dL_releaseFrom_0 : decode cL_releaseFrom 0 = .ok (.aload_n 2, 1) := by decide +kernel
theorem dL_releaseFrom_1 : decode cL_releaseFrom 1 = .ok (.iconst 0, 1) := by decide +kernel
theorem dL_releaseFrom_2 : decode cL_releaseFrom 2 = .ok (.aload_n 0, 1) := by decide +kernel
theorem dL_releaseFrom_3 : decode cL_releaseFrom 3 = .ok (.iload_n 1, 1) := by decide +kernel
theorem dL_releaseFrom_4 : decode cL_releaseFrom 4 = .ok (.invokevirtual 35, 3) := by decide +kernel
theorem dL_releaseFrom_7 : decode cL_releaseFrom 7 = .ok (.i2l, 1) := by decide +kernel
theorem dL_releaseFrom_8 : decode cL_releaseFrom 8 = .ok (.lastore, 1) := by decide +kernel
theorem dL_releaseFrom_9 : decode cL_releaseFrom 9 = .ok (.goto 9, 3) := by decide +kernel
theorem dL_releaseFrom_12 : decode cL_releaseFrom 12 = .ok (.astore_n 3, 1) := by decide +kernel
theorem dL_releaseFrom_13 : decode cL_releaseFrom 13 = .ok (.iconst 1, 1) := by decide +kernel
theorem dL_releaseFrom_14 : decode cL_releaseFrom 14 = .ok (.ireturn, 1) := by decide +kernel
theorem dL_releaseFrom_15 : decode cL_releaseFrom 15 = .ok (.astore_n 3, 1) := by decide +kernel
theorem dL_releaseFrom_16 : decode cL_releaseFrom 16 = .ok (.iconst 2, 1) := by decide +kernel
theorem dL_releaseFrom_17 : decode cL_releaseFrom 17 = .ok (.ireturn, 1) := by decide +kernel
theorem dL_releaseFrom_18 : decode cL_releaseFrom 18 = .ok (.iconst 0, 1) := by decide +kernel
theorem dL_releaseFrom_19 : decode cL_releaseFrom 19 = .ok (.ireturn, 1) := by decide +kernel
set_option maxRecDepth 20000 in
theorem ggL_releaseBest_X2_releaseBest : GoodIn wsL_releaseBest wsX2_releaseBest := goodIn_ca (goodIn_r _ [6, 7, 8, 9, 10, 11, 12, 13, 5, 14, 15, 16, 17, 18, 19, 20, 21, 22, 23, 24, 25, 26, 27, 28, 29, 30, 31, 32, 33, 34, 35, 36, 37, 38, 39, 40, 41, 42, 43, 44, 45, 46, 47, 48, 49, 50, 51, 52, 53, 54, 55, 56, 57, 58, 59, 60, 61, 62, 63, 64, 65, 66, 67, 68, 69, 70, 71, 72, 73, 74, 75, 76, 77, 78, 79, 80, 81, 82, 83, 84, 85, 86, 87, 88, 89, 90, 91, 92, 93, 94, 95, 96, 97, 98, 99, 100, 101, 102, 103, 104, 105, 106, 107, 108, 109, 110, 111, 112, 113, 114, 115, 116, 117, 118, 119, 120, 121, 122, 123, 124, 125, 126, 127, 128, 129, 130, 131, 132, 133, 134, 135, 136, 137] (by decide +kernel) (by decide +kernel)) (goodIn_sub (fun _ h => List.mem_cons_of_mem _ (List.mem_append_right _ h)) (by decide +kernel))
set_option maxRecDepth 20000 in
theorem gL_releaseBest_X2_releaseBest : GoodIn wsL_releaseBest (wsV RL 38 RX2 yX2_releaseBest wsX2_releaseBest) := goodIn_app (goodIn_of _ (by decide +kernel)) ggL_releaseBest_X2_releaseBest
theorem dL_releaseBest_0 : decode cL_releaseBest 0 = .ok (.aload_n 1, 1) := by decide +kernel
theorem dL_releaseBest_1 : decode cL_releaseBest 1 = .ok (.iconst 0, 1) := by decide +kernel
theorem dL_releaseBest_2 : decode cL_releaseBest 2 = .ok (.aload_n 0, 1) := by decide +kernel
theorem dL_releaseBest_3 : decode cL_releaseBest 3 = .ok (.invokevirtual 38, 3) := by decide +kernel
theorem dL_releaseBest_6 : decode cL_releaseBest 6 = .ok (.i2l, 1) := by decide +kernel
theorem dL_releaseBest_7 : decode cL_releaseBest 7 = .ok (.lastore, 1) := by decide +kernel
theorem dL_releaseBest_8 : decode cL_releaseBest 8 = .ok (.goto 6, 3) := by decide +kernel
theorem dL_releaseBest_11 : decode cL_releaseBest 11 = .ok (.astore_n 2, 1) := by decide +kernel
theorem dL_releaseBest_12 : decode cL_releaseBest 12 = .ok (.iconst 1, 1) := by decide +kernel
theorem dL_releaseBest_13 : decode cL_releaseBest 13 = .ok (.ireturn, 1) := by decide +kernel
theorem dL_releaseBest_14 : decode cL_releaseBest 14 = .ok (.iconst 0, 1) := by decide +kernel
theorem dL_releaseBest_15 : decode cL_releaseBest 15 = .ok (.ireturn, 1) := by decide +kernel
set_option maxRecDepth 20000 in
theorem ggL_sendBack_X2_sendBack : GoodIn wsL_sendBack wsX2_sendBack := goodIn_ca (goodIn_ca (goodIn_r _ [7, 8, 9, 10, 11, 12, 13, 14, 15, 6, 16, 17, 18, 19, 20, 21, 22, 23, 24, 25, 26, 27, 28, 29, 30, 31, 32, 33, 34, 35, 36, 37, 38] (by decide +kernel) (by decide +kernel)) (goodIn_sub (fun _ h => List.mem_cons_of_mem _ (List.mem_append_left _ (List.mem_append_right _ h))) (by decide +kernel))) (goodIn_sub (fun _ h => List.mem_cons_of_mem _ (List.mem_append_right _ h)) (by decide +kernel))
set_option maxRecDepth 20000 in
theorem gL_sendBack_X2_sendBack : GoodIn wsL_sendBack (wsV RL 41 RX2 yX2_sendBack wsX2_sendBack) := goodIn_app (goodIn_of _ (by decide +kernel)) ggL_sendBack_X2_sendBack
theorem dL_sendBack_0 : decode cL_sendBack 0 = .ok (.aload_n 2, 1) := by decide +kernel
theorem dL_sendBack_1 : decode cL_sendBack 1 = .ok (.iconst 0, 1) := by decide +kernel
theorem dL_sendBack_2 : decode cL_sendBack 2 = .ok (.aload_n 0, 1) := by decide +kernel
theorem dL_sendBack_3 : decode cL_sendBack 3 = .ok (.iload_n 1, 1) := by decide +kernel
theorem dL_sendBack_4 : decode cL_sendBack 4 = .ok (.invokevirtual 41, 3) := by decide +kernel
theorem dL_sendBack_7 : decode cL_sendBack 7 = .ok (.i2l, 1) := by decide +kernel
theorem dL_sendBack_8 : decode cL_sendBack 8 = .ok (.lastore, 1) := by decide +kernel
theorem dL_sendBack_9 : decode cL_sendBack 9 = .ok (.goto 9, 3) := by decide +kernel
theorem dL_sendBack_12 : decode cL_sendBack 12 = .ok (.astore_n 3, 1) := by decide +kernel
theorem dL_sendBack_13 : decode cL_sendBack 13 = .ok (.iconst 1, 1) := by decide +kernel
theorem dL_sendBack_14 : decode cL_sendBack 14 = .ok (.ireturn, 1) := by decide +kernel
theorem dL_sendBack_15 : decode cL_sendBack 15 = .ok (.astore_n 3, 1) := by decide +kernel
theorem dL_sendBack_16 : decode cL_sendBack 16 = .ok (.iconst 2, 1) := by decide +kernel
theorem dL_sendBack_17 : decode cL_sendBack 17 = .ok (.ireturn, 1) := by decide +kernel
theorem dL_sendBack_18 : decode cL_sendBack 18 = .ok (.iconst 0, 1) := by decide +kernel
theorem dL_sendBack_19 : decode cL_sendBack 19 = .ok (.ireturn, 1) := by decide +kernel
set_option maxRecDepth 20000 in
theorem ggL_reenter_X2_reenter : GoodIn wsL_reenter wsX2_reenter := goodIn_ca (goodIn_ca (goodIn_r _ [7, 8, 9, 10, 11, 12, 13, 14, 15, 16, 6, 17, 18, 19, 20, 21, 22, 23, 24, 25, 26, 27, 28, 29, 30, 31, 32, 33, 34, 35, 36, 37, 38, 39, 40, 41, 42, 43, 44, 45, 46, 47, 48, 49, 50, 51, 52, 53, 54, 55, 56, 57, 58, 59, 60, 61, 62, 63, 64, 65, 66, 67, 68, 69, 70, 71, 72, 73, 74, 75, 76, 77, 78, 79, 80, 81, 82, 83, 84, 85, 86, 87, 88, 89, 90, 91, 92, 93] (by decide +kernel) (by decide +kernel)) (goodIn_sub (fun _ h => List.mem_cons_of_mem _ (List.mem_append_left _ (List.mem_append_right _ h))) (by decide +kernel))) (goodIn_sub (fun _ h => List.mem_cons_of_mem _ (List.mem_append_right _ h)) (by decide +kernel))
set_option maxRecDepth 20000 in
theorem gL_reenter_X2_reenter : GoodIn wsL_reenter (wsV RL 44 RX2 yX2_reenter wsX2_reenter) := goodIn_app (goodIn_of _ (by decide +kernel)) ggL_reenter_X2_reenter
theorem dL_reenter_0 : decode cL_reenter 0 = .ok (.aload_n 2, 1) := by decide +kernel
theorem dL_reenter_1 : decode cL_reenter 1 = .ok (.iconst 0, 1) := by decide +kernel
theorem dL_reenter_2 : decode cL_reenter 2 = .ok (.aload_n 0, 1) := by decide +kernel
theorem dL_reenter_3 : decode cL_reenter 3 = .ok (.iload_n 1, 1) := by decide +kernel
theorem dL_reenter_4 : decode cL_reenter 4 = .ok (.invokevirtual 44, 3) := by decide +kernel
theorem dL_reenter_7 : decode cL_reenter 7 = .ok (.i2l, 1) := by decide +kernel
theorem dL_reenter_8 : decode cL_reenter 8 = .ok (.lastore, 1) := by decide +kernel
theorem dL_reenter_9 : decode cL_reenter 9 = .ok (.goto 9, 3) := by decide +kernel
theorem dL_reenter_12 : decode cL_reenter 12 = .ok (.astore_n 3, 1) := by decide +kernel
theorem dL_reenter_13 : decode cL_reenter 13 = .ok (.iconst 1, 1) := by decide +kernel
theorem dL_reenter_14 : decode cL_reenter 14 = .ok (.ireturn, 1) := by decide +kernel
theorem dL_reenter_15 : decode cL_reenter 15 = .ok (.astore_n 3, 1) := by decide +kernel
theorem dL_reenter_16 : decode cL_reenter 16 = .ok (.iconst 2, 1) := by decide +kernel
theorem dL_reenter_17 : decode cL_reenter 17 = .ok (.ireturn, 1) := by decide +kernel
theorem dL_reenter_18 : decode cL_reenter 18 = .ok (.iconst 0, 1) := by decide +kernel
theorem dL_reenter_19 : decode cL_reenter 19 = .ok (.ireturn, 1) := by decide +kernel
set_option maxRecDepth 20000 in
theorem ggL_assemble_X2_assemble : GoodIn wsL_assemble wsX2_assemble := goodIn_ca (goodIn_r _ [6, 7, 8, 9, 10, 11, 12, 13, 14, 15, 5, 16, 17, 18, 19, 20, 21, 22, 23, 24, 25, 26, 27, 28, 29, 30, 31, 32, 33, 34] (by decide +kernel) (by decide +kernel)) (goodIn_sub (fun _ h => List.mem_cons_of_mem _ (List.mem_append_right _ h)) (by decide +kernel))
set_option maxRecDepth 20000 in
theorem gL_assemble_X2_assemble : GoodIn wsL_assemble (wsV RL 47 RX2 yX2_assemble wsX2_assemble) := goodIn_app (goodIn_of _ (by decide +kernel)) ggL_assemble_X2_assemble
theorem dL_assemble_0 : decode cL_assemble 0 = .ok (.aload_n 1, 1) := by decide +kernel
theorem dL_assemble_1 : decode cL_assemble 1 = .ok (.iconst 0, 1) := by decide +kernel
theorem dL_assemble_2 : decode cL_assemble 2 = .ok (.aload_n 0, 1) := by decide +kernel
theorem dL_assemble_3 : decode cL_assemble 3 = .ok (.invokevirtual 47, 3) := by decide +kernel
theorem dL_assemble_6 : decode cL_assemble 6 = .ok (.i2l, 1) := by decide +kernel
theorem dL_assemble_7 : decode cL_assemble 7 = .ok (.lastore, 1) := by decide +kernel
theorem dL_assemble_8 : decode cL_assemble 8 = .ok (.goto 6, 3) := by decide +kernel
theorem dL_assemble_11 : decode cL_assemble 11 = .ok (.astore_n 2, 1) := by decide +kernel
theorem dL_assemble_12 : decode cL_assemble 12 = .ok (.iconst 1, 1) := by decide +kernel
theorem dL_assemble_13 : decode cL_assemble 13 = .ok (.ireturn, 1) := by decide +kernel
theorem dL_assemble_14 : decode cL_assemble 14 = .ok (.iconst 0, 1) := by decide +kernel
theorem dL_assemble_15 : decode cL_assemble 15 = .ok (.ireturn, 1) := by decide +kernel
set_option maxRecDepth 20000 in
theorem ggL_colour_X2_colour : GoodIn wsL_colour wsX2_colour := goodIn_ca (goodIn_r _ [6, 7, 8, 9, 10, 11, 12, 5, 13, 14, 15, 16, 17, 18, 19, 20, 21, 22, 23, 24, 25, 26, 27, 28, 29, 30, 31] (by decide +kernel) (by decide +kernel)) (goodIn_sub (fun _ h => List.mem_cons_of_mem _ (List.mem_append_right _ h)) (by decide +kernel))
set_option maxRecDepth 20000 in
theorem gL_colour_X2_colour : GoodIn wsL_colour (wsV RL 50 RX2 yX2_colour wsX2_colour) := goodIn_app (goodIn_of _ (by decide +kernel)) ggL_colour_X2_colour
theorem dL_colour_0 : decode cL_colour 0 = .ok (.aload_n 2, 1) := by decide +kernel
theorem dL_colour_1 : decode cL_colour 1 = .ok (.iconst 0, 1) := by decide +kernel
theorem dL_colour_2 : decode cL_colour 2 = .ok (.aload_n 0, 1) := by decide +kernel
theorem dL_colour_3 : decode cL_colour 3 = .ok (.iload_n 1, 1) := by decide +kernel
theorem dL_colour_4 : decode cL_colour 4 = .ok (.invokevirtual 50, 3) := by decide +kernel
theorem dL_colour_7 : decode cL_colour 7 = .ok (.i2l, 1) := by decide +kernel
theorem dL_colour_8 : decode cL_colour 8 = .ok (.lastore, 1) := by decide +kernel
theorem dL_colour_9 : decode cL_colour 9 = .ok (.goto 6, 3) := by decide +kernel
theorem dL_colour_12 : decode cL_colour 12 = .ok (.astore_n 3, 1) := by decide +kernel
theorem dL_colour_13 : decode cL_colour 13 = .ok (.iconst 1, 1) := by decide +kernel
theorem dL_colour_14 : decode cL_colour 14 = .ok (.ireturn, 1) := by decide +kernel
theorem dL_colour_15 : decode cL_colour 15 = .ok (.iconst 0, 1) := by decide +kernel
theorem dL_colour_16 : decode cL_colour 16 = .ok (.ireturn, 1) := by decide +kernel
set_option maxRecDepth 20000 in
theorem ggL_where_X2_where : GoodIn wsL_where wsX2_where := goodIn_ca (goodIn_r _ [6, 7, 8, 9, 10, 11, 12, 5, 13, 14, 15, 16, 17, 18, 19, 20, 21, 22, 23, 24, 25, 26, 27, 28, 29, 30, 31] (by decide +kernel) (by decide +kernel)) (goodIn_sub (fun _ h => List.mem_cons_of_mem _ (List.mem_append_right _ h)) (by decide +kernel))
set_option maxRecDepth 20000 in
theorem gL_where_X2_where : GoodIn wsL_where (wsV RL 53 RX2 yX2_where wsX2_where) := goodIn_app (goodIn_of _ (by decide +kernel)) ggL_where_X2_where
theorem dL_where_0 : decode cL_where 0 = .ok (.aload_n 2, 1) := by decide +kernel
theorem dL_where_1 : decode cL_where 1 = .ok (.iconst 0, 1) := by decide +kernel
theorem dL_where_2 : decode cL_where 2 = .ok (.aload_n 0, 1) := by decide +kernel
theorem dL_where_3 : decode cL_where 3 = .ok (.iload_n 1, 1) := by decide +kernel
theorem dL_where_4 : decode cL_where 4 = .ok (.invokevirtual 53, 3) := by decide +kernel
theorem dL_where_7 : decode cL_where 7 = .ok (.i2l, 1) := by decide +kernel
theorem dL_where_8 : decode cL_where 8 = .ok (.lastore, 1) := by decide +kernel
theorem dL_where_9 : decode cL_where 9 = .ok (.goto 6, 3) := by decide +kernel
theorem dL_where_12 : decode cL_where 12 = .ok (.astore_n 3, 1) := by decide +kernel
theorem dL_where_13 : decode cL_where 13 = .ok (.iconst 1, 1) := by decide +kernel
theorem dL_where_14 : decode cL_where 14 = .ok (.ireturn, 1) := by decide +kernel
theorem dL_where_15 : decode cL_where 15 = .ok (.iconst 0, 1) := by decide +kernel
theorem dL_where_16 : decode cL_where 16 = .ok (.ireturn, 1) := by decide +kernel
set_option maxRecDepth 20000 in
theorem ggL_inLane_X2_inLane : GoodIn wsL_inLane wsX2_inLane := goodIn_ca (goodIn_r _ [6, 7, 8, 9, 10, 11, 12, 5, 13, 14, 15, 16, 17, 18, 19, 20, 21, 22, 23, 24, 25, 26, 27, 28, 29, 30, 31, 32, 33, 34, 35, 36, 37, 38, 39] (by decide +kernel) (by decide +kernel)) (goodIn_sub (fun _ h => List.mem_cons_of_mem _ (List.mem_append_right _ h)) (by decide +kernel))
set_option maxRecDepth 20000 in
theorem gL_inLane_X2_inLane : GoodIn wsL_inLane (wsV RL 56 RX2 yX2_inLane wsX2_inLane) := goodIn_app (goodIn_of _ (by decide +kernel)) ggL_inLane_X2_inLane
theorem dL_inLane_0 : decode cL_inLane 0 = .ok (.aload_n 2, 1) := by decide +kernel
theorem dL_inLane_1 : decode cL_inLane 1 = .ok (.iconst 0, 1) := by decide +kernel
theorem dL_inLane_2 : decode cL_inLane 2 = .ok (.aload_n 0, 1) := by decide +kernel
theorem dL_inLane_3 : decode cL_inLane 3 = .ok (.iload_n 1, 1) := by decide +kernel
theorem dL_inLane_4 : decode cL_inLane 4 = .ok (.invokevirtual 56, 3) := by decide +kernel
theorem dL_inLane_7 : decode cL_inLane 7 = .ok (.i2l, 1) := by decide +kernel
theorem dL_inLane_8 : decode cL_inLane 8 = .ok (.lastore, 1) := by decide +kernel
theorem dL_inLane_9 : decode cL_inLane 9 = .ok (.goto 6, 3) := by decide +kernel
theorem dL_inLane_12 : decode cL_inLane 12 = .ok (.astore_n 3, 1) := by decide +kernel
theorem dL_inLane_13 : decode cL_inLane 13 = .ok (.iconst 1, 1) := by decide +kernel
theorem dL_inLane_14 : decode cL_inLane 14 = .ok (.ireturn, 1) := by decide +kernel
theorem dL_inLane_15 : decode cL_inLane 15 = .ok (.iconst 0, 1) := by decide +kernel
theorem dL_inLane_16 : decode cL_inLane 16 = .ok (.ireturn, 1) := by decide +kernel
set_option maxRecDepth 20000 in
theorem ggL_bodyAt_X2_bodyAt : GoodIn wsL_bodyAt wsX2_bodyAt := goodIn_ca (goodIn_r _ [6, 7, 8, 9, 10, 11, 12, 5, 13, 14, 15, 16, 17, 18, 19, 20, 21, 22, 23, 24, 25, 26, 27, 28, 29, 30, 31, 32, 33, 34, 35, 36, 37, 38, 39, 40] (by decide +kernel) (by decide +kernel)) (goodIn_sub (fun _ h => List.mem_cons_of_mem _ (List.mem_append_right _ h)) (by decide +kernel))
set_option maxRecDepth 20000 in
theorem gL_bodyAt_X2_bodyAt : GoodIn wsL_bodyAt (wsV RL 59 RX2 yX2_bodyAt wsX2_bodyAt) := goodIn_app (goodIn_of _ (by decide +kernel)) ggL_bodyAt_X2_bodyAt
theorem dL_bodyAt_0 : decode cL_bodyAt 0 = .ok (.aload_n 3, 1) := by decide +kernel
theorem dL_bodyAt_1 : decode cL_bodyAt 1 = .ok (.iconst 0, 1) := by decide +kernel
theorem dL_bodyAt_2 : decode cL_bodyAt 2 = .ok (.aload_n 0, 1) := by decide +kernel
theorem dL_bodyAt_3 : decode cL_bodyAt 3 = .ok (.iload_n 1, 1) := by decide +kernel
theorem dL_bodyAt_4 : decode cL_bodyAt 4 = .ok (.iload_n 2, 1) := by decide +kernel
theorem dL_bodyAt_5 : decode cL_bodyAt 5 = .ok (.invokevirtual 59, 3) := by decide +kernel
theorem dL_bodyAt_8 : decode cL_bodyAt 8 = .ok (.i2l, 1) := by decide +kernel
theorem dL_bodyAt_9 : decode cL_bodyAt 9 = .ok (.lastore, 1) := by decide +kernel
theorem dL_bodyAt_10 : decode cL_bodyAt 10 = .ok (.goto 7, 3) := by decide +kernel
theorem dL_bodyAt_13 : decode cL_bodyAt 13 = .ok (.astore 4, 2) := by decide +kernel
theorem dL_bodyAt_15 : decode cL_bodyAt 15 = .ok (.iconst 1, 1) := by decide +kernel
theorem dL_bodyAt_16 : decode cL_bodyAt 16 = .ok (.ireturn, 1) := by decide +kernel
theorem dL_bodyAt_17 : decode cL_bodyAt 17 = .ok (.iconst 0, 1) := by decide +kernel
theorem dL_bodyAt_18 : decode cL_bodyAt 18 = .ok (.ireturn, 1) := by decide +kernel
set_option maxRecDepth 20000 in
theorem ggL_block_X2_block : GoodIn wsL_block wsX2_block := goodIn_ca (goodIn_r _ [6, 7, 8, 9, 10, 11, 5, 12, 13, 14, 15, 16, 17, 18, 19, 20, 21, 22, 23, 24, 25, 26, 27, 28, 29, 30, 31, 32, 33, 34, 35, 36, 37, 38, 39, 40, 41, 42, 43, 44, 45, 46, 47, 48, 49, 50, 51, 52, 53, 54, 55, 56, 57, 58] (by decide +kernel) (by decide +kernel)) (goodIn_sub (fun _ h => List.mem_cons_of_mem _ (List.mem_append_right _ h)) (by decide +kernel))
set_option maxRecDepth 20000 in
theorem gL_block_X2_block : GoodIn wsL_block (wsV RL 62 RX2 yX2_block wsX2_block) := goodIn_app (goodIn_of _ (by decide +kernel)) ggL_block_X2_block
theorem dL_block_0 : decode cL_block 0 = .ok (.aload_n 2, 1) := by decide +kernel
theorem dL_block_1 : decode cL_block 1 = .ok (.iconst 0, 1) := by decide +kernel
theorem dL_block_2 : decode cL_block 2 = .ok (.aload_n 0, 1) := by decide +kernel
theorem dL_block_3 : decode cL_block 3 = .ok (.iload_n 1, 1) := by decide +kernel
theorem dL_block_4 : decode cL_block 4 = .ok (.invokevirtual 62, 3) := by decide +kernel
theorem dL_block_7 : decode cL_block 7 = .ok (.i2l, 1) := by decide +kernel
theorem dL_block_8 : decode cL_block 8 = .ok (.lastore, 1) := by decide +kernel
theorem dL_block_9 : decode cL_block 9 = .ok (.goto 6, 3) := by decide +kernel
theorem dL_block_12 : decode cL_block 12 = .ok (.astore_n 3, 1) := by decide +kernel
theorem dL_block_13 : decode cL_block 13 = .ok (.iconst 1, 1) := by decide +kernel
theorem dL_block_14 : decode cL_block 14 = .ok (.ireturn, 1) := by decide +kernel
theorem dL_block_15 : decode cL_block 15 = .ok (.iconst 0, 1) := by decide +kernel
theorem dL_block_16 : decode cL_block 16 = .ok (.ireturn, 1) := by decide +kernel
set_option maxRecDepth 20000 in
theorem ggL_assembledAt_X2_assembledAt : GoodIn wsL_assembledAt wsX2_assembledAt := goodIn_ca (goodIn_r _ [6, 7, 8, 9, 10, 11, 12, 13, 14, 15, 16, 17, 18, 19, 20, 21, 22, 23, 24, 25, 26, 27] (by decide +kernel) (by decide +kernel)) (goodIn_sub (fun _ h => List.mem_cons_of_mem _ (List.mem_append_right _ h)) (by decide +kernel))
set_option maxRecDepth 20000 in
theorem gL_assembledAt_X2_assembledAt : GoodIn wsL_assembledAt (wsV RL 65 RX2 yX2_assembledAt wsX2_assembledAt) := goodIn_app (goodIn_of _ (by decide +kernel)) ggL_assembledAt_X2_assembledAt
theorem dL_assembledAt_0 : decode cL_assembledAt 0 = .ok (.aload_n 2, 1) := by decide +kernel
theorem dL_assembledAt_1 : decode cL_assembledAt 1 = .ok (.iconst 0, 1) := by decide +kernel
theorem dL_assembledAt_2 : decode cL_assembledAt 2 = .ok (.aload_n 0, 1) := by decide +kernel
theorem dL_assembledAt_3 : decode cL_assembledAt 3 = .ok (.iload_n 1, 1) := by decide +kernel
theorem dL_assembledAt_4 : decode cL_assembledAt 4 = .ok (.invokevirtual 65, 3) := by decide +kernel
theorem dL_assembledAt_7 : decode cL_assembledAt 7 = .ok (.i2l, 1) := by decide +kernel
theorem dL_assembledAt_8 : decode cL_assembledAt 8 = .ok (.lastore, 1) := by decide +kernel
theorem dL_assembledAt_9 : decode cL_assembledAt 9 = .ok (.goto 6, 3) := by decide +kernel
theorem dL_assembledAt_12 : decode cL_assembledAt 12 = .ok (.astore_n 3, 1) := by decide +kernel
theorem dL_assembledAt_13 : decode cL_assembledAt 13 = .ok (.iconst 1, 1) := by decide +kernel
theorem dL_assembledAt_14 : decode cL_assembledAt 14 = .ok (.ireturn, 1) := by decide +kernel
theorem dL_assembledAt_15 : decode cL_assembledAt 15 = .ok (.iconst 0, 1) := by decide +kernel
theorem dL_assembledAt_16 : decode cL_assembledAt 16 = .ok (.ireturn, 1) := by decide +kernel
set_option maxRecDepth 20000 in
theorem ggL_lateness_X2_lateness : GoodIn wsL_lateness wsX2_lateness := goodIn_ca (goodIn_ca (goodIn_r _ [7, 8, 9, 10, 11, 12, 13, 14, 15, 16, 6, 17, 18, 19, 20, 21, 22, 23, 24, 25, 26, 27, 28, 29, 30, 31, 32, 33, 34, 35] (by decide +kernel) (by decide +kernel)) (goodIn_sub (fun _ h => List.mem_cons_of_mem _ (List.mem_append_left _ (List.mem_append_right _ h))) (by decide +kernel))) (goodIn_sub (fun _ h => List.mem_cons_of_mem _ (List.mem_append_right _ h)) (by decide +kernel))
set_option maxRecDepth 20000 in
theorem gL_lateness_X2_lateness : GoodIn wsL_lateness (wsV RL 68 RX2 yX2_lateness wsX2_lateness) := goodIn_app (goodIn_of _ (by decide +kernel)) ggL_lateness_X2_lateness
theorem dL_lateness_0 : decode cL_lateness 0 = .ok (.aload_n 2, 1) := by decide +kernel
theorem dL_lateness_1 : decode cL_lateness 1 = .ok (.iconst 0, 1) := by decide +kernel
theorem dL_lateness_2 : decode cL_lateness 2 = .ok (.aload_n 0, 1) := by decide +kernel
theorem dL_lateness_3 : decode cL_lateness 3 = .ok (.iload_n 1, 1) := by decide +kernel
theorem dL_lateness_4 : decode cL_lateness 4 = .ok (.invokevirtual 68, 3) := by decide +kernel
theorem dL_lateness_7 : decode cL_lateness 7 = .ok (.i2l, 1) := by decide +kernel
theorem dL_lateness_8 : decode cL_lateness 8 = .ok (.lastore, 1) := by decide +kernel
theorem dL_lateness_9 : decode cL_lateness 9 = .ok (.goto 9, 3) := by decide +kernel
theorem dL_lateness_12 : decode cL_lateness 12 = .ok (.astore_n 3, 1) := by decide +kernel
theorem dL_lateness_13 : decode cL_lateness 13 = .ok (.iconst 1, 1) := by decide +kernel
theorem dL_lateness_14 : decode cL_lateness 14 = .ok (.ireturn, 1) := by decide +kernel
theorem dL_lateness_15 : decode cL_lateness 15 = .ok (.astore_n 3, 1) := by decide +kernel
theorem dL_lateness_16 : decode cL_lateness 16 = .ok (.iconst 2, 1) := by decide +kernel
theorem dL_lateness_17 : decode cL_lateness 17 = .ok (.ireturn, 1) := by decide +kernel
theorem dL_lateness_18 : decode cL_lateness 18 = .ok (.iconst 0, 1) := by decide +kernel
theorem dL_lateness_19 : decode cL_lateness 19 = .ok (.ireturn, 1) := by decide +kernel
set_option maxRecDepth 20000 in
theorem ggL_fewestChanges_X2_fewestChanges : GoodIn wsL_fewestChanges wsX2_fewestChanges := goodIn_ca (goodIn_r _ [6, 7, 8, 9, 10, 11, 12, 13, 5, 14, 15, 16, 17, 18, 19, 20, 21, 22, 23, 24, 25, 26, 27, 28, 29, 30, 31, 32, 33, 34, 35, 36, 37, 38, 39, 40, 41, 42, 43, 44, 45, 46, 47, 48, 49, 50, 51, 52, 53, 54, 55, 56, 57, 58, 59, 60, 61, 62, 63, 64, 65, 66, 67, 68, 69, 70, 71, 72, 73, 74, 75, 76, 77, 78, 79, 80, 81, 82, 83, 84, 85, 86, 87, 88, 89, 90, 91, 92, 93, 94, 95, 96, 97, 98, 99, 100, 101, 102, 103, 104, 105] (by decide +kernel) (by decide +kernel)) (goodIn_sub (fun _ h => List.mem_cons_of_mem _ (List.mem_append_right _ h)) (by decide +kernel))
set_option maxRecDepth 20000 in
theorem gL_fewestChanges_X2_fewestChanges : GoodIn wsL_fewestChanges (wsV RL 71 RX2 yX2_fewestChanges wsX2_fewestChanges) := goodIn_app (goodIn_of _ (by decide +kernel)) ggL_fewestChanges_X2_fewestChanges
theorem dL_fewestChanges_0 : decode cL_fewestChanges 0 = .ok (.aload_n 1, 1) := by decide +kernel
theorem dL_fewestChanges_1 : decode cL_fewestChanges 1 = .ok (.iconst 0, 1) := by decide +kernel
theorem dL_fewestChanges_2 : decode cL_fewestChanges 2 = .ok (.aload_n 0, 1) := by decide +kernel
theorem dL_fewestChanges_3 : decode cL_fewestChanges 3 = .ok (.invokevirtual 71, 3) := by decide +kernel
theorem dL_fewestChanges_6 : decode cL_fewestChanges 6 = .ok (.i2l, 1) := by decide +kernel
theorem dL_fewestChanges_7 : decode cL_fewestChanges 7 = .ok (.lastore, 1) := by decide +kernel
theorem dL_fewestChanges_8 : decode cL_fewestChanges 8 = .ok (.goto 6, 3) := by decide +kernel
theorem dL_fewestChanges_11 : decode cL_fewestChanges 11 = .ok (.astore_n 2, 1) := by decide +kernel
theorem dL_fewestChanges_12 : decode cL_fewestChanges 12 = .ok (.iconst 1, 1) := by decide +kernel
theorem dL_fewestChanges_13 : decode cL_fewestChanges 13 = .ok (.ireturn, 1) := by decide +kernel
theorem dL_fewestChanges_14 : decode cL_fewestChanges 14 = .ok (.iconst 0, 1) := by decide +kernel
theorem dL_fewestChanges_15 : decode cL_fewestChanges 15 = .ok (.ireturn, 1) := by decide +kernel
set_option maxRecDepth 20000 in
theorem ggL_fewestByAll_X2_fewestByAll : GoodIn wsL_fewestByAll wsX2_fewestByAll := goodIn_ca (goodIn_r _ [6, 7, 8, 9, 10, 11, 12, 13, 5, 14, 15, 16, 17, 18, 19, 20, 21, 22, 23, 24, 25, 26, 27, 28, 29, 30, 31, 32, 33, 34, 35, 36, 37, 38, 39, 40, 41, 42, 43, 44, 45, 46, 47, 48, 49, 50, 51, 52, 53, 54, 55, 56, 57, 58, 59, 60, 61, 62, 63, 64, 65, 66, 67, 68, 69, 70, 71, 72, 73, 74, 75, 76, 77, 78, 79, 80, 81, 82, 83, 84, 85, 86, 87] (by decide +kernel) (by decide +kernel)) (goodIn_sub (fun _ h => List.mem_cons_of_mem _ (List.mem_append_right _ h)) (by decide +kernel))
set_option maxRecDepth 20000 in
theorem gL_fewestByAll_X2_fewestByAll : GoodIn wsL_fewestByAll (wsV RL 74 RX2 yX2_fewestByAll wsX2_fewestByAll) := goodIn_app (goodIn_of _ (by decide +kernel)) ggL_fewestByAll_X2_fewestByAll
theorem dL_fewestByAll_0 : decode cL_fewestByAll 0 = .ok (.aload_n 1, 1) := by decide +kernel
theorem dL_fewestByAll_1 : decode cL_fewestByAll 1 = .ok (.iconst 0, 1) := by decide +kernel
theorem dL_fewestByAll_2 : decode cL_fewestByAll 2 = .ok (.aload_n 0, 1) := by decide +kernel
theorem dL_fewestByAll_3 : decode cL_fewestByAll 3 = .ok (.invokevirtual 74, 3) := by decide +kernel
theorem dL_fewestByAll_6 : decode cL_fewestByAll 6 = .ok (.i2l, 1) := by decide +kernel
theorem dL_fewestByAll_7 : decode cL_fewestByAll 7 = .ok (.lastore, 1) := by decide +kernel
theorem dL_fewestByAll_8 : decode cL_fewestByAll 8 = .ok (.goto 6, 3) := by decide +kernel
theorem dL_fewestByAll_11 : decode cL_fewestByAll 11 = .ok (.astore_n 2, 1) := by decide +kernel
theorem dL_fewestByAll_12 : decode cL_fewestByAll 12 = .ok (.iconst 1, 1) := by decide +kernel
theorem dL_fewestByAll_13 : decode cL_fewestByAll 13 = .ok (.ireturn, 1) := by decide +kernel
theorem dL_fewestByAll_14 : decode cL_fewestByAll 14 = .ok (.iconst 0, 1) := by decide +kernel
theorem dL_fewestByAll_15 : decode cL_fewestByAll 15 = .ok (.ireturn, 1) := by decide +kernel
