theorem dL_run_15 : decode cL_run 15 = .ok (.ireturn, 1) := by decide +kernel
set_option maxRecDepth 20000 in
theorem ggL_keep_X7_keep : GoodIn wsL_keep wsX7_keep := goodIn_ca (goodIn_r _ [6, 7, 8, 9, 10, 11, 12, 13, 5, 14, 15, 16, 17, 18, 19, 20, 21, 22, 23, 24, 25, 26, 27, 28, 29, 30, 31, 32, 33, 34, 35, 36, 37, 38, 39, 40, 41, 42, 43, 44, 45, 46, 47, 48, 49, 50, 51, 52, 53, 54, 55] (by decide +kernel) (by decide +kernel)) (goodIn_sub (fun _ h => List.mem_cons_of_mem _ (List.mem_append_right _ h)) (by decide +kernel))
set_option maxRecDepth 20000 in
theorem gL_keep_X7_keep : GoodIn wsL_keep (wsV RL 42 RX7 yX7_keep wsX7_keep) := goodIn_app (goodIn_of _ (by decide +kernel)) ggL_keep_X7_keep
theorem dL_keep_0 : decode cL_keep 0 = .ok (.aload_n 2, 1) := by decide +kernel
theorem dL_keep_1 : decode cL_keep 1 = .ok (.iconst 0, 1) := by decide +kernel
theorem dL_keep_2 : decode cL_keep 2 = .ok (.aload_n 0, 1) := by decide +kernel
theorem dL_keep_3 : decode cL_keep 3 = .ok (.iload_n 1, 1) := by decide +kernel
theorem dL_keep_4 : decode cL_keep 4 = .ok (.invokevirtual 42, 3) := by decide +kernel
theorem dL_keep_7 : decode cL_keep 7 = .ok (.i2l, 1) := by decide +kernel
theorem dL_keep_8 : decode cL_keep 8 = .ok (.lastore, 1) := by decide +kernel
theorem dL_keep_9 : decode cL_keep 9 = .ok (.goto 6, 3) := by decide +kernel
theorem dL_keep_12 : decode cL_keep 12 = .ok (.astore_n 3, 1) := by decide +kernel
theorem dL_keep_13 : decode cL_keep 13 = .ok (.iconst 1, 1) := by decide +kernel
theorem dL_keep_14 : decode cL_keep 14 = .ok (.ireturn, 1) := by decide +kernel
theorem dL_keep_15 : decode cL_keep 15 = .ok (.iconst 0, 1) := by decide +kernel
theorem dL_keep_16 : decode cL_keep 16 = .ok (.ireturn, 1) := by decide +kernel
set_option maxRecDepth 20000 in
theorem ggL_goBack_X7_goBack : GoodIn wsL_goBack wsX7_goBack := goodIn_ca (goodIn_ca (goodIn_r _ [7, 8, 9, 10, 11, 12, 13, 14, 15, 16, 17, 6, 18, 19, 20, 21, 22, 23, 24, 25, 26, 27, 28, 29, 30, 31, 32, 33, 34, 35, 36, 37, 38, 39, 40, 41, 42, 43, 44, 45, 46, 47, 48, 49, 50, 51, 52, 53, 54, 55, 56, 57, 58, 59, 60, 61, 62, 63, 64, 65, 66, 67, 68, 69, 70, 71] (by decide +kernel) (by decide +kernel)) (goodIn_sub (fun _ h => List.mem_cons_of_mem _ (List.mem_append_left _ (List.mem_append_right _ h))) (by decide +kernel))) (goodIn_sub (fun _ h => List.mem_cons_of_mem _ (List.mem_append_right _ h)) (by decide +kernel))
set_option maxRecDepth 20000 in
theorem gL_goBack_X7_goBack : GoodIn wsL_goBack (wsV RL 45 RX7 yX7_goBack wsX7_goBack) := goodIn_app (goodIn_of _ (by decide +kernel)) ggL_goBack_X7_goBack
theorem dL_goBack_0 : decode cL_goBack 0 = .ok (.aload_n 2, 1) := by decide +kernel
theorem dL_goBack_1 : decode cL_goBack 1 = .ok (.iconst 0, 1) := by decide +kernel
theorem dL_goBack_2 : decode cL_goBack 2 = .ok (.aload_n 0, 1) := by decide +kernel
theorem dL_goBack_3 : decode cL_goBack 3 = .ok (.iload_n 1, 1) := by decide +kernel
theorem dL_goBack_4 : decode cL_goBack 4 = .ok (.invokevirtual 45, 3) := by decide +kernel
theorem dL_goBack_7 : decode cL_goBack 7 = .ok (.i2l, 1) := by decide +kernel
theorem dL_goBack_8 : decode cL_goBack 8 = .ok (.lastore, 1) := by decide +kernel
theorem dL_goBack_9 : decode cL_goBack 9 = .ok (.goto 9, 3) := by decide +kernel
theorem dL_goBack_12 : decode cL_goBack 12 = .ok (.astore_n 3, 1) := by decide +kernel
theorem dL_goBack_13 : decode cL_goBack 13 = .ok (.iconst 1, 1) := by decide +kernel
theorem dL_goBack_14 : decode cL_goBack 14 = .ok (.ireturn, 1) := by decide +kernel
theorem dL_goBack_15 : decode cL_goBack 15 = .ok (.astore_n 3, 1) := by decide +kernel
theorem dL_goBack_16 : decode cL_goBack 16 = .ok (.iconst 2, 1) := by decide +kernel
theorem dL_goBack_17 : decode cL_goBack 17 = .ok (.ireturn, 1) := by decide +kernel
theorem dL_goBack_18 : decode cL_goBack 18 = .ok (.iconst 0, 1) := by decide +kernel
theorem dL_goBack_19 : decode cL_goBack 19 = .ok (.ireturn, 1) := by decide +kernel
set_option maxRecDepth 20000 in
theorem ggL_undo_X7_undo : GoodIn wsL_undo wsX7_undo := goodIn_ca (goodIn_r _ [6, 7, 8, 9, 10, 11, 12, 13, 14, 15, 16, 17, 18, 19, 20, 21, 22, 23, 24, 25, 26, 27, 28, 29, 30, 31, 32, 33, 34, 35, 36, 37, 38, 39, 40, 41, 42, 43, 44, 45, 46, 47, 48, 49, 50, 51, 52, 53, 54, 55, 56, 57, 58, 59, 60, 61, 62] (by decide +kernel) (by decide +kernel)) (goodIn_sub (fun _ h => List.mem_cons_of_mem _ (List.mem_append_right _ h)) (by decide +kernel))
set_option maxRecDepth 20000 in
theorem gL_undo_X7_undo : GoodIn wsL_undo (wsV RL 48 RX7 yX7_undo wsX7_undo) := goodIn_app (goodIn_of _ (by decide +kernel)) ggL_undo_X7_undo
theorem dL_undo_0 : decode cL_undo 0 = .ok (.aload_n 1, 1) := by decide +kernel
theorem dL_undo_1 : decode cL_undo 1 = .ok (.iconst 0, 1) := by decide +kernel
theorem dL_undo_2 : decode cL_undo 2 = .ok (.aload_n 0, 1) := by decide +kernel
theorem dL_undo_3 : decode cL_undo 3 = .ok (.invokevirtual 48, 3) := by decide +kernel
theorem dL_undo_6 : decode cL_undo 6 = .ok (.i2l, 1) := by decide +kernel
theorem dL_undo_7 : decode cL_undo 7 = .ok (.lastore, 1) := by decide +kernel
theorem dL_undo_8 : decode cL_undo 8 = .ok (.goto 6, 3) := by decide +kernel
theorem dL_undo_11 : decode cL_undo 11 = .ok (.astore_n 2, 1) := by decide +kernel
theorem dL_undo_12 : decode cL_undo 12 = .ok (.iconst 1, 1) := by decide +kernel
theorem dL_undo_13 : decode cL_undo 13 = .ok (.ireturn, 1) := by decide +kernel
theorem dL_undo_14 : decode cL_undo 14 = .ok (.iconst 0, 1) := by decide +kernel
theorem dL_undo_15 : decode cL_undo 15 = .ok (.ireturn, 1) := by decide +kernel
set_option maxRecDepth 20000 in
theorem ggL_personOf_X7_personOf : GoodIn wsL_personOf wsX7_personOf := goodIn_ca (goodIn_ca (goodIn_r _ [7, 8, 9, 10, 11, 12, 13, 14, 15, 16, 17, 18, 19, 20, 21, 22, 23, 24, 25, 26, 27, 28, 29, 30, 31, 32, 33, 34, 35, 36, 37, 38, 39, 40, 41, 42, 43, 44, 45, 46, 47, 48, 49, 50, 51, 52, 53, 54, 55, 56, 57, 58, 59, 60, 61, 62, 63, 64, 65, 66, 67, 68, 69, 70, 71, 72, 73, 74, 75, 76, 77, 78, 79, 80, 81, 82, 83, 84, 85, 86, 87, 88, 89, 90, 91, 92, 93, 94, 95, 96, 97, 98, 99, 100, 101] (by decide +kernel) (by decide +kernel)) (goodIn_sub (fun _ h => List.mem_cons_of_mem _ (List.mem_append_left _ (List.mem_append_right _ h))) (by decide +kernel))) (goodIn_sub (fun _ h => List.mem_cons_of_mem _ (List.mem_append_right _ h)) (by decide +kernel))
set_option maxRecDepth 20000 in
theorem gL_personOf_X7_personOf : GoodIn wsL_personOf (wsV RL 51 RX7 yX7_personOf wsX7_personOf) := goodIn_app (goodIn_of _ (by decide +kernel)) ggL_personOf_X7_personOf
theorem dL_personOf_0 : decode cL_personOf 0 = .ok (.aload_n 3, 1) := by decide +kernel
theorem dL_personOf_1 : decode cL_personOf 1 = .ok (.iconst 0, 1) := by decide +kernel
theorem dL_personOf_2 : decode cL_personOf 2 = .ok (.aload_n 0, 1) := by decide +kernel
theorem dL_personOf_3 : decode cL_personOf 3 = .ok (.iload_n 1, 1) := by decide +kernel
theorem dL_personOf_4 : decode cL_personOf 4 = .ok (.iload_n 2, 1) := by decide +kernel
theorem dL_personOf_5 : decode cL_personOf 5 = .ok (.invokevirtual 51, 3) := by decide +kernel
theorem dL_personOf_8 : decode cL_personOf 8 = .ok (.i2l, 1) := by decide +kernel
theorem dL_personOf_9 : decode cL_personOf 9 = .ok (.lastore, 1) := by decide +kernel
theorem dL_personOf_10 : decode cL_personOf 10 = .ok (.goto 11, 3) := by decide +kernel
theorem dL_personOf_13 : decode cL_personOf 13 = .ok (.astore 4, 2) := by decide +kernel
theorem dL_personOf_15 : decode cL_personOf 15 = .ok (.iconst 1, 1) := by decide +kernel
theorem dL_personOf_16 : decode cL_personOf 16 = .ok (.ireturn, 1) := by decide +kernel
theorem dL_personOf_17 : decode cL_personOf 17 = .ok (.astore 4, 2) := by decide +kernel
theorem dL_personOf_19 : decode cL_personOf 19 = .ok (.iconst 2, 1) := by decide +kernel
theorem dL_personOf_20 : decode cL_personOf 20 = .ok (.ireturn, 1) := by decide +kernel
theorem dL_personOf_21 : decode cL_personOf 21 = .ok (.iconst 0, 1) := by decide +kernel
theorem dL_personOf_22 : decode cL_personOf 22 = .ok (.ireturn, 1) := by decide +kernel
set_option maxRecDepth 20000 in
theorem ggL_coupleOf_X7_coupleOf : GoodIn wsL_coupleOf wsX7_coupleOf := goodIn_ca (goodIn_ca (goodIn_r _ [7, 8, 9, 10, 11, 12, 13, 14, 15, 16, 17, 18, 19, 20, 21, 22, 23, 24, 25, 26, 27, 28, 29, 30, 31, 32, 33, 34, 35, 36, 37, 38, 39, 40, 41, 42, 43, 44, 45, 46, 47, 48, 49, 50, 51, 52, 53, 54, 55, 56, 57, 58, 59, 60, 61, 62, 63, 64, 65, 66, 67, 68, 69, 70, 71, 72, 73, 74, 75, 76, 77, 78, 79, 80, 81, 82, 83, 84, 85, 86, 87, 88, 89, 90, 91, 92, 93, 94] (by decide +kernel) (by decide +kernel)) (goodIn_sub (fun _ h => List.mem_cons_of_mem _ (List.mem_append_left _ (List.mem_append_right _ h))) (by decide +kernel))) (goodIn_sub (fun _ h => List.mem_cons_of_mem _ (List.mem_append_right _ h)) (by decide +kernel))
set_option maxRecDepth 20000 in
theorem gL_coupleOf_X7_coupleOf : GoodIn wsL_coupleOf (wsV RL 54 RX7 yX7_coupleOf wsX7_coupleOf) := goodIn_app (goodIn_of _ (by decide +kernel)) ggL_coupleOf_X7_coupleOf
theorem dL_coupleOf_0 : decode cL_coupleOf 0 = .ok (.aload_n 3, 1) := by decide +kernel
theorem dL_coupleOf_1 : decode cL_coupleOf 1 = .ok (.iconst 0, 1) := by decide +kernel
theorem dL_coupleOf_2 : decode cL_coupleOf 2 = .ok (.aload_n 0, 1) := by decide +kernel
theorem dL_coupleOf_3 : decode cL_coupleOf 3 = .ok (.iload_n 1, 1) := by decide +kernel
theorem dL_coupleOf_4 : decode cL_coupleOf 4 = .ok (.iload_n 2, 1) := by decide +kernel
theorem dL_coupleOf_5 : decode cL_coupleOf 5 = .ok (.invokevirtual 54, 3) := by decide +kernel
theorem dL_coupleOf_8 : decode cL_coupleOf 8 = .ok (.i2l, 1) := by decide +kernel
theorem dL_coupleOf_9 : decode cL_coupleOf 9 = .ok (.lastore, 1) := by decide +kernel
theorem dL_coupleOf_10 : decode cL_coupleOf 10 = .ok (.goto 11, 3) := by decide +kernel
theorem dL_coupleOf_13 : decode cL_coupleOf 13 = .ok (.astore 4, 2) := by decide +kernel
theorem dL_coupleOf_15 : decode cL_coupleOf 15 = .ok (.iconst 1, 1) := by decide +kernel
theorem dL_coupleOf_16 : decode cL_coupleOf 16 = .ok (.ireturn, 1) := by decide +kernel
theorem dL_coupleOf_17 : decode cL_coupleOf 17 = .ok (.astore 4, 2) := by decide +kernel
theorem dL_coupleOf_19 : decode cL_coupleOf 19 = .ok (.iconst 2, 1) := by decide +kernel
theorem dL_coupleOf_20 : decode cL_coupleOf 20 = .ok (.ireturn, 1) := by decide +kernel
theorem dL_coupleOf_21 : decode cL_coupleOf 21 = .ok (.iconst 0, 1) := by decide +kernel
theorem dL_coupleOf_22 : decode cL_coupleOf 22 = .ok (.ireturn, 1) := by decide +kernel
set_option maxRecDepth 20000 in
theorem ggL_at_X7_at : GoodIn wsL_at wsX7_at := goodIn_ca (goodIn_ca (goodIn_r _ [7, 8, 9, 10, 11, 12, 13, 14, 6, 15, 16, 17, 18, 19, 20, 21, 22, 23, 24, 25, 26, 27, 28, 29, 30, 31, 32, 33, 34, 35, 36, 37, 38, 39, 40, 41, 42, 43, 44] (by decide +kernel) (by decide +kernel)) (goodIn_sub (fun _ h => List.mem_cons_of_mem _ (List.mem_append_left _ (List.mem_append_right _ h))) (by decide +kernel))) (goodIn_sub (fun _ h => List.mem_cons_of_mem _ (List.mem_append_right _ h)) (by decide +kernel))
set_option maxRecDepth 20000 in
theorem gL_at_X7_at : GoodIn wsL_at (wsV RL 57 RX7 yX7_at wsX7_at) := goodIn_app (goodIn_of _ (by decide +kernel)) ggL_at_X7_at
theorem dL_at_0 : decode cL_at 0 = .ok (.aload_n 3, 1) := by decide +kernel
theorem dL_at_1 : decode cL_at 1 = .ok (.iconst 0, 1) := by decide +kernel
theorem dL_at_2 : decode cL_at 2 = .ok (.aload_n 0, 1) := by decide +kernel
theorem dL_at_3 : decode cL_at 3 = .ok (.iload_n 1, 1) := by decide +kernel
theorem dL_at_4 : decode cL_at 4 = .ok (.iload_n 2, 1) := by decide +kernel
theorem dL_at_5 : decode cL_at 5 = .ok (.invokevirtual 57, 3) := by decide +kernel
theorem dL_at_8 : decode cL_at 8 = .ok (.i2l, 1) := by decide +kernel
theorem dL_at_9 : decode cL_at 9 = .ok (.lastore, 1) := by decide +kernel
theorem dL_at_10 : decode cL_at 10 = .ok (.goto 11, 3) := by decide +kernel
theorem dL_at_13 : decode cL_at 13 = .ok (.astore 4, 2) := by decide +kernel
theorem dL_at_15 : decode cL_at 15 = .ok (.iconst 1, 1) := by decide +kernel
theorem dL_at_16 : decode cL_at 16 = .ok (.ireturn, 1) := by decide +kernel
theorem dL_at_17 : decode cL_at 17 = .ok (.astore 4, 2) := by decide +kernel
theorem dL_at_19 : decode cL_at 19 = .ok (.iconst 2, 1) := by decide +kernel
theorem dL_at_20 : decode cL_at 20 = .ok (.ireturn, 1) := by decide +kernel
theorem dL_at_21 : decode cL_at 21 = .ok (.iconst 0, 1) := by decide +kernel
theorem dL_at_22 : decode cL_at 22 = .ok (.ireturn, 1) := by decide +kernel
set_option maxRecDepth 20000 in
theorem ggL_crossings_X7_crossings : GoodIn wsL_crossings wsX7_crossings := goodIn_ca (goodIn_ca (goodIn_r _ [7, 8, 9, 10, 11, 12, 13, 14, 15, 6, 16, 17, 18, 19, 20, 21, 22, 23, 24, 25, 26, 27, 28, 29, 30, 31, 32, 33, 34, 35, 36, 37, 38, 39, 40, 41, 42, 43, 44, 45, 46, 47, 48, 49, 50, 51, 52, 53, 54, 55, 56, 57, 58, 59, 60, 61, 62, 63, 64, 65, 66, 67, 68, 69, 70, 71, 72, 73, 74, 75, 76, 77, 78, 79, 80, 81, 82, 83, 84, 85, 86, 87, 88, 89, 90, 91, 92, 93, 94, 95, 96, 97, 98, 99] (by decide +kernel) (by decide +kernel)) (goodIn_sub (fun _ h => List.mem_cons_of_mem _ (List.mem_append_left _ (List.mem_append_right _ h))) (by decide +kernel))) (goodIn_sub (fun _ h => List.mem_cons_of_mem _ (List.mem_append_right _ h)) (by decide +kernel))
set_option maxRecDepth 20000 in
theorem gL_crossings_X7_crossings : GoodIn wsL_crossings (wsV RL 60 RX7 yX7_crossings wsX7_crossings) := goodIn_app (goodIn_of _ (by decide +kernel)) ggL_crossings_X7_crossings
theorem dL_crossings_0 : decode cL_crossings 0 = .ok (.aload_n 3, 1) := by decide +kernel
theorem dL_crossings_1 : decode cL_crossings 1 = .ok (.iconst 0, 1) := by decide +kernel
theorem dL_crossings_2 : decode cL_crossings 2 = .ok (.aload_n 0, 1) := by decide +kernel
theorem dL_crossings_3 : decode cL_crossings 3 = .ok (.iload_n 1, 1) := by decide +kernel
theorem dL_crossings_4 : decode cL_crossings 4 = .ok (.iload_n 2, 1) := by decide +kernel
theorem dL_crossings_5 : decode cL_crossings 5 = .ok (.invokevirtual 60, 3) := by decide +kernel
theorem dL_crossings_8 : decode cL_crossings 8 = .ok (.i2l, 1) := by decide +kernel
theorem dL_crossings_9 : decode cL_crossings 9 = .ok (.lastore, 1) := by decide +kernel
theorem dL_crossings_10 : decode cL_crossings 10 = .ok (.goto 11, 3) := by decide +kernel
theorem dL_crossings_13 : decode cL_crossings 13 = .ok (.astore 4, 2) := by decide +kernel
theorem dL_crossings_15 : decode cL_crossings 15 = .ok (.iconst 1, 1) := by decide +kernel
theorem dL_crossings_16 : decode cL_crossings 16 = .ok (.ireturn, 1) := by decide +kernel
theorem dL_crossings_17 : decode cL_crossings 17 = .ok (.astore 4, 2) := by decide +kernel
theorem dL_crossings_19 : decode cL_crossings 19 = .ok (.iconst 2, 1) := by decide +kernel
theorem dL_crossings_20 : decode cL_crossings 20 = .ok (.ireturn, 1) := by decide +kernel
theorem dL_crossings_21 : decode cL_crossings 21 = .ok (.iconst 0, 1) := by decide +kernel
theorem dL_crossings_22 : decode cL_crossings 22 = .ok (.ireturn, 1) := by decide +kernel
set_option maxRecDepth 20000 in
theorem ggL_count_X7_count : GoodIn wsL_count wsX7_count := goodIn_ca (goodIn_r _ [6, 7, 8, 9, 10, 11, 12, 13, 14, 15, 16, 17, 18, 19, 20, 21, 22, 23, 24, 25, 26, 27, 28, 29, 30, 31, 32, 33, 5, 34, 35, 36, 37, 38, 39, 40, 41, 42, 43, 44, 45, 46, 47, 48, 49, 50, 51, 52, 53, 54, 55, 56, 57, 58, 59, 60, 61, 62, 63, 64, 65, 66, 67, 68, 69, 70, 71, 72, 73, 74, 75, 76, 77, 78, 79, 80, 81, 82, 83, 84, 85, 86, 87, 88, 89, 90, 91, 92, 93, 94, 95, 96, 97, 98, 99, 100, 101, 102, 103, 104, 105, 106, 107, 108, 109, 110, 111, 112, 113, 114, 115, 116, 117, 118, 119, 120, 121, 122, 123, 124, 125, 126, 127, 128, 129, 130, 131, 132, 133, 134, 135, 136, 137, 138, 139, 140, 141, 142, 143, 144, 145, 146, 147, 148, 149, 150, 151, 152, 153, 154, 155, 156, 157, 158, 159, 160] (by decide +kernel) (by decide +kernel)) (goodIn_sub (fun _ h => List.mem_cons_of_mem _ (List.mem_append_right _ h)) (by decide +kernel))
set_option maxRecDepth 20000 in
theorem gL_count_X7_count : GoodIn wsL_count (wsV RL 63 RX7 yX7_count wsX7_count) := goodIn_app (goodIn_of _ (by decide +kernel)) ggL_count_X7_count
theorem dL_count_0 : decode cL_count 0 = .ok (.aload_n 2, 1) := by decide +kernel
theorem dL_count_1 : decode cL_count 1 = .ok (.iconst 0, 1) := by decide +kernel
theorem dL_count_2 : decode cL_count 2 = .ok (.aload_n 0, 1) := by decide +kernel
theorem dL_count_3 : decode cL_count 3 = .ok (.iload_n 1, 1) := by decide +kernel
theorem dL_count_4 : decode cL_count 4 = .ok (.invokevirtual 63, 3) := by decide +kernel
theorem dL_count_7 : decode cL_count 7 = .ok (.i2l, 1) := by decide +kernel
theorem dL_count_8 : decode cL_count 8 = .ok (.lastore, 1) := by decide +kernel
theorem dL_count_9 : decode cL_count 9 = .ok (.goto 6, 3) := by decide +kernel
theorem dL_count_12 : decode cL_count 12 = .ok (.astore_n 3, 1) := by decide +kernel
theorem dL_count_13 : decode cL_count 13 = .ok (.iconst 1, 1) := by decide +kernel
theorem dL_count_14 : decode cL_count 14 = .ok (.ireturn, 1) := by decide +kernel
theorem dL_count_15 : decode cL_count 15 = .ok (.iconst 0, 1) := by decide +kernel
theorem dL_count_16 : decode cL_count 16 = .ok (.ireturn, 1) := by decide +kernel
set_option maxRecDepth 20000 in
theorem ggL_least_X7_least : GoodIn wsL_least wsX7_least := goodIn_ca (goodIn_ca (goodIn_r _ [7, 8, 9, 10, 11, 12, 13, 14, 15, 6, 16, 17, 18, 19, 20, 21, 22, 23, 24, 25, 26, 27, 28, 29, 30, 31, 32, 33, 34, 35, 36, 37, 38, 39, 40, 41, 42, 43, 44, 45, 46, 47, 48, 49, 50, 51, 52, 53, 54, 55, 56, 57, 58, 59, 60, 61, 62, 63, 64, 65, 66, 67, 68, 69, 70, 71, 72, 73, 74, 75, 76, 77, 78, 79, 80, 81, 82, 83, 84, 85, 86, 87, 88, 89, 90, 91, 92, 93, 94, 95, 96, 97, 98, 99, 100, 101, 102, 103, 104, 105, 106, 107, 108, 109, 110, 111, 112, 113, 114, 115, 116, 117, 118, 119, 120, 121, 122, 123, 124, 125, 126, 127, 128, 129, 130, 131, 132, 133, 134, 135, 136, 137, 138, 139, 140, 141, 142, 143, 144, 145, 146, 147, 148, 149, 150, 151, 152, 153, 154, 155, 156, 157, 158, 159, 160, 161, 162, 163, 164, 165, 166, 167, 168, 169, 170, 171, 172, 173, 174, 175, 176, 177, 178, 179, 180, 181, 182, 183] (by decide +kernel) (by decide +kernel)) (goodIn_sub (fun _ h => List.mem_cons_of_mem _ (List.mem_append_left _ (List.mem_append_right _ h))) (by decide +kernel))) (goodIn_sub (fun _ h => List.mem_cons_of_mem _ (List.mem_append_right _ h)) (by decide +kernel))
set_option maxRecDepth 20000 in
theorem gL_least_X7_least : GoodIn wsL_least (wsV RL 66 RX7 yX7_least wsX7_least) := goodIn_app (goodIn_of _ (by decide +kernel)) ggL_least_X7_least
theorem dL_least_0 : decode cL_least 0 = .ok (.aload_n 3, 1) := by decide +kernel
theorem dL_least_1 : decode cL_least 1 = .ok (.iconst 0, 1) := by decide +kernel
theorem dL_least_2 : decode cL_least 2 = .ok (.aload_n 0, 1) := by decide +kernel
theorem dL_least_3 : decode cL_least 3 = .ok (.iload_n 1, 1) := by decide +kernel
theorem dL_least_4 : decode cL_least 4 = .ok (.iload_n 2, 1) := by decide +kernel
theorem dL_least_5 : decode cL_least 5 = .ok (.invokevirtual 66, 3) := by decide +kernel
theorem dL_least_8 : decode cL_least 8 = .ok (.i2l, 1) := by decide +kernel
theorem dL_least_9 : decode cL_least 9 = .ok (.lastore, 1) := by decide +kernel
theorem dL_least_10 : decode cL_least 10 = .ok (.goto 11, 3) := by decide +kernel
theorem dL_least_13 : decode cL_least 13 = .ok (.astore 4, 2) := by decide +kernel
theorem dL_least_15 : decode cL_least 15 = .ok (.iconst 1, 1) := by decide +kernel
theorem dL_least_16 : decode cL_least 16 = .ok (.ireturn, 1) := by decide +kernel
theorem dL_least_17 : decode cL_least 17 = .ok (.astore 4, 2) := by decide +kernel
theorem dL_least_19 : decode cL_least 19 = .ok (.iconst 2, 1) := by decide +kernel
theorem dL_least_20 : decode cL_least 20 = .ok (.ireturn, 1) := by decide +kernel
theorem dL_least_21 : decode cL_least 21 = .ok (.iconst 0, 1) := by decide +kernel
theorem dL_least_22 : decode cL_least 22 = .ok (.ireturn, 1) := by decide +kernel
set_option maxRecDepth 20000 in
theorem ggL_nearness_X7_nearness : GoodIn wsL_nearness wsX7_nearness := goodIn_ca (goodIn_r _ [6, 7, 8, 9, 10, 11, 12, 13, 14, 15, 16, 17, 18, 19, 20, 21, 22, 23, 24, 25, 26, 27, 28, 29, 30, 31, 32, 33, 34, 35, 36, 37, 38, 39, 40, 41, 42, 43, 44, 45, 46, 47, 48, 49, 50, 51, 52, 53, 54, 55, 56, 57, 58, 59, 60, 61, 62, 63, 64, 65, 66, 67, 68, 69, 70, 71, 72, 73] (by decide +kernel) (by decide +kernel)) (goodIn_sub (fun _ h => List.mem_cons_of_mem _ (List.mem_append_right _ h)) (by decide +kernel))
set_option maxRecDepth 20000 in
theorem gL_nearness_X7_nearness : GoodIn wsL_nearness (wsV RL 69 RX7 yX7_nearness wsX7_nearness) := goodIn_app (goodIn_of _ (by decide +kernel)) ggL_nearness_X7_nearness
theorem dL_nearness_0 : decode cL_nearness 0 = .ok (.aload_n 3, 1) := by decide +kernel
theorem dL_nearness_1 : decode cL_nearness 1 = .ok (.iconst 0, 1) := by decide +kernel
theorem dL_nearness_2 : decode cL_nearness 2 = .ok (.aload_n 0, 1) := by decide +kernel
theorem dL_nearness_3 : decode cL_nearness 3 = .ok (.iload_n 1, 1) := by decide +kernel
theorem dL_nearness_4 : decode cL_nearness 4 = .ok (.iload_n 2, 1) := by decide +kernel
theorem dL_nearness_5 : decode cL_nearness 5 = .ok (.invokevirtual 69, 3) := by decide +kernel
theorem dL_nearness_8 : decode cL_nearness 8 = .ok (.i2l, 1) := by decide +kernel
theorem dL_nearness_9 : decode cL_nearness 9 = .ok (.lastore, 1) := by decide +kernel
theorem dL_nearness_10 : decode cL_nearness 10 = .ok (.goto 7, 3) := by decide +kernel
theorem dL_nearness_13 : decode cL_nearness 13 = .ok (.astore 4, 2) := by decide +kernel
theorem dL_nearness_15 : decode cL_nearness 15 = .ok (.iconst 1, 1) := by decide +kernel
theorem dL_nearness_16 : decode cL_nearness 16 = .ok (.ireturn, 1) := by decide +kernel
theorem dL_nearness_17 : decode cL_nearness 17 = .ok (.iconst 0, 1) := by decide +kernel
theorem dL_nearness_18 : decode cL_nearness 18 = .ok (.ireturn, 1) := by decide +kernel
set_option maxRecDepth 20000 in
theorem ggL_law_X7_init : GoodIn wsL_law wsX7_init := goodIn_r _ [9, 10, 11, 12, 13, 14, 15, 16, 17, 18, 19, 20, 21, 22, 23, 24, 25, 26, 27, 28, 29, 30, 31, 32, 33, 34, 35, 36, 37, 38, 39, 40, 41, 42, 43, 44, 45, 46, 47, 48, 49, 50, 51, 52, 53, 54, 55, 56, 57, 58, 59, 60, 61, 62, 63, 64, 65, 66, 67, 68, 69, 70, 71, 72, 73, 74, 75, 76, 77, 78, 79, 80, 81, 82, 83, 84, 1035, 1036, 1037, 1038, 1039, 1040, 1041, 1042, 1043, 1044, 1006, 1007, 1008, 1009, 1010, 1011, 1012, 1013, 1045, 1046, 1047, 1048, 1049, 1050, 1051, 1052, 1053, 1054, 1055, 1056, 1057, 1058, 1059, 1060, 1061, 1062, 1063, 1064, 1065, 1066, 1067, 1068, 1069, 1070, 1071] (by decide +kernel) (by decide +kernel)
set_option maxRecDepth 20000 in
theorem gL_law_X7_init : GoodIn wsL_law (wsX7_init) := ggL_law_X7_init
set_option maxRecDepth 20000 in
theorem ggL_law_X8_init : GoodIn wsL_law wsX8_init := goodIn_r _ [87, 88, 11, 12, 43, 89, 90, 91, 18, 92, 93, 94, 95, 96, 97, 98, 99, 100, 101, 1014, 1015, 1016, 1017, 1018, 1019, 1020, 1021, 1022, 1023, 1024, 1025, 1026, 1027, 1028, 1029, 1030, 1031, 1032, 1033, 1034] (by decide +kernel) (by decide +kernel)
set_option maxRecDepth 20000 in
theorem gL_law_X8_init : GoodIn wsL_law (wsX8_init) := ggL_law_X8_init
set_option maxRecDepth 20000 in
theorem ggL_law_L_person : GoodIn wsL_law wsL_person := goodIn_ca (goodIn_r _ [105, 106, 107, 108, 109, 2, 110, 111, 112, 23, 16, 113, 114, 115, 116, 117, 118, 22, 119, 56, 120, 121, 122, 123, 124, 15, 125, 44, 126, 127, 128, 129, 45, 46, 47, 48, 49, 50, 130, 131, 132, 133, 134, 135, 136, 137, 138, 139, 140, 141, 142, 143, 144, 145, 146, 147, 148, 1006, 1007, 1008, 1009, 1010, 1011, 1012, 1013, 1045, 1046, 1047, 1035, 1036, 1037, 1038, 1039, 1040, 1041, 1042, 1043, 1044] (by decide +kernel) (by decide +kernel)) (goodIn_sub (fun _ h => List.mem_append_left _ (List.mem_append_left _ (List.mem_append_right _ h))) (by decide +kernel))
set_option maxRecDepth 20000 in
theorem gL_law_L_person : GoodIn wsL_law (va_wsS RL 76 yL_person wsL_person) := goodIn_app (goodIn_of _ (by decide +kernel)) ggL_law_L_person
set_option maxRecDepth 20000 in
theorem ggL_law_X8_person : GoodIn wsL_law wsX8_person := goodIn_r _ [152, 153, 154, 155, 5, 156, 157, 158, 159, 160, 161, 162, 163, 164, 165, 166, 167, 168, 90, 89, 169, 170, 171, 172, 1014, 1015, 1016, 1017, 1018, 1019, 1020, 1021, 1022, 1023, 1024, 1025, 1026, 1027, 1028, 1029, 1030, 1031, 1032, 1033, 1034] (by decide +kernel) (by decide +kernel)
set_option maxRecDepth 20000 in
theorem gL_law_X8_person : GoodIn wsL_law (wsV RL 81 RX8 yX8_person wsX8_person) := goodIn_app (goodIn_of _ (by decide +kernel)) ggL_law_X8_person
set_option maxRecDepth 20000 in
theorem ggL_law_X8_thrown : GoodIn wsL_law wsX8_thrown := goodIn_r _ [176, 153, 1014, 1015, 1016, 1017, 1018, 1019, 1020, 1021, 1022, 1023, 1024, 1025, 1026, 1027, 1028, 1029, 1030, 1031, 1032, 1033, 1034] (by decide +kernel) (by decide +kernel)
set_option maxRecDepth 20000 in
theorem gL_law_X8_thrown : GoodIn wsL_law (wsV RL 82 RX8 yX8_thrown wsX8_thrown) := goodIn_app (goodIn_of _ (by decide +kernel)) ggL_law_X8_thrown
set_option maxRecDepth 20000 in
theorem ggL_law_L_marry : GoodIn wsL_law wsL_marry := goodIn_ca (goodIn_ca (goodIn_r _ [179, 106, 180, 181, 182, 183, 2, 184, 111, 112, 185, 186, 16, 23, 187, 146, 147, 15, 148, 130, 116, 117, 118, 22, 119, 56, 120, 121, 122, 123, 124, 125, 44, 126, 127, 128, 129, 45, 46, 47, 48, 49, 50, 131, 132, 188, 189, 190, 191, 192, 193, 194, 195, 196, 197, 198, 199, 200, 201, 202, 203, 204, 205, 206, 145, 207, 208, 209, 210, 211, 212, 213, 214, 215, 216, 217, 218, 1006, 1007, 1008, 1009, 1010, 1011, 1012, 1013, 1035, 1036, 1037, 1038, 1039, 1040, 1041, 1042, 1043, 1044, 1045, 1046, 1047] (by decide +kernel) (by decide +kernel)) (goodIn_sub (fun _ h => List.mem_append_left _ (List.mem_append_left _ (List.mem_append_right _ h))) (by decide +kernel))) (goodIn_sub (fun _ h => List.mem_append_left _ (List.mem_append_right _ h)) (by decide +kernel))
set_option maxRecDepth 20000 in
theorem gL_law_L_marry : GoodIn wsL_law (va_wsS RL 85 yL_marry wsL_marry) := goodIn_app (goodIn_of _ (by decide +kernel)) ggL_law_L_marry
set_option maxRecDepth 20000 in
theorem ggL_law_X8_marry : GoodIn wsL_law wsX8_marry := goodIn_r _ [222, 153, 223, 224, 225, 5, 226, 89, 157, 158, 159, 160, 161, 162, 163, 164, 165, 166, 167, 168, 90, 227, 228, 229, 230, 231, 232, 233, 234, 235, 236, 237, 238, 239, 240, 241, 242, 243, 244, 245, 246, 247, 248, 249, 250, 251, 252, 253, 254, 1014, 1015, 1016, 1017, 1018, 1019, 1020, 1021, 1022, 1023, 1024, 1025, 1026, 1027, 1028, 1029, 1030, 1031, 1032, 1033, 1034] (by decide +kernel) (by decide +kernel)
set_option maxRecDepth 20000 in
theorem gL_law_X8_marry : GoodIn wsL_law (wsV RL 88 RX8 yX8_marry wsX8_marry) := goodIn_app (goodIn_of _ (by decide +kernel)) ggL_law_X8_marry
set_option maxRecDepth 20000 in
theorem ggL_law_L_child : GoodIn wsL_law wsL_child := goodIn_ca (goodIn_r _ [257, 106, 258, 259, 260, 2, 261, 111, 112, 16, 23, 262, 263, 264, 15, 265, 131, 116, 117, 118, 22, 119, 56, 120, 121, 122, 123, 124, 125, 44, 126, 127, 128, 129, 45, 46, 47, 48, 49, 50, 130, 132, 266, 267, 268, 269, 270, 271, 272, 273, 274, 203, 204, 205, 206, 145, 146, 147, 148, 275, 134, 135, 136, 137, 138, 139, 140, 141, 142, 143, 144, 1006, 1007, 1008, 1009, 1010, 1011, 1012, 1013, 1035, 1036, 1037, 1038, 1039, 1040, 1041, 1042, 1043, 1044, 1045, 1046, 1047] (by decide +kernel) (by decide +kernel)) (goodIn_sub (fun _ h => List.mem_append_left _ (List.mem_append_left _ (List.mem_append_right _ h))) (by decide +kernel))
set_option maxRecDepth 20000 in
theorem gL_law_L_child : GoodIn wsL_law (va_wsS RL 89 yL_child wsL_child) := goodIn_app (goodIn_of _ (by decide +kernel)) ggL_law_L_child
set_option maxRecDepth 20000 in
theorem ggL_law_X8_child : GoodIn wsL_law wsX8_child := goodIn_r _ [279, 153, 280, 281, 282, 5, 283, 89, 157, 158, 159, 160, 161, 162, 163, 164, 165, 166, 167, 168, 90, 284, 285, 286, 287, 243, 244, 245, 246, 235, 236, 237, 238, 169, 170, 171, 172, 1014, 1015, 1016, 1017, 1018, 1019, 1020, 1021, 1022, 1023, 1024, 1025, 1026, 1027, 1028, 1029, 1030, 1031, 1032, 1033, 1034] (by decide +kernel) (by decide +kernel)
set_option maxRecDepth 20000 in
theorem gL_law_X8_child : GoodIn wsL_law (wsV RL 91 RX8 yX8_child wsX8_child) := goodIn_app (goodIn_of _ (by decide +kernel)) ggL_law_X8_child
set_option maxRecDepth 20000 in
theorem ggL_law_L_swap : GoodIn wsL_law wsL_swap := goodIn_ca (goodIn_ca (goodIn_r _ [290, 106, 180, 291, 292, 293, 2, 294, 111, 112, 185, 186, 16, 23, 113, 114, 115, 295, 138, 139, 15, 140, 50, 116, 117, 118, 22, 119, 56, 120, 121, 122, 123, 124, 125, 44, 126, 127, 128, 129, 45, 46, 47, 48, 49, 130, 131, 132, 296, 297, 298, 299, 31, 300, 301, 302, 30, 303, 304, 64, 65, 305, 306, 307, 308, 309, 137, 310, 311, 312, 313, 314, 315, 316, 317, 145, 146, 147, 148, 318, 319, 320, 321, 274, 263, 264, 265, 322, 323, 324, 325, 326, 327, 328, 329, 330, 331, 332, 333, 334, 141, 142, 143, 144, 1006, 1007, 1008, 1009, 1010, 1011, 1012, 1013, 1035, 1036, 1037, 1038, 1039, 1040, 1041, 1042, 1043, 1044, 1045, 1046, 1047, 1054, 1055, 1056] (by decide +kernel) (by decide +kernel)) (goodIn_sub (fun _ h => List.mem_append_left _ (List.mem_append_left _ (List.mem_append_right _ h))) (by decide +kernel))) (goodIn_sub (fun _ h => List.mem_append_left _ (List.mem_append_right _ h)) (by decide +kernel))
set_option maxRecDepth 20000 in
theorem gL_law_L_swap : GoodIn wsL_law (va_wsS RL 92 yL_swap wsL_swap) := goodIn_app (goodIn_of _ (by decide +kernel)) ggL_law_L_swap
set_option maxRecDepth 20000 in
theorem ggL_law_X8_swap : GoodIn wsL_law wsX8_swap := goodIn_r _ [338, 153, 89, 154, 155, 5, 156, 157, 158, 159, 160, 161, 162, 163, 164, 165, 166, 167, 168, 90, 339, 340, 341, 342, 343, 344, 345, 346, 347, 93, 94, 348, 349, 350, 351, 352, 353, 354, 355, 356, 357, 358, 359, 360, 361, 362, 363, 243, 244, 245, 246, 364, 365, 366, 367, 235, 236, 237, 238, 247, 248, 249, 250, 368, 369, 370, 371, 1014, 1015, 1016, 1017, 1018, 1019, 1020, 1021, 1022, 1023, 1024, 1025, 1026, 1027, 1028, 1029, 1030, 1031, 1032, 1033, 1034] (by decide +kernel) (by decide +kernel)
set_option maxRecDepth 20000 in
theorem gL_law_X8_swap : GoodIn wsL_law (wsV RL 94 RX8 yX8_swap wsX8_swap) := goodIn_app (goodIn_of _ (by decide +kernel)) ggL_law_X8_swap
set_option maxRecDepth 20000 in
theorem ggL_law_L_byParents : GoodIn wsL_law wsL_byParents := goodIn_ca (goodIn_r _ [374, 106, 375, 376, 377, 2, 378, 111, 112, 23, 16, 35, 113, 114, 115, 116, 117, 118, 22, 119, 56, 120, 121, 122, 123, 124, 15, 125, 44, 126, 127, 128, 129, 45, 46, 47, 48, 49, 50, 130, 131, 132, 379, 380, 381, 34, 382, 383, 193, 194, 195, 69, 70, 384, 138, 139, 140, 385, 307, 308, 309, 137, 386, 311, 312, 313, 314, 315, 316, 317, 145, 146, 147, 148, 318, 319, 320, 321, 274, 263, 264, 265, 322, 323, 324, 325, 387, 388, 389, 390, 391, 142, 143, 144, 1006, 1007, 1008, 1009, 1010, 1011, 1012, 1013, 1045, 1046, 1047, 1035, 1036, 1037, 1038, 1039, 1040, 1041, 1042, 1043, 1044, 1057, 1058] (by decide +kernel) (by decide +kernel)) (goodIn_sub (fun _ h => List.mem_append_left _ (List.mem_append_left _ (List.mem_append_right _ h))) (by decide +kernel))
set_option maxRecDepth 20000 in
theorem gL_law_L_byParents : GoodIn wsL_law (va_wsS RL 95 yL_byParents wsL_byParents) := goodIn_app (goodIn_of _ (by decide +kernel)) ggL_law_L_byParents
set_option maxRecDepth 20000 in
theorem ggL_law_X8_byParents : GoodIn wsL_law wsX8_byParents := goodIn_r _ [395, 153, 154, 155, 5, 156, 157, 158, 159, 160, 161, 162, 163, 164, 165, 166, 167, 168, 90, 89, 396, 397, 398, 399, 96, 95, 400, 401, 402, 403, 352, 353, 354, 355, 356, 357, 358, 359, 360, 361, 362, 363, 243, 244, 245, 246, 364, 365, 366, 367, 235, 236, 237, 238, 247, 248, 249, 250, 404, 405, 406, 407, 1014, 1015, 1016, 1017, 1018, 1019, 1020, 1021, 1022, 1023, 1024, 1025, 1026, 1027, 1028, 1029, 1030, 1031, 1032, 1033, 1034] (by decide +kernel) (by decide +kernel)
set_option maxRecDepth 20000 in
theorem gL_law_X8_byParents : GoodIn wsL_law (wsV RL 97 RX8 yX8_byParents wsX8_byParents) := goodIn_app (goodIn_of _ (by decide +kernel)) ggL_law_X8_byParents
set_option maxRecDepth 20000 in
theorem ggL_law_L_untangle : GoodIn wsL_law wsL_untangle := goodIn_ca (goodIn_r _ [410, 106, 411, 412, 413, 2, 414, 111, 112, 23, 16, 39, 113, 114, 115, 116, 117, 118, 22, 119, 56, 120, 121, 122, 123, 124, 15, 125, 44, 126, 127, 128, 129, 45, 46, 47, 48, 49, 50, 130, 131, 132, 415, 416, 417, 38, 418, 419, 420, 421, 422, 423, 74, 424, 425, 426, 427, 428, 204, 205, 206, 145, 146, 147, 148, 429, 430, 431, 432, 77, 433, 311, 312, 313, 314, 315, 316, 317, 318, 319, 320, 321, 274, 263, 264, 265, 322, 323, 324, 325, 434, 435, 436, 437, 438, 82, 439, 138, 139, 140, 440, 307, 308, 309, 137, 441, 442, 443, 444, 445, 78, 79, 80, 446, 271, 272, 273, 447, 448, 449, 450, 451, 452, 453, 454, 84, 455, 456, 457, 458, 459, 75, 460, 461, 462, 463, 464, 76, 465, 466, 467, 468, 469, 470, 471, 472, 473, 474, 475, 81, 476, 477, 478, 479, 480, 481, 482, 483, 484, 485, 486, 487, 488, 142, 143, 144, 1006, 1007, 1008, 1009, 1010, 1011, 1012, 1013, 1045, 1046, 1047, 1035, 1036, 1037, 1038, 1039, 1040, 1041, 1042, 1043, 1044, 1059, 1060, 1061, 1062, 1063, 1064, 1065, 1066, 1067, 1068, 1069, 1070, 1071] (by decide +kernel) (by decide +kernel)) (goodIn_sub (fun _ h => List.mem_append_left _ (List.mem_append_left _ (List.mem_append_right _ h))) (by decide +kernel))
set_option maxRecDepth 20000 in
theorem gL_law_L_untangle : GoodIn wsL_law (va_wsS RL 98 yL_untangle wsL_untangle) := goodIn_app (goodIn_of _ (by decide +kernel)) ggL_law_L_untangle
set_option maxRecDepth 20000 in
theorem ggL_law_X8_untangle : GoodIn wsL_law wsX8_untangle := goodIn_r _ [492, 153, 89, 97, 154, 155, 5, 156, 157, 158, 159, 160, 161, 162, 163, 164, 165, 166, 167, 168, 90, 493, 494, 495, 496, 400, 401, 402, 403, 96, 352, 353, 354, 355, 497, 498, 499, 500, 368, 369, 370, 371, 501, 502, 503, 504, 343, 344, 345, 346, 347, 93, 94, 348, 349, 350, 351, 356, 357, 358, 359, 360, 361, 362, 363, 243, 244, 245, 246, 364, 365, 366, 367, 235, 236, 237, 238, 247, 248, 249, 250, 505, 506, 507, 508, 509, 510, 511, 512, 1014, 1015, 1016, 1017, 1018, 1019, 1020, 1021, 1022, 1023, 1024, 1025, 1026, 1027, 1028, 1029, 1030, 1031, 1032, 1033, 1034] (by decide +kernel) (by decide +kernel)
set_option maxRecDepth 20000 in
theorem gL_law_X8_untangle : GoodIn wsL_law (wsV RL 100 RX8 yX8_untangle wsX8_untangle) := goodIn_app (goodIn_of _ (by decide +kernel)) ggL_law_X8_untangle
set_option maxRecDepth 20000 in
theorem ggL_law_L_append : GoodIn wsL_law wsL_append := goodIn_ca (goodIn_ca (goodIn_r _ [515, 180, 516, 517, 518, 519, 2, 520, 185, 186, 521, 522, 27, 523, 524, 525, 26, 526, 527, 528, 529, 530, 531, 60, 1006, 1007, 1008, 1009, 1010, 1011, 1012, 1013, 1048, 1049, 1050, 1051, 1052, 1053] (by decide +kernel) (by decide +kernel)) (goodIn_sub (fun _ h => List.mem_append_left _ (List.mem_append_right _ h)) (by decide +kernel))) (goodIn_sub (fun _ h => List.mem_append_right _ h) (by decide +kernel))
set_option maxRecDepth 20000 in
theorem gL_law_L_append : GoodIn wsL_law (va_wsS RL 101 yL_append wsL_append) := goodIn_app (goodIn_of _ (by decide +kernel)) ggL_law_L_append
set_option maxRecDepth 20000 in
theorem ggL_law_X8_append : GoodIn wsL_law wsX8_append := goodIn_r _ [535, 153, 536, 98, 157, 158, 5, 159, 160, 161, 162, 163, 1014, 1015, 1016, 1017, 1018, 1019, 1020, 1021, 1022, 1023, 1024, 1025, 1026, 1027, 1028, 1029, 1030, 1031, 1032, 1033, 1034] (by decide +kernel) (by decide +kernel)
set_option maxRecDepth 20000 in
theorem gL_law_X8_append : GoodIn wsL_law (wsV RL 103 RX8 yX8_append wsX8_append) := goodIn_app (goodIn_of _ (by decide +kernel)) ggL_law_X8_append
set_option maxRecDepth 20000 in
theorem ggL_law_X7_clearBuffer : GoodIn wsL_law wsX7_clearBuffer := goodIn_r _ [540, 27, 541, 542, 543, 26, 544, 527, 1006, 1007, 1008, 1009, 1010, 1011, 1012, 1013, 1048, 1049, 1050, 1051, 1052, 1053] (by decide +kernel) (by decide +kernel)
set_option maxRecDepth 20000 in
theorem gL_law_X7_clearBuffer : GoodIn wsL_law (wsV RL 104 RX7 yX7_clearBuffer wsX7_clearBuffer) := goodIn_app (goodIn_of _ (by decide +kernel)) ggL_law_X7_clearBuffer
set_option maxRecDepth 20000 in
theorem ggL_law_X8_clearBuffer : GoodIn wsL_law wsX8_clearBuffer := goodIn_r _ [548, 153, 536, 1014, 1015, 1016, 1017, 1018, 1019, 1020, 1021, 1022, 1023, 1024, 1025, 1026, 1027, 1028, 1029, 1030, 1031, 1032, 1033, 1034] (by decide +kernel) (by decide +kernel)
set_option maxRecDepth 20000 in
theorem gL_law_X8_clearBuffer : GoodIn wsL_law (wsV RL 107 RX8 yX8_clearBuffer wsX8_clearBuffer) := goodIn_app (goodIn_of _ (by decide +kernel)) ggL_law_X8_clearBuffer
set_option maxRecDepth 20000 in
theorem ggL_law_X7_firstError : GoodIn wsL_law wsX7_firstError := goodIn_r _ [552, 27, 553, 554, 555, 26, 556, 527, 60, 557, 558, 559, 560, 561, 562, 563, 564, 565, 566, 567, 568, 1006, 1007, 1008, 1009, 1010, 1011, 1012, 1013, 1048, 1049, 1050, 1051, 1052, 1053] (by decide +kernel) (by decide +kernel)
set_option maxRecDepth 20000 in
theorem gL_law_X7_firstError : GoodIn wsL_law (wsV RL 108 RX7 yX7_firstError wsX7_firstError) := goodIn_app (goodIn_of _ (by decide +kernel)) ggL_law_X7_firstError
set_option maxRecDepth 20000 in
theorem ggL_law_X8_firstError : GoodIn wsL_law wsX8_firstError := goodIn_r _ [572, 153, 536, 573, 574, 575, 576, 5, 577, 578, 579, 580, 581, 582, 100, 99, 583, 584, 585, 586, 98, 157, 158, 159, 587, 588, 589, 590, 591, 101, 592, 593, 594, 595, 596, 597, 598, 599, 1014, 1015, 1016, 1017, 1018, 1019, 1020, 1021, 1022, 1023, 1024, 1025, 1026, 1027, 1028, 1029, 1030, 1031, 1032, 1033, 1034] (by decide +kernel) (by decide +kernel)
set_option maxRecDepth 20000 in
theorem gL_law_X8_firstError : GoodIn wsL_law (wsV RL 111 RX8 yX8_firstError wsX8_firstError) := goodIn_app (goodIn_of _ (by decide +kernel)) ggL_law_X8_firstError
set_option maxRecDepth 20000 in
theorem ggL_law_L_run : GoodIn wsL_law wsL_run := goodIn_ca (goodIn_r _ [602, 180, 603, 604, 605, 2, 606, 185, 186, 27, 23, 16, 607, 608, 609, 26, 610, 527, 60, 557, 558, 559, 560, 561, 562, 563, 564, 565, 566, 567, 568, 116, 117, 118, 22, 119, 56, 120, 121, 122, 123, 124, 15, 125, 44, 126, 127, 128, 129, 45, 46, 47, 48, 49, 50, 130, 131, 132, 611, 612, 613, 614, 615, 616, 617, 618, 619, 620, 621, 622, 623, 624, 625, 626, 627, 628, 629, 630, 631, 632, 633, 634, 635, 636, 637, 638, 639, 640, 641, 642, 643, 644, 645, 646, 187, 146, 147, 148, 188, 189, 190, 191, 192, 193, 194, 195, 196, 197, 198, 199, 200, 201, 202, 203, 204, 205, 206, 145, 207, 208, 209, 210, 211, 212, 213, 214, 215, 216, 217, 218, 262, 263, 264, 265, 266, 267, 268, 269, 270, 271, 272, 273, 274, 275, 134, 135, 136, 137, 138, 139, 140, 141, 142, 143, 144, 113, 114, 115, 133, 541, 542, 543, 544, 1006, 1007, 1008, 1009, 1010, 1011, 1012, 1013, 1048, 1049, 1050, 1051, 1052, 1053, 1045, 1046, 1047, 1035, 1036, 1037, 1038, 1039, 1040, 1041, 1042, 1043, 1044] (by decide +kernel) (by decide +kernel)) (goodIn_sub (fun _ h => List.mem_append_left _ (List.mem_append_right _ h)) (by decide +kernel))
set_option maxRecDepth 20000 in
theorem gL_law_L_run : GoodIn wsL_law (va_wsS RL 112 yL_run wsL_run) := goodIn_app (goodIn_of _ (by decide +kernel)) ggL_law_L_run
set_option maxRecDepth 20000 in
theorem ggL_law_X8_run : GoodIn wsL_law wsX8_run := goodIn_r _ [650, 153, 578, 536, 574, 575, 576, 5, 577, 573, 579, 580, 581, 582, 100, 99, 583, 584, 585, 586, 98, 157, 158, 159, 587, 588, 589, 590, 591, 101, 592, 593, 594, 595, 596, 597, 598, 599, 160, 161, 162, 163, 164, 165, 166, 167, 168, 90, 89, 651, 652, 653, 654, 223, 224, 225, 226, 227, 228, 229, 230, 231, 232, 233, 234, 235, 236, 237, 238, 239, 240, 241, 242, 243, 244, 245, 246, 247, 248, 249, 250, 251, 252, 253, 254, 280, 281, 282, 283, 284, 285, 286, 287, 169, 170, 171, 172, 1014, 1015, 1016, 1017, 1018, 1019, 1020, 1021, 1022, 1023, 1024, 1025, 1026, 1027, 1028, 1029, 1030, 1031, 1032, 1033, 1034] (by decide +kernel) (by decide +kernel)
set_option maxRecDepth 20000 in
theorem gL_law_X8_run : GoodIn wsL_law (wsV RL 115 RX8 yX8_run wsX8_run) := goodIn_app (goodIn_of _ (by decide +kernel)) ggL_law_X8_run
set_option maxRecDepth 20000 in
theorem ggL_law_L_keep : GoodIn wsL_law wsL_keep := goodIn_ca (goodIn_r _ [657, 180, 658, 659, 660, 2, 661, 185, 186, 17, 16, 19, 662, 663, 664, 665, 123, 124, 15, 125, 44, 126, 127, 128, 129, 45, 46, 47, 48, 49, 50, 130, 131, 132, 666, 425, 426, 427, 1006, 1007, 1008, 1009, 1010, 1011, 1012, 1013, 1035, 1036, 1037, 1038, 1039, 1040, 1041, 1042, 1043, 1044] (by decide +kernel) (by decide +kernel)) (goodIn_sub (fun _ h => List.mem_append_left _ (List.mem_append_right _ h)) (by decide +kernel))
set_option maxRecDepth 20000 in
theorem gL_law_L_keep : GoodIn wsL_law (va_wsS RL 116 yL_keep wsL_keep) := goodIn_app (goodIn_of _ (by decide +kernel)) ggL_law_L_keep
set_option maxRecDepth 20000 in
theorem ggL_law_X8_keep : GoodIn wsL_law wsX8_keep := goodIn_r _ [670, 153, 91, 89, 92, 157, 158, 5, 159, 160, 161, 162, 163, 1014, 1015, 1016, 1017, 1018, 1019, 1020, 1021, 1022, 1023, 1024, 1025, 1026, 1027, 1028, 1029, 1030, 1031, 1032, 1033, 1034] (by decide +kernel) (by decide +kernel)
set_option maxRecDepth 20000 in
theorem gL_law_X8_keep : GoodIn wsL_law (wsV RL 118 RX8 yX8_keep wsX8_keep) := goodIn_app (goodIn_of _ (by decide +kernel)) ggL_law_X8_keep
set_option maxRecDepth 20000 in
theorem ggL_law_L_goBack : GoodIn wsL_law wsL_goBack := goodIn_ca (goodIn_ca (goodIn_r _ [673, 180, 516, 674, 675, 676, 2, 677, 185, 186, 521, 522, 19, 23, 16, 17, 662, 663, 664, 116, 117, 118, 22, 119, 56, 120, 121, 122, 123, 124, 15, 125, 44, 126, 127, 128, 129, 45, 46, 47, 48, 49, 50, 130, 131, 132, 665, 666, 425, 426, 427, 1006, 1007, 1008, 1009, 1010, 1011, 1012, 1013, 1045, 1046, 1047, 1035, 1036, 1037, 1038, 1039, 1040, 1041, 1042, 1043, 1044] (by decide +kernel) (by decide +kernel)) (goodIn_sub (fun _ h => List.mem_append_left _ (List.mem_append_right _ h)) (by decide +kernel))) (goodIn_sub (fun _ h => List.mem_append_right _ h) (by decide +kernel))
set_option maxRecDepth 20000 in
theorem gL_law_L_goBack : GoodIn wsL_law (va_wsS RL 119 yL_goBack wsL_goBack) := goodIn_app (goodIn_of _ (by decide +kernel)) ggL_law_L_goBack
set_option maxRecDepth 20000 in
theorem ggL_law_X8_goBack : GoodIn wsL_law wsX8_goBack := goodIn_r _ [681, 153, 92, 89, 91, 157, 158, 5, 159, 160, 161, 162, 163, 164, 165, 166, 167, 168, 90, 1014, 1015, 1016, 1017, 1018, 1019, 1020, 1021, 1022, 1023, 1024, 1025, 1026, 1027, 1028, 1029, 1030, 1031, 1032, 1033, 1034] (by decide +kernel) (by decide +kernel)
set_option maxRecDepth 20000 in
theorem gL_law_X8_goBack : GoodIn wsL_law (wsV RL 121 RX8 yX8_goBack wsX8_goBack) := goodIn_app (goodIn_of _ (by decide +kernel)) ggL_law_X8_goBack
set_option maxRecDepth 20000 in
theorem ggL_law_L_undo : GoodIn wsL_law wsL_undo := goodIn_ca (goodIn_r _ [684, 516, 685, 686, 687, 2, 688, 521, 522, 23, 16, 689, 690, 691, 22, 692, 121, 693, 694, 695, 696, 56, 120, 122, 123, 124, 15, 125, 44, 126, 127, 128, 129, 45, 46, 47, 48, 49, 50, 130, 131, 132, 1006, 1007, 1008, 1009, 1010, 1011, 1012, 1013, 1045, 1046, 1047, 1035, 1036, 1037, 1038, 1039, 1040, 1041, 1042, 1043, 1044] (by decide +kernel) (by decide +kernel)) (goodIn_sub (fun _ h => List.mem_append_right _ h) (by decide +kernel))
set_option maxRecDepth 20000 in
theorem gL_law_L_undo : GoodIn wsL_law (va_wsS RL 122 yL_undo wsL_undo) := goodIn_app (goodIn_of _ (by decide +kernel)) ggL_law_L_undo
set_option maxRecDepth 20000 in
theorem ggL_law_X8_undo : GoodIn wsL_law wsX8_undo := goodIn_r _ [700, 153, 168, 89, 90, 160, 161, 162, 5, 163, 1014, 1015, 1016, 1017, 1018, 1019, 1020, 1021, 1022, 1023, 1024, 1025, 1026, 1027, 1028, 1029, 1030, 1031, 1032, 1033, 1034] (by decide +kernel) (by decide +kernel)
set_option maxRecDepth 20000 in
theorem gL_law_X8_undo : GoodIn wsL_law (wsV RL 124 RX8 yX8_undo wsX8_undo) := goodIn_app (goodIn_of _ (by decide +kernel)) ggL_law_X8_undo
set_option maxRecDepth 20000 in
theorem ggL_law_L_personOf : GoodIn wsL_law wsL_personOf := goodIn_ca (goodIn_ca (goodIn_r _ [703, 106, 180, 704, 705, 706, 2, 707, 111, 112, 185, 186, 16, 187, 146, 147, 15, 148, 130, 708, 204, 205, 206, 44, 145, 709, 323, 324, 325, 45, 710, 315, 316, 317, 46, 711, 216, 217, 218, 131, 47, 48, 712, 713, 714, 715, 716, 717, 718, 719, 720, 721, 722, 723, 724, 425, 426, 427, 725, 726, 727, 728, 729, 271, 272, 273, 274, 263, 264, 265, 730, 448, 449, 450, 731, 466, 467, 468, 469, 470, 471, 732, 733, 734, 1006, 1007, 1008, 1009, 1010, 1011, 1012, 1013, 1035, 1036, 1037, 1038, 1039, 1040, 1041, 1042, 1043, 1044] (by decide +kernel) (by decide +kernel)) (goodIn_sub (fun _ h => List.mem_append_left _ (List.mem_append_left _ (List.mem_append_right _ h))) (by decide +kernel))) (goodIn_sub (fun _ h => List.mem_append_left _ (List.mem_append_right _ h)) (by decide +kernel))
set_option maxRecDepth 20000 in
theorem gL_law_L_personOf : GoodIn wsL_law (va_wsS RL 125 yL_personOf wsL_personOf) := goodIn_app (goodIn_of _ (by decide +kernel)) ggL_law_L_personOf
set_option maxRecDepth 20000 in
theorem ggL_law_X8_personOf : GoodIn wsL_law wsX8_personOf := goodIn_r _ [738, 153, 223, 224, 225, 5, 226, 89, 157, 158, 159, 160, 161, 162, 163, 739, 740, 741, 742, 235, 236, 237, 238, 364, 365, 366, 367, 352, 353, 354, 355, 356, 357, 358, 359, 251, 252, 253, 254, 243, 244, 245, 246, 247, 248, 249, 250, 743, 744, 745, 746, 747, 748, 749, 750, 751, 752, 753, 754, 755, 756, 757, 758, 759, 760, 761, 762, 763, 764, 765, 1014, 1015, 1016, 1017, 1018, 1019, 1020, 1021, 1022, 1023, 1024, 1025, 1026, 1027, 1028, 1029, 1030, 1031, 1032, 1033, 1034] (by decide +kernel) (by decide +kernel)
set_option maxRecDepth 20000 in
theorem gL_law_X8_personOf : GoodIn wsL_law (wsV RL 127 RX8 yX8_personOf wsX8_personOf) := goodIn_app (goodIn_of _ (by decide +kernel)) ggL_law_X8_personOf
set_option maxRecDepth 20000 in
theorem ggL_law_L_coupleOf : GoodIn wsL_law wsL_coupleOf := goodIn_ca (goodIn_ca (goodIn_r _ [768, 106, 180, 769, 770, 771, 2, 772, 111, 112, 185, 186, 16, 262, 263, 264, 15, 265, 131, 773, 271, 272, 273, 47, 274, 774, 448, 449, 450, 48, 708, 204, 205, 206, 44, 145, 146, 147, 148, 130, 775, 319, 320, 321, 322, 323, 324, 325, 45, 776, 717, 718, 719, 46, 777, 778, 722, 779, 729, 780, 733, 734, 725, 726, 727, 728, 315, 316, 317, 730, 731, 466, 467, 468, 469, 470, 471, 1006, 1007, 1008, 1009, 1010, 1011, 1012, 1013, 1035, 1036, 1037, 1038, 1039, 1040, 1041, 1042, 1043, 1044] (by decide +kernel) (by decide +kernel)) (goodIn_sub (fun _ h => List.mem_append_left _ (List.mem_append_left _ (List.mem_append_right _ h))) (by decide +kernel))) (goodIn_sub (fun _ h => List.mem_append_left _ (List.mem_append_right _ h)) (by decide +kernel))
set_option maxRecDepth 20000 in
theorem gL_law_L_coupleOf : GoodIn wsL_law (va_wsS RL 128 yL_coupleOf wsL_coupleOf) := goodIn_app (goodIn_of _ (by decide +kernel)) ggL_law_L_coupleOf
set_option maxRecDepth 20000 in
theorem ggL_law_X8_coupleOf : GoodIn wsL_law wsX8_coupleOf := goodIn_r _ [784, 153, 280, 281, 282, 5, 283, 89, 157, 158, 159, 160, 161, 162, 163, 785, 786, 787, 788, 243, 244, 245, 246, 247, 248, 249, 250, 235, 236, 237, 238, 360, 361, 362, 363, 364, 365, 366, 367, 352, 353, 354, 355, 747, 748, 749, 750, 356, 357, 358, 359, 789, 790, 791, 792, 755, 756, 757, 758, 759, 760, 761, 762, 763, 764, 765, 1014, 1015, 1016, 1017, 1018, 1019, 1020, 1021, 1022, 1023, 1024, 1025, 1026, 1027, 1028, 1029, 1030, 1031, 1032, 1033, 1034] (by decide +kernel) (by decide +kernel)
set_option maxRecDepth 20000 in
theorem gL_law_X8_coupleOf : GoodIn wsL_law (wsV RL 130 RX8 yX8_coupleOf wsX8_coupleOf) := goodIn_app (goodIn_of _ (by decide +kernel)) ggL_law_X8_coupleOf
set_option maxRecDepth 20000 in
theorem ggL_law_L_at : GoodIn wsL_law wsL_at := goodIn_ca (goodIn_ca (goodIn_r _ [795, 106, 180, 796, 797, 798, 2, 799, 111, 112, 185, 186, 16, 113, 114, 115, 800, 307, 308, 15, 309, 49, 137, 138, 139, 140, 50, 1006, 1007, 1008, 1009, 1010, 1011, 1012, 1013, 1035, 1036, 1037, 1038, 1039, 1040, 1041, 1042, 1043, 1044] (by decide +kernel) (by decide +kernel)) (goodIn_sub (fun _ h => List.mem_append_left _ (List.mem_append_left _ (List.mem_append_right _ h))) (by decide +kernel))) (goodIn_sub (fun _ h => List.mem_append_left _ (List.mem_append_right _ h)) (by decide +kernel))
set_option maxRecDepth 20000 in
theorem gL_law_L_at : GoodIn wsL_law (va_wsS RL 131 yL_at wsL_at) := goodIn_app (goodIn_of _ (by decide +kernel)) ggL_law_L_at
set_option maxRecDepth 20000 in
theorem ggL_law_X8_at : GoodIn wsL_law wsX8_at := goodIn_r _ [804, 153, 154, 155, 5, 156, 157, 158, 159, 160, 161, 162, 163, 805, 806, 807, 808, 89, 352, 353, 354, 355, 1014, 1015, 1016, 1017, 1018, 1019, 1020, 1021, 1022, 1023, 1024, 1025, 1026, 1027, 1028, 1029, 1030, 1031, 1032, 1033, 1034] (by decide +kernel) (by decide +kernel)
set_option maxRecDepth 20000 in
theorem gL_law_X8_at : GoodIn wsL_law (wsV RL 133 RX8 yX8_at wsX8_at) := goodIn_app (goodIn_of _ (by decide +kernel)) ggL_law_X8_at
set_option maxRecDepth 20000 in
theorem ggL_law_L_crossings : GoodIn wsL_law wsL_crossings := goodIn_ca (goodIn_ca (goodIn_r _ [811, 106, 180, 812, 813, 814, 2, 815, 111, 112, 185, 186, 31, 16, 113, 114, 115, 300, 301, 302, 30, 303, 304, 64, 65, 305, 138, 139, 15, 140, 50, 306, 307, 308, 309, 49, 137, 310, 311, 312, 313, 314, 315, 316, 317, 46, 145, 146, 147, 148, 130, 318, 319, 320, 321, 47, 48, 274, 263, 264, 265, 131, 322, 323, 324, 325, 45, 326, 327, 328, 329, 816, 817, 818, 819, 820, 821, 822, 823, 1006, 1007, 1008, 1009, 1010, 1011, 1012, 1013, 1054, 1055, 1056, 1035, 1036, 1037, 1038, 1039, 1040, 1041, 1042, 1043, 1044] (by decide +kernel) (by decide +kernel)) (goodIn_sub (fun _ h => List.mem_append_left _ (List.mem_append_left _ (List.mem_append_right _ h))) (by decide +kernel))) (goodIn_sub (fun _ h => List.mem_append_left _ (List.mem_append_right _ h)) (by decide +kernel))
set_option maxRecDepth 20000 in
theorem gL_law_L_crossings : GoodIn wsL_law (va_wsS RL 134 yL_crossings wsL_crossings) := goodIn_app (goodIn_of _ (by decide +kernel)) ggL_law_L_crossings
set_option maxRecDepth 20000 in
theorem ggL_law_X8_crossings : GoodIn wsL_law wsX8_crossings := goodIn_r _ [827, 153, 154, 155, 5, 156, 157, 158, 159, 160, 161, 162, 163, 343, 344, 345, 346, 347, 93, 94, 348, 349, 350, 351, 89, 352, 353, 354, 355, 356, 357, 358, 359, 360, 361, 362, 363, 243, 244, 245, 246, 364, 365, 366, 367, 235, 236, 237, 238, 247, 248, 249, 250, 1014, 1015, 1016, 1017, 1018, 1019, 1020, 1021, 1022, 1023, 1024, 1025, 1026, 1027, 1028, 1029, 1030, 1031, 1032, 1033, 1034] (by decide +kernel) (by decide +kernel)
set_option maxRecDepth 20000 in
theorem gL_law_X8_crossings : GoodIn wsL_law (wsV RL 136 RX8 yX8_crossings wsX8_crossings) := goodIn_app (goodIn_of _ (by decide +kernel)) ggL_law_X8_crossings
set_option maxRecDepth 20000 in
theorem ggL_law_L_count : GoodIn wsL_law wsL_count := goodIn_ca (goodIn_r _ [830, 180, 831, 832, 833, 2, 834, 185, 186, 16, 23, 666, 425, 426, 15, 427, 130, 835, 836, 837, 838, 131, 839, 840, 841, 842, 716, 717, 718, 719, 46, 296, 297, 298, 299, 31, 300, 301, 302, 30, 303, 304, 64, 65, 305, 138, 139, 140, 50, 306, 307, 308, 309, 49, 137, 310, 311, 312, 313, 314, 315, 316, 317, 145, 146, 147, 148, 318, 319, 320, 321, 47, 48, 274, 263, 264, 265, 322, 323, 324, 325, 45, 326, 327, 328, 329, 843, 844, 845, 846, 847, 848, 849, 850, 851, 211, 212, 213, 214, 215, 216, 217, 218, 852, 853, 722, 854, 855, 856, 778, 779, 729, 271, 272, 273, 780, 733, 734, 725, 726, 727, 728, 730, 448, 449, 450, 857, 858, 859, 860, 132, 689, 690, 691, 22, 692, 121, 1006, 1007, 1008, 1009, 1010, 1011, 1012, 1013, 1035, 1036, 1037, 1038, 1039, 1040, 1041, 1042, 1043, 1044, 1054, 1055, 1056, 1045, 1046, 1047] (by decide +kernel) (by decide +kernel)) (goodIn_sub (fun _ h => List.mem_append_left _ (List.mem_append_right _ h)) (by decide +kernel))
set_option maxRecDepth 20000 in
theorem gL_law_L_count : GoodIn wsL_law (va_wsS RL 137 yL_count wsL_count) := goodIn_app (goodIn_of _ (by decide +kernel)) ggL_law_L_count
set_option maxRecDepth 20000 in
theorem ggL_law_X8_count : GoodIn wsL_law wsX8_count := goodIn_r _ [864, 153, 157, 158, 5, 159, 865, 866, 867, 868, 89, 168, 869, 870, 871, 872, 356, 357, 358, 359, 339, 340, 341, 342, 343, 344, 345, 346, 347, 93, 94, 348, 349, 350, 351, 352, 353, 354, 355, 360, 361, 362, 363, 243, 244, 245, 246, 364, 365, 366, 367, 235, 236, 237, 238, 247, 248, 249, 250, 873, 874, 875, 876, 877, 878, 879, 880, 251, 252, 253, 254, 881, 882, 883, 884, 789, 790, 791, 792, 755, 756, 757, 758, 759, 760, 761, 762, 763, 764, 765, 160, 161, 162, 163, 1014, 1015, 1016, 1017, 1018, 1019, 1020, 1021, 1022, 1023, 1024, 1025, 1026, 1027, 1028, 1029, 1030, 1031, 1032, 1033, 1034] (by decide +kernel) (by decide +kernel)
set_option maxRecDepth 20000 in
theorem gL_law_X8_count : GoodIn wsL_law (wsV RL 139 RX8 yX8_count wsX8_count) := goodIn_app (goodIn_of _ (by decide +kernel)) ggL_law_X8_count
set_option maxRecDepth 20000 in
theorem ggL_law_L_least : GoodIn wsL_law wsL_least := goodIn_ca (goodIn_ca (goodIn_r _ [887, 106, 180, 888, 889, 890, 2, 891, 111, 112, 185, 186, 39, 16, 113, 114, 115, 415, 416, 417, 38, 418, 419, 420, 421, 422, 423, 74, 424, 425, 426, 15, 427, 130, 428, 204, 205, 206, 44, 145, 146, 147, 148, 429, 430, 431, 432, 77, 433, 311, 312, 313, 314, 315, 316, 317, 46, 318, 319, 320, 321, 47, 48, 274, 263, 264, 265, 131, 322, 323, 324, 325, 45, 434, 435, 436, 437, 438, 82, 439, 138, 139, 140, 50, 440, 307, 308, 309, 49, 137, 441, 442, 443, 444, 445, 78, 79, 80, 446, 271, 272, 273, 447, 448, 449, 450, 451, 452, 453, 454, 84, 455, 456, 457, 458, 459, 75, 460, 127, 128, 129, 461, 462, 463, 464, 76, 465, 466, 467, 468, 469, 470, 471, 472, 473, 474, 475, 81, 476, 477, 478, 479, 480, 481, 482, 483, 892, 893, 894, 895, 896, 897, 898, 1006, 1007, 1008, 1009, 1010, 1011, 1012, 1013, 1059, 1060, 1061, 1062, 1063, 1064, 1065, 1066, 1067, 1068, 1069, 1070, 1071, 1035, 1036, 1037, 1038, 1039, 1040, 1041, 1042, 1043, 1044] (by decide +kernel) (by decide +kernel)) (goodIn_sub (fun _ h => List.mem_append_left _ (List.mem_append_left _ (List.mem_append_right _ h))) (by decide +kernel))) (goodIn_sub (fun _ h => List.mem_append_left _ (List.mem_append_right _ h)) (by decide +kernel))
set_option maxRecDepth 20000 in
theorem gL_law_L_least : GoodIn wsL_law (va_wsS RL 140 yL_least wsL_least) := goodIn_app (goodIn_of _ (by decide +kernel)) ggL_law_L_least
set_option maxRecDepth 20000 in
theorem ggL_law_X8_least : GoodIn wsL_law wsX8_least := goodIn_r _ [902, 153, 154, 155, 5, 156, 157, 158, 159, 160, 161, 162, 163, 493, 494, 495, 496, 97, 400, 401, 402, 403, 96, 352, 353, 354, 355, 89, 497, 498, 499, 500, 368, 369, 370, 371, 501, 502, 503, 504, 343, 344, 345, 346, 347, 93, 94, 348, 349, 350, 351, 356, 357, 358, 359, 360, 361, 362, 363, 243, 244, 245, 246, 364, 365, 366, 367, 235, 236, 237, 238, 247, 248, 249, 250, 505, 506, 507, 508, 509, 510, 511, 512, 1014, 1015, 1016, 1017, 1018, 1019, 1020, 1021, 1022, 1023, 1024, 1025, 1026, 1027, 1028, 1029, 1030, 1031, 1032, 1033, 1034] (by decide +kernel) (by decide +kernel)
set_option maxRecDepth 20000 in
theorem gL_law_X8_least : GoodIn wsL_law (wsV RL 142 RX8 yX8_least wsX8_least) := goodIn_app (goodIn_of _ (by decide +kernel)) ggL_law_X8_least
set_option maxRecDepth 20000 in
theorem ggL_law_X7_bestSwap : GoodIn wsL_law wsX7_bestSwap := goodIn_r _ [906, 16, 296, 297, 298, 2, 299, 31, 300, 301, 302, 30, 303, 304, 64, 65, 305, 138, 139, 15, 140, 50, 306, 307, 308, 309, 49, 137, 310, 311, 312, 313, 314, 315, 316, 317, 46, 145, 146, 147, 148, 130, 318, 319, 320, 321, 47, 48, 274, 263, 264, 265, 131, 322, 323, 324, 325, 45, 326, 327, 328, 329, 295, 330, 331, 332, 333, 334, 141, 142, 143, 144, 1006, 1007, 1008, 1009, 1010, 1011, 1012, 1013, 1054, 1055, 1056, 1035, 1036, 1037, 1038, 1039, 1040, 1041, 1042, 1043, 1044] (by decide +kernel) (by decide +kernel)
set_option maxRecDepth 20000 in
theorem gL_law_X7_bestSwap : GoodIn wsL_law (wsV RL 143 RX7 yX7_bestSwap wsX7_bestSwap) := goodIn_app (goodIn_of _ (by decide +kernel)) ggL_law_X7_bestSwap
set_option maxRecDepth 20000 in
theorem ggL_law_X8_bestSwap : GoodIn wsL_law wsX8_bestSwap := goodIn_r _ [910, 153, 911, 912, 913, 5, 914, 89, 339, 340, 341, 342, 343, 344, 345, 346, 347, 93, 94, 348, 349, 350, 351, 352, 353, 354, 355, 356, 357, 358, 359, 360, 361, 362, 363, 243, 244, 245, 246, 364, 365, 366, 367, 235, 236, 237, 238, 247, 248, 249, 250, 368, 369, 370, 371, 1014, 1015, 1016, 1017, 1018, 1019, 1020, 1021, 1022, 1023, 1024, 1025, 1026, 1027, 1028, 1029, 1030, 1031, 1032, 1033, 1034] (by decide +kernel) (by decide +kernel)
set_option maxRecDepth 20000 in
theorem gL_law_X8_bestSwap : GoodIn wsL_law (wsV RL 146 RX8 yX8_bestSwap wsX8_bestSwap) := goodIn_app (goodIn_of _ (by decide +kernel)) ggL_law_X8_bestSwap
set_option maxRecDepth 20000 in
theorem ggL_law_L_nearness : GoodIn wsL_law wsL_nearness := goodIn_ca (goodIn_r _ [917, 106, 918, 919, 920, 2, 921, 111, 112, 16, 187, 146, 147, 15, 148, 130, 922, 923, 722, 924, 780, 733, 734, 725, 726, 727, 728, 315, 316, 317, 46, 145, 729, 271, 272, 273, 47, 274, 263, 264, 265, 131, 730, 448, 449, 450, 48, 724, 425, 426, 427, 925, 204, 205, 206, 44, 1006, 1007, 1008, 1009, 1010, 1011, 1012, 1013, 1035, 1036, 1037, 1038, 1039, 1040, 1041, 1042, 1043, 1044] (by decide +kernel) (by decide +kernel)) (goodIn_sub (fun _ h => List.mem_append_left _ (List.mem_append_left _ (List.mem_append_right _ h))) (by decide +kernel))
set_option maxRecDepth 20000 in
theorem gL_law_L_nearness : GoodIn wsL_law (va_wsS RL 147 yL_nearness wsL_nearness) := goodIn_app (goodIn_of _ (by decide +kernel)) ggL_law_L_nearness
set_option maxRecDepth 20000 in
theorem ggL_law_X8_nearness : GoodIn wsL_law wsX8_nearness := goodIn_r _ [929, 153, 223, 224, 225, 5, 226, 89, 157, 158, 159, 930, 931, 932, 933, 755, 756, 757, 758, 759, 760, 761, 762, 356, 357, 358, 359, 243, 244, 245, 246, 247, 248, 249, 250, 235, 236, 237, 238, 160, 161, 162, 163, 1014, 1015, 1016, 1017, 1018, 1019, 1020, 1021, 1022, 1023, 1024, 1025, 1026, 1027, 1028, 1029, 1030, 1031, 1032, 1033, 1034] (by decide +kernel) (by decide +kernel)
set_option maxRecDepth 20000 in
theorem gL_law_X8_nearness : GoodIn wsL_law (wsV RL 149 RX8 yX8_nearness wsX8_nearness) := goodIn_app (goodIn_of _ (by decide +kernel)) ggL_law_X8_nearness
set_option maxRecDepth 20000 in
theorem ggL_law_X7_straightShare : GoodIn wsL_law wsX7_straightShare := goodIn_r _ [937, 16, 839, 840, 841, 15, 842, 130, 716, 717, 718, 719, 46, 843, 844, 845, 846, 45, 847, 311, 312, 313, 314, 315, 316, 317, 145, 146, 147, 148, 318, 319, 320, 321, 47, 48, 274, 263, 264, 265, 131, 322, 323, 324, 325, 1006, 1007, 1008, 1009, 1010, 1011, 1012, 1013, 1035, 1036, 1037, 1038, 1039, 1040, 1041, 1042, 1043, 1044] (by decide +kernel) (by decide +kernel)
set_option maxRecDepth 20000 in
theorem gL_law_X7_straightShare : GoodIn wsL_law (wsV RL 150 RX7 yX7_straightShare wsX7_straightShare) := goodIn_app (goodIn_of _ (by decide +kernel)) ggL_law_X7_straightShare
set_option maxRecDepth 20000 in
theorem ggL_law_X8_straightShare : GoodIn wsL_law wsX8_straightShare := goodIn_r _ [941, 153, 942, 943, 944, 5, 945, 869, 870, 871, 872, 89, 356, 357, 358, 359, 873, 874, 875, 876, 347, 93, 94, 348, 349, 350, 351, 352, 353, 354, 355, 360, 361, 362, 363, 243, 244, 245, 246, 364, 365, 366, 367, 235, 236, 237, 238, 247, 248, 249, 250, 1014, 1015, 1016, 1017, 1018, 1019, 1020, 1021, 1022, 1023, 1024, 1025, 1026, 1027, 1028, 1029, 1030, 1031, 1032, 1033, 1034] (by decide +kernel) (by decide +kernel)
set_option maxRecDepth 20000 in
theorem gL_law_X8_straightShare : GoodIn wsL_law (wsV RL 154 RX8 yX8_straightShare wsX8_straightShare) := goodIn_app (goodIn_of _ (by decide +kernel)) ggL_law_X8_straightShare
set_option maxRecDepth 20000 in
theorem ggL_law_X7_digest : GoodIn wsL_law wsX7_digest := goodIn_ca (goodIn_ca (goodIn_r _ [949, 950, 951, 16, 19, 27, 952, 832, 833, 2, 834, 185, 186, 23, 666, 425, 426, 15, 427, 130, 835, 836, 837, 838, 131, 839, 840, 841, 842, 716, 717, 718, 719, 46, 296, 297, 298, 299, 31, 300, 301, 302, 30, 303, 304, 64, 65, 305, 138, 139, 140, 50, 306, 307, 308, 309, 49, 137, 310, 311, 312, 313, 314, 315, 316, 317, 145, 146, 147, 148, 318, 319, 320, 321, 47, 48, 274, 263, 264, 265, 322, 323, 324, 325, 45, 326, 327, 328, 329, 843, 844, 845, 846, 847, 848, 849, 850, 851, 211, 212, 213, 214, 215, 216, 217, 218, 852, 853, 722, 854, 855, 856, 778, 779, 729, 271, 272, 273, 780, 733, 734, 725, 726, 727, 728, 730, 448, 449, 450, 857, 858, 859, 860, 132, 689, 690, 691, 22, 692, 121, 953, 954, 955, 956, 957, 705, 706, 707, 111, 112, 187, 708, 204, 205, 206, 44, 709, 710, 711, 712, 713, 714, 715, 720, 721, 723, 724, 731, 466, 467, 468, 469, 470, 471, 732, 958, 770, 771, 772, 262, 773, 774, 775, 776, 777, 959, 960, 961, 962, 963, 797, 798, 799, 113, 114, 115, 800, 964, 813, 814, 815, 816, 817, 818, 819, 820, 821, 822, 823, 965, 889, 890, 891, 39, 415, 416, 417, 38, 418, 419, 420, 421, 422, 423, 74, 424, 428, 429, 430, 431, 432, 77, 433, 434, 435, 436, 437, 438, 82, 439, 440, 441, 442, 443, 444, 445, 78, 79, 80, 446, 447, 451, 452, 453, 454, 84, 455, 456, 457, 458, 459, 75, 460, 127, 128, 129, 461, 462, 463, 464, 76, 465, 472, 473, 474, 475, 81, 476, 477, 478, 479, 480, 481, 482, 483, 892, 893, 894, 895, 896, 897, 898, 966, 904, 905, 906, 295, 330, 331, 332, 333, 334, 141, 142, 143, 144, 967, 919, 920, 921, 922, 923, 924, 925, 968, 935, 936, 937, 969, 970, 971, 972, 973, 974, 975, 976, 26, 977, 527, 978, 624, 625, 626, 60, 1006, 1007, 1008, 1009, 1010, 1011, 1012, 1013, 1035, 1036, 1037, 1038, 1039, 1040, 1041, 1042, 1043, 1044, 1054, 1055, 1056, 1045, 1046, 1047, 1059, 1060, 1061, 1062, 1063, 1064, 1065, 1066, 1067, 1068, 1069, 1070, 1071, 1048, 1049, 1050, 1051, 1052, 1053] (by decide +kernel) (by decide +kernel)) (goodIn_sub (fun _ h => List.mem_append_left _ (List.mem_append_right _ h)) (by decide +kernel))) (goodIn_sub (fun _ h => List.mem_append_left _ (List.mem_append_left _ (List.mem_append_right _ h))) (by decide +kernel))
set_option maxRecDepth 20000 in
theorem gL_law_X7_digest : GoodIn wsL_law (wsV RL 155 RX7 yX7_digest wsX7_digest) := goodIn_app (goodIn_of _ (by decide +kernel)) ggL_law_X7_digest
set_option maxRecDepth 20000 in
theorem ggL_law_X8_digest : GoodIn wsL_law wsX8_digest := goodIn_r _ [982, 153, 983, 984, 89, 92, 536, 98, 865, 866, 867, 5, 868, 168, 869, 870, 871, 872, 356, 357, 358, 359, 339, 340, 341, 342, 343, 344, 345, 346, 347, 93, 94, 348, 349, 350, 351, 352, 353, 354, 355, 360, 361, 362, 363, 243, 244, 245, 246, 364, 365, 366, 367, 235, 236, 237, 238, 247, 248, 249, 250, 873, 874, 875, 876, 877, 878, 879, 880, 251, 252, 253, 254, 881, 882, 883, 884, 789, 790, 791, 792, 755, 756, 757, 758, 759, 760, 761, 762, 763, 764, 765, 985, 986, 987, 988, 989, 739, 740, 741, 742, 743, 744, 745, 746, 747, 748, 749, 750, 751, 752, 753, 754, 785, 786, 787, 788, 990, 991, 992, 993, 805, 806, 807, 808, 493, 494, 495, 496, 97, 400, 401, 402, 403, 96, 497, 498, 499, 500, 368, 369, 370, 371, 501, 502, 503, 504, 505, 506, 507, 508, 509, 510, 511, 512, 911, 912, 913, 914, 930, 931, 932, 933, 942, 943, 944, 945, 994, 995, 996, 997, 998, 999, 1000, 1001, 1002, 1003, 1004, 1005, 1014, 1015, 1016, 1017, 1018, 1019, 1020, 1021, 1022, 1023, 1024, 1025, 1026, 1027, 1028, 1029, 1030, 1031, 1032, 1033, 1034] (by decide +kernel) (by decide +kernel)
set_option maxRecDepth 20000 in
theorem gL_law_X8_digest : GoodIn wsL_law (wsV RL 159 RX8 yX8_digest wsX8_digest) := goodIn_app (goodIn_of _ (by decide +kernel)) ggL_law_X8_digest
theorem dL_law_0 : decode cL_law 0 = .ok (.new 8, 3) := by decide +kernel
theorem dL_law_3 : decode cL_law 3 = .ok (.dup, 1) := by decide +kernel
theorem dL_law_4 : decode cL_law 4 = .ok (.invokespecial 72, 3) := by decide +kernel
theorem dL_law_7 : decode cL_law 7 = .ok (.astore_n 1, 1) := by decide +kernel
theorem dL_law_8 : decode cL_law 8 = .ok (.new 73, 3) := by decide +kernel
theorem dL_law_11 : decode cL_law 11 = .ok (.dup, 1) := by decide +kernel
theorem dL_law_12 : decode cL_law 12 = .ok (.invokespecial 75, 3) := by decide +kernel
theorem dL_law_15 : decode cL_law 15 = .ok (.astore_n 2, 1) := by decide +kernel
theorem dL_law_16 : decode cL_law 16 = .ok (.iconst 1, 1) := by decide +kernel
theorem dL_law_17 : decode cL_law 17 = .ok (.newarray .long, 2) := by decide +kernel
theorem dL_law_19 : decode cL_law 19 = .ok (.astore_n 3, 1) := by decide +kernel
theorem dL_law_20 : decode cL_law 20 = .ok (.iconst 0, 1) := by decide +kernel
theorem dL_law_21 : decode cL_law 21 = .ok (.istore 4, 2) := by decide +kernel
theorem dL_law_23 : decode cL_law 23 = .ok (.iload 4, 2) := by decide +kernel
theorem dL_law_25 : decode cL_law 25 = .ok (.aload_n 0, 1) := by decide +kernel
theorem dL_law_26 : decode cL_law 26 = .ok (.arraylength, 1) := by decide +kernel
theorem dL_law_27 : decode cL_law 27 = .ok (.iconst 3, 1) := by decide +kernel
theorem dL_law_28 : decode cL_law 28 = .ok (.isub, 1) := by decide +kernel
theorem dL_law_29 : decode cL_law 29 = .ok (.if_icmp .gt 1295, 3) := by decide +kernel
theorem dL_law_32 : decode cL_law 32 = .ok (.aload_n 0, 1) := by decide +kernel
theorem dL_law_33 : decode cL_law 33 = .ok (.iload 4, 2) := by decide +kernel
theorem dL_law_35 : decode cL_law 35 = .ok (.iaload, 1) := by decide +kernel
theorem dL_law_36 : decode cL_law 36 = .ok (.bipush 31, 2) := by decide +kernel
theorem dL_law_38 : decode cL_law 38 = .ok (.iand, 1) := by decide +kernel
theorem dL_law_39 : decode cL_law 39 = .ok (.tableswitch 1279 0 22 #[105, 161, 229, 285, 353, 409, 465, 521, 534, 547, 591, 647, 703, 747, 815, 883, 951, 1019, 1075, 1143, 1156, 1224, 1265], 105) := by decide +kernel
theorem dL_law_144 : decode cL_law 144 = .ok (.aload_n 1, 1) := by decide +kernel
theorem dL_law_145 : decode cL_law 145 = .ok (.aload_n 0, 1) := by decide +kernel
theorem dL_law_146 : decode cL_law 146 = .ok (.iload 4, 2) := by decide +kernel
theorem dL_law_148 : decode cL_law 148 = .ok (.iconst 1, 1) := by decide +kernel
theorem dL_law_149 : decode cL_law 149 = .ok (.iadd, 1) := by decide +kernel
theorem dL_law_150 : decode cL_law 150 = .ok (.iaload, 1) := by decide +kernel
theorem dL_law_151 : decode cL_law 151 = .ok (.aload_n 3, 1) := by decide +kernel
theorem dL_law_152 : decode cL_law 152 = .ok (.invokestatic 76, 3) := by decide +kernel
theorem dL_law_155 : decode cL_law 155 = .ok (.istore 5, 2) := by decide +kernel
theorem dL_law_157 : decode cL_law 157 = .ok (.aload_n 2, 1) := by decide +kernel
theorem dL_law_158 : decode cL_law 158 = .ok (.aload_n 0, 1) := by decide +kernel
theorem dL_law_159 : decode cL_law 159 = .ok (.iload 4, 2) := by decide +kernel
theorem dL_law_161 : decode cL_law 161 = .ok (.iconst 1, 1) := by decide +kernel
theorem dL_law_162 : decode cL_law 162 = .ok (.iadd, 1) := by decide +kernel
theorem dL_law_163 : decode cL_law 163 = .ok (.iaload, 1) := by decide +kernel
theorem dL_law_164 : decode cL_law 164 = .ok (.invokevirtual 81, 3) := by decide +kernel
theorem dL_law_167 : decode cL_law 167 = .ok (.istore 6, 2) := by decide +kernel
theorem dL_law_169 : decode cL_law 169 = .ok (.aload_n 2, 1) := by decide +kernel
theorem dL_law_170 : decode cL_law 170 = .ok (.invokevirtual 82, 3) := by decide +kernel
theorem dL_law_173 : decode cL_law 173 = .ok (.iload 5, 2) := by decide +kernel
theorem dL_law_175 : decode cL_law 175 = .ok (.if_icmp .eq 5, 3) := by decide +kernel
theorem dL_law_178 : decode cL_law 178 = .ok (.iconst 0, 1) := by decide +kernel
theorem dL_law_179 : decode cL_law 179 = .ok (.ireturn, 1) := by decide +kernel
theorem dL_law_180 : decode cL_law 180 = .ok (.iload 5, 2) := by decide +kernel
theorem dL_law_182 : decode cL_law 182 = .ok (.ifCond .ne 15, 3) := by decide +kernel
theorem dL_law_185 : decode cL_law 185 = .ok (.aload_n 3, 1) := by decide +kernel
theorem dL_law_186 : decode cL_law 186 = .ok (.iconst 0, 1) := by decide +kernel
theorem dL_law_187 : decode cL_law 187 = .ok (.laload, 1) := by decide +kernel
theorem dL_law_188 : decode cL_law 188 = .ok (.iload 6, 2) := by decide +kernel
theorem dL_law_190 : decode cL_law 190 = .ok (.i2l, 1) := by decide +kernel
theorem dL_law_191 : decode cL_law 191 = .ok (.lcmp, 1) := by decide +kernel
theorem dL_law_192 : decode cL_law 192 = .ok (.ifCond .eq 5, 3) := by decide +kernel
theorem dL_law_195 : decode cL_law 195 = .ok (.iconst 0, 1) := by decide +kernel
theorem dL_law_196 : decode cL_law 196 = .ok (.ireturn, 1) := by decide +kernel
theorem dL_law_197 : decode cL_law 197 = .ok (.goto 1121, 3) := by decide +kernel
theorem dL_law_200 : decode cL_law 200 = .ok (.aload_n 1, 1) := by decide +kernel
theorem dL_law_201 : decode cL_law 201 = .ok (.aload_n 0, 1) := by decide +kernel
theorem dL_law_202 : decode cL_law 202 = .ok (.iload 4, 2) := by decide +kernel
theorem dL_law_204 : decode cL_law 204 = .ok (.iconst 1, 1) := by decide +kernel
theorem dL_law_205 : decode cL_law 205 = .ok (.iadd, 1) := by decide +kernel
theorem dL_law_206 : decode cL_law 206 = .ok (.iaload, 1) := by decide +kernel
theorem dL_law_207 : decode cL_law 207 = .ok (.aload_n 0, 1) := by decide +kernel
theorem dL_law_208 : decode cL_law 208 = .ok (.iload 4, 2) := by decide +kernel
theorem dL_law_210 : decode cL_law 210 = .ok (.iconst 2, 1) := by decide +kernel
theorem dL_law_211 : decode cL_law 211 = .ok (.iadd, 1) := by decide +kernel
theorem dL_law_212 : decode cL_law 212 = .ok (.iaload, 1) := by decide +kernel
theorem dL_law_213 : decode cL_law 213 = .ok (.aload_n 3, 1) := by decide +kernel
theorem dL_law_214 : decode cL_law 214 = .ok (.invokestatic 85, 3) := by decide +kernel
theorem dL_law_217 : decode cL_law 217 = .ok (.istore 5, 2) := by decide +kernel
theorem dL_law_219 : decode cL_law 219 = .ok (.aload_n 2, 1) := by decide +kernel
theorem dL_law_220 : decode cL_law 220 = .ok (.aload_n 0, 1) := by decide +kernel
theorem dL_law_221 : decode cL_law 221 = .ok (.iload 4, 2) := by decide +kernel
theorem dL_law_223 : decode cL_law 223 = .ok (.iconst 1, 1) := by decide +kernel
theorem dL_law_224 : decode cL_law 224 = .ok (.iadd, 1) := by decide +kernel
theorem dL_law_225 : decode cL_law 225 = .ok (.iaload, 1) := by decide +kernel
theorem dL_law_226 : decode cL_law 226 = .ok (.aload_n 0, 1) := by decide +kernel
theorem dL_law_227 : decode cL_law 227 = .ok (.iload 4, 2) := by decide +kernel
theorem dL_law_229 : decode cL_law 229 = .ok (.iconst 2, 1) := by decide +kernel
theorem dL_law_230 : decode cL_law 230 = .ok (.iadd, 1) := by decide +kernel
theorem dL_law_231 : decode cL_law 231 = .ok (.iaload, 1) := by decide +kernel
theorem dL_law_232 : decode cL_law 232 = .ok (.invokevirtual 88, 3) := by decide +kernel
theorem dL_law_235 : decode cL_law 235 = .ok (.istore 6, 2) := by decide +kernel
theorem dL_law_237 : decode cL_law 237 = .ok (.aload_n 2, 1) := by decide +kernel
theorem dL_law_238 : decode cL_law 238 = .ok (.invokevirtual 82, 3) := by decide +kernel
theorem dL_law_241 : decode cL_law 241 = .ok (.iload 5, 2) := by decide +kernel
theorem dL_law_243 : decode cL_law 243 = .ok (.if_icmp .eq 5, 3) := by decide +kernel
theorem dL_law_246 : decode cL_law 246 = .ok (.iconst 0, 1) := by decide +kernel
theorem dL_law_247 : decode cL_law 247 = .ok (.ireturn, 1) := by decide +kernel
theorem dL_law_248 : decode cL_law 248 = .ok (.iload 5, 2) := by decide +kernel
theorem dL_law_250 : decode cL_law 250 = .ok (.ifCond .ne 15, 3) := by decide +kernel
theorem dL_law_253 : decode cL_law 253 = .ok (.aload_n 3, 1) := by decide +kernel
theorem dL_law_254 : decode cL_law 254 = .ok (.iconst 0, 1) := by decide +kernel
theorem dL_law_255 : decode cL_law 255 = .ok (.laload, 1) := by decide +kernel
theorem dL_law_256 : decode cL_law 256 = .ok (.iload 6, 2) := by decide +kernel
theorem dL_law_258 : decode cL_law 258 = .ok (.i2l, 1) := by decide +kernel
theorem dL_law_259 : decode cL_law 259 = .ok (.lcmp, 1) := by decide +kernel
theorem dL_law_260 : decode cL_law 260 = .ok (.ifCond .eq 5, 3) := by decide +kernel
theorem dL_law_263 : decode cL_law 263 = .ok (.iconst 0, 1) := by decide +kernel
theorem dL_law_264 : decode cL_law 264 = .ok (.ireturn, 1) := by decide +kernel
theorem dL_law_265 : decode cL_law 265 = .ok (.goto 1053, 3) := by decide +kernel
theorem dL_law_268 : decode cL_law 268 = .ok (.aload_n 1, 1) := by decide +kernel
theorem dL_law_269 : decode cL_law 269 = .ok (.aload_n 0, 1) := by decide +kernel
theorem dL_law_270 : decode cL_law 270 = .ok (.iload 4, 2) := by decide +kernel
theorem dL_law_272 : decode cL_law 272 = .ok (.iconst 1, 1) := by decide +kernel
theorem dL_law_273 : decode cL_law 273 = .ok (.iadd, 1) := by decide +kernel
theorem dL_law_274 : decode cL_law 274 = .ok (.iaload, 1) := by decide +kernel
theorem dL_law_275 : decode cL_law 275 = .ok (.aload_n 3, 1) := by decide +kernel
theorem dL_law_276 : decode cL_law 276 = .ok (.invokestatic 89, 3) := by decide +kernel
theorem dL_law_279 : decode cL_law 279 = .ok (.istore 5, 2) := by decide +kernel
theorem dL_law_281 : decode cL_law 281 = .ok (.aload_n 2, 1) := by decide +kernel
theorem dL_law_282 : decode cL_law 282 = .ok (.aload_n 0, 1) := by decide +kernel
theorem dL_law_283 : decode cL_law 283 = .ok (.iload 4, 2) := by decide +kernel
theorem dL_law_285 : decode cL_law 285 = .ok (.iconst 1, 1) := by decide +kernel
theorem dL_law_286 : decode cL_law 286 = .ok (.iadd, 1) := by decide +kernel
theorem dL_law_287 : decode cL_law 287 = .ok (.iaload, 1) := by decide +kernel
theorem dL_law_288 : decode cL_law 288 = .ok (.invokevirtual 91, 3) := by decide +kernel
theorem dL_law_291 : decode cL_law 291 = .ok (.istore 6, 2) := by decide +kernel
theorem dL_law_293 : decode cL_law 293 = .ok (.aload_n 2, 1) := by decide +kernel
theorem dL_law_294 : decode cL_law 294 = .ok (.invokevirtual 82, 3) := by decide +kernel
theorem dL_law_297 : decode cL_law 297 = .ok (.iload 5, 2) := by decide +kernel
theorem dL_law_299 : decode cL_law 299 = .ok (.if_icmp .eq 5, 3) := by decide +kernel
theorem dL_law_302 : decode cL_law 302 = .ok (.iconst 0, 1) := by decide +kernel
theorem dL_law_303 : decode cL_law 303 = .ok (.ireturn, 1) := by decide +kernel
theorem dL_law_304 : decode cL_law 304 = .ok (.iload 5, 2) := by decide +kernel
theorem dL_law_306 : decode cL_law 306 = .ok (.ifCond .ne 15, 3) := by decide +kernel
theorem dL_law_309 : decode cL_law 309 = .ok (.aload_n 3, 1) := by decide +kernel
theorem dL_law_310 : decode cL_law 310 = .ok (.iconst 0, 1) := by decide +kernel
theorem dL_law_311 : decode cL_law 311 = .ok (.laload, 1) := by decide +kernel
theorem dL_law_312 : decode cL_law 312 = .ok (.iload 6, 2) := by decide +kernel
theorem dL_law_314 : decode cL_law 314 = .ok (.i2l, 1) := by decide +kernel
theorem dL_law_315 : decode cL_law 315 = .ok (.lcmp, 1) := by decide +kernel
theorem dL_law_316 : decode cL_law 316 = .ok (.ifCond .eq 5, 3) := by decide +kernel
theorem dL_law_319 : decode cL_law 319 = .ok (.iconst 0, 1) := by decide +kernel
theorem dL_law_320 : decode cL_law 320 = .ok (.ireturn, 1) := by decide +kernel
theorem dL_law_321 : decode cL_law 321 = .ok (.goto 997, 3) := by decide +kernel
theorem dL_law_324 : decode cL_law 324 = .ok (.aload_n 1, 1) := by decide +kernel
theorem dL_law_325 : decode cL_law 325 = .ok (.aload_n 0, 1) := by decide +kernel
theorem dL_law_326 : decode cL_law 326 = .ok (.iload 4, 2) := by decide +kernel
theorem dL_law_328 : decode cL_law 328 = .ok (.iconst 1, 1) := by decide +kernel
theorem dL_law_329 : decode cL_law 329 = .ok (.iadd, 1) := by decide +kernel
theorem dL_law_330 : decode cL_law 330 = .ok (.iaload, 1) := by decide +kernel
theorem dL_law_331 : decode cL_law 331 = .ok (.aload_n 0, 1) := by decide +kernel
theorem dL_law_332 : decode cL_law 332 = .ok (.iload 4, 2) := by decide +kernel
theorem dL_law_334 : decode cL_law 334 = .ok (.iconst 2, 1) := by decide +kernel
theorem dL_law_335 : decode cL_law 335 = .ok (.iadd, 1) := by decide +kernel
theorem dL_law_336 : decode cL_law 336 = .ok (.iaload, 1) := by decide +kernel
theorem dL_law_337 : decode cL_law 337 = .ok (.aload_n 3, 1) := by decide +kernel
theorem dL_law_338 : decode cL_law 338 = .ok (.invokestatic 92, 3) := by decide +kernel
theorem dL_law_341 : decode cL_law 341 = .ok (.istore 5, 2) := by decide +kernel
theorem dL_law_343 : decode cL_law 343 = .ok (.aload_n 2, 1) := by decide +kernel
theorem dL_law_344 : decode cL_law 344 = .ok (.aload_n 0, 1) := by decide +kernel
theorem dL_law_345 : decode cL_law 345 = .ok (.iload 4, 2) := by decide +kernel
theorem dL_law_347 : decode cL_law 347 = .ok (.iconst 1, 1) := by decide +kernel
theorem dL_law_348 : decode cL_law 348 = .ok (.iadd, 1) := by decide +kernel
theorem dL_law_349 : decode cL_law 349 = .ok (.iaload, 1) := by decide +kernel
theorem dL_law_350 : decode cL_law 350 = .ok (.aload_n 0, 1) := by decide +kernel
theorem dL_law_351 : decode cL_law 351 = .ok (.iload 4, 2) := by decide +kernel
theorem dL_law_353 : decode cL_law 353 = .ok (.iconst 2, 1) := by decide +kernel
theorem dL_law_354 : decode cL_law 354 = .ok (.iadd, 1) := by decide +kernel
theorem dL_law_355 : decode cL_law 355 = .ok (.iaload, 1) := by decide +kernel
theorem dL_law_356 : decode cL_law 356 = .ok (.invokevirtual 94, 3) := by decide +kernel
theorem dL_law_359 : decode cL_law 359 = .ok (.istore 6, 2) := by decide +kernel
theorem dL_law_361 : decode cL_law 361 = .ok (.aload_n 2, 1) := by decide +kernel
theorem dL_law_362 : decode cL_law 362 = .ok (.invokevirtual 82, 3) := by decide +kernel
theorem dL_law_365 : decode cL_law 365 = .ok (.iload 5, 2) := by decide +kernel
theorem dL_law_367 : decode cL_law 367 = .ok (.if_icmp .eq 5, 3) := by decide +kernel
theorem dL_law_370 : decode cL_law 370 = .ok (.iconst 0, 1) := by decide +kernel
theorem dL_law_371 : decode cL_law 371 = .ok (.ireturn, 1) := by decide +kernel
theorem dL_law_372 : decode cL_law 372 = .ok (.iload 5, 2) := by decide +kernel
theorem dL_law_374 : decode cL_law 374 = .ok (.ifCond .ne 15, 3) := by decide +kernel
theorem dL_law_377 : decode cL_law 377 = .ok (.aload_n 3, 1) := by decide +kernel
theorem dL_law_378 : decode cL_law 378 = .ok (.iconst 0, 1) := by decide +kernel
theorem dL_law_379 : decode cL_law 379 = .ok (.laload, 1) := by decide +kernel
theorem dL_law_380 : decode cL_law 380 = .ok (.iload 6, 2) := by decide +kernel
theorem dL_law_382 : decode cL_law 382 = .ok (.i2l, 1) := by decide +kernel
theorem dL_law_383 : decode cL_law 383 = .ok (.lcmp, 1) := by decide +kernel
theorem dL_law_384 : decode cL_law 384 = .ok (.ifCond .eq 5, 3) := by decide +kernel
theorem dL_law_387 : decode cL_law 387 = .ok (.iconst 0, 1) := by decide +kernel
theorem dL_law_388 : decode cL_law 388 = .ok (.ireturn, 1) := by decide +kernel
theorem dL_law_389 : decode cL_law 389 = .ok (.goto 929, 3) := by decide +kernel
theorem dL_law_392 : decode cL_law 392 = .ok (.aload_n 1, 1) := by decide +kernel
theorem dL_law_393 : decode cL_law 393 = .ok (.aload_n 0, 1) := by decide +kernel
theorem dL_law_394 : decode cL_law 394 = .ok (.iload 4, 2) := by decide +kernel
theorem dL_law_396 : decode cL_law 396 = .ok (.iconst 1, 1) := by decide +kernel
theorem dL_law_397 : decode cL_law 397 = .ok (.iadd, 1) := by decide +kernel
theorem dL_law_398 : decode cL_law 398 = .ok (.iaload, 1) := by decide +kernel
theorem dL_law_399 : decode cL_law 399 = .ok (.aload_n 3, 1) := by decide +kernel
theorem dL_law_400 : decode cL_law 400 = .ok (.invokestatic 95, 3) := by decide +kernel
theorem dL_law_403 : decode cL_law 403 = .ok (.istore 5, 2) := by decide +kernel
theorem dL_law_405 : decode cL_law 405 = .ok (.aload_n 2, 1) := by decide +kernel
theorem dL_law_406 : decode cL_law 406 = .ok (.aload_n 0, 1) := by decide +kernel
theorem dL_law_407 : decode cL_law 407 = .ok (.iload 4, 2) := by decide +kernel
theorem dL_law_409 : decode cL_law 409 = .ok (.iconst 1, 1) := by decide +kernel
theorem dL_law_410 : decode cL_law 410 = .ok (.iadd, 1) := by decide +kernel
theorem dL_law_411 : decode cL_law 411 = .ok (.iaload, 1) := by decide +kernel
theorem dL_law_412 : decode cL_law 412 = .ok (.invokevirtual 97, 3) := by decide +kernel
theorem dL_law_415 : decode cL_law 415 = .ok (.istore 6, 2) := by decide +kernel
theorem dL_law_417 : decode cL_law 417 = .ok (.aload_n 2, 1) := by decide +kernel
theorem dL_law_418 : decode cL_law 418 = .ok (.invokevirtual 82, 3) := by decide +kernel
theorem dL_law_421 : decode cL_law 421 = .ok (.iload 5, 2) := by decide +kernel
theorem dL_law_423 : decode cL_law 423 = .ok (.if_icmp .eq 5, 3) := by decide +kernel
theorem dL_law_426 : decode cL_law 426 = .ok (.iconst 0, 1) := by decide +kernel
theorem dL_law_427 : decode cL_law 427 = .ok (.ireturn, 1) := by decide +kernel
theorem dL_law_428 : decode cL_law 428 = .ok (.iload 5, 2) := by decide +kernel
theorem dL_law_430 : decode cL_law 430 = .ok (.ifCond .ne 15, 3) := by decide +kernel
theorem dL_law_433 : decode cL_law 433 = .ok (.aload_n 3, 1) := by decide +kernel
theorem dL_law_434 : decode cL_law 434 = .ok (.iconst 0, 1) := by decide +kernel
theorem dL_law_435 : decode cL_law 435 = .ok (.laload, 1) := by decide +kernel
theorem dL_law_436 : decode cL_law 436 = .ok (.iload 6, 2) := by decide +kernel
theorem dL_law_438 : decode cL_law 438 = .ok (.i2l, 1) := by decide +kernel
theorem dL_law_439 : decode cL_law 439 = .ok (.lcmp, 1) := by decide +kernel
theorem dL_law_440 : decode cL_law 440 = .ok (.ifCond .eq 5, 3) := by decide +kernel
theorem dL_law_443 : decode cL_law 443 = .ok (.iconst 0, 1) := by decide +kernel
theorem dL_law_444 : decode cL_law 444 = .ok (.ireturn, 1) := by decide +kernel
theorem dL_law_445 : decode cL_law 445 = .ok (.goto 873, 3) := by decide +kernel
theorem dL_law_448 : decode cL_law 448 = .ok (.aload_n 1, 1) := by decide +kernel
theorem dL_law_449 : decode cL_law 449 = .ok (.aload_n 0, 1) := by decide +kernel
theorem dL_law_450 : decode cL_law 450 = .ok (.iload 4, 2) := by decide +kernel
theorem dL_law_452 : decode cL_law 452 = .ok (.iconst 1, 1) := by decide +kernel
theorem dL_law_453 : decode cL_law 453 = .ok (.iadd, 1) := by decide +kernel
theorem dL_law_454 : decode cL_law 454 = .ok (.iaload, 1) := by decide +kernel
theorem dL_law_455 : decode cL_law 455 = .ok (.aload_n 3, 1) := by decide +kernel
theorem dL_law_456 : decode cL_law 456 = .ok (.invokestatic 98, 3) := by decide +kernel
theorem dL_law_459 : decode cL_law 459 = .ok (.istore 5, 2) := by decide +kernel
theorem dL_law_461 : decode cL_law 461 = .ok (.aload_n 2, 1) := by decide +kernel
theorem dL_law_462 : decode cL_law 462 = .ok (.aload_n 0, 1) := by decide +kernel
theorem dL_law_463 : decode cL_law 463 = .ok (.iload 4, 2) := by decide +kernel
theorem dL_law_465 : decode cL_law 465 = .ok (.iconst 1, 1) := by decide +kernel
theorem dL_law_466 : decode cL_law 466 = .ok (.iadd, 1) := by decide +kernel
theorem dL_law_467 : decode cL_law 467 = .ok (.iaload, 1) := by decide +kernel
theorem dL_law_468 : decode cL_law 468 = .ok (.invokevirtual 100, 3) := by decide +kernel
theorem dL_law_471 : decode cL_law 471 = .ok (.istore 6, 2) := by decide +kernel
theorem dL_law_473 : decode cL_law 473 = .ok (.aload_n 2, 1) := by decide +kernel
theorem dL_law_474 : decode cL_law 474 = .ok (.invokevirtual 82, 3) := by decide +kernel
theorem dL_law_477 : decode cL_law 477 = .ok (.iload 5, 2) := by decide +kernel
theorem dL_law_479 : decode cL_law 479 = .ok (.if_icmp .eq 5, 3) := by decide +kernel
theorem dL_law_482 : decode cL_law 482 = .ok (.iconst 0, 1) := by decide +kernel
theorem dL_law_483 : decode cL_law 483 = .ok (.ireturn, 1) := by decide +kernel
theorem dL_law_484 : decode cL_law 484 = .ok (.iload 5, 2) := by decide +kernel
theorem dL_law_486 : decode cL_law 486 = .ok (.ifCond .ne 15, 3) := by decide +kernel
theorem dL_law_489 : decode cL_law 489 = .ok (.aload_n 3, 1) := by decide +kernel
theorem dL_law_490 : decode cL_law 490 = .ok (.iconst 0, 1) := by decide +kernel
theorem dL_law_491 : decode cL_law 491 = .ok (.laload, 1) := by decide +kernel
theorem dL_law_492 : decode cL_law 492 = .ok (.iload 6, 2) := by decide +kernel
theorem dL_law_494 : decode cL_law 494 = .ok (.i2l, 1) := by decide +kernel
theorem dL_law_495 : decode cL_law 495 = .ok (.lcmp, 1) := by decide +kernel
theorem dL_law_496 : decode cL_law 496 = .ok (.ifCond .eq 5, 3) := by decide +kernel
theorem dL_law_499 : decode cL_law 499 = .ok (.iconst 0, 1) := by decide +kernel
theorem dL_law_500 : decode cL_law 500 = .ok (.ireturn, 1) := by decide +kernel
theorem dL_law_501 : decode cL_law 501 = .ok (.goto 817, 3) := by decide +kernel
theorem dL_law_504 : decode cL_law 504 = .ok (.aload_n 1, 1) := by decide +kernel
theorem dL_law_505 : decode cL_law 505 = .ok (.aload_n 0, 1) := by decide +kernel
theorem dL_law_506 : decode cL_law 506 = .ok (.iload 4, 2) := by decide +kernel
theorem dL_law_508 : decode cL_law 508 = .ok (.iconst 1, 1) := by decide +kernel
theorem dL_law_509 : decode cL_law 509 = .ok (.iadd, 1) := by decide +kernel
theorem dL_law_510 : decode cL_law 510 = .ok (.iaload, 1) := by decide +kernel
theorem dL_law_511 : decode cL_law 511 = .ok (.aload_n 3, 1) := by decide +kernel
theorem dL_law_512 : decode cL_law 512 = .ok (.invokestatic 101, 3) := by decide +kernel
theorem dL_law_515 : decode cL_law 515 = .ok (.istore 5, 2) := by decide +kernel
theorem dL_law_517 : decode cL_law 517 = .ok (.aload_n 2, 1) := by decide +kernel
theorem dL_law_518 : decode cL_law 518 = .ok (.aload_n 0, 1) := by decide +kernel
theorem dL_law_519 : decode cL_law 519 = .ok (.iload 4, 2) := by decide +kernel
theorem dL_law_521 : decode cL_law 521 = .ok (.iconst 1, 1) := by decide +kernel
theorem dL_law_522 : decode cL_law 522 = .ok (.iadd, 1) := by decide +kernel
theorem dL_law_523 : decode cL_law 523 = .ok (.iaload, 1) := by decide +kernel
theorem dL_law_524 : decode cL_law 524 = .ok (.invokevirtual 103, 3) := by decide +kernel
theorem dL_law_527 : decode cL_law 527 = .ok (.istore 6, 2) := by decide +kernel
theorem dL_law_529 : decode cL_law 529 = .ok (.aload_n 2, 1) := by decide +kernel
theorem dL_law_530 : decode cL_law 530 = .ok (.invokevirtual 82, 3) := by decide +kernel
theorem dL_law_533 : decode cL_law 533 = .ok (.iload 5, 2) := by decide +kernel
theorem dL_law_535 : decode cL_law 535 = .ok (.if_icmp .eq 5, 3) := by decide +kernel
theorem dL_law_538 : decode cL_law 538 = .ok (.iconst 0, 1) := by decide +kernel
theorem dL_law_539 : decode cL_law 539 = .ok (.ireturn, 1) := by decide +kernel
theorem dL_law_540 : decode cL_law 540 = .ok (.iload 5, 2) := by decide +kernel
theorem dL_law_542 : decode cL_law 542 = .ok (.ifCond .ne 15, 3) := by decide +kernel
theorem dL_law_545 : decode cL_law 545 = .ok (.aload_n 3, 1) := by decide +kernel
theorem dL_law_546 : decode cL_law 546 = .ok (.iconst 0, 1) := by decide +kernel
theorem dL_law_547 : decode cL_law 547 = .ok (.laload, 1) := by decide +kernel
theorem dL_law_548 : decode cL_law 548 = .ok (.iload 6, 2) := by decide +kernel
theorem dL_law_550 : decode cL_law 550 = .ok (.i2l, 1) := by decide +kernel
theorem dL_law_551 : decode cL_law 551 = .ok (.lcmp, 1) := by decide +kernel
theorem dL_law_552 : decode cL_law 552 = .ok (.ifCond .eq 5, 3) := by decide +kernel
theorem dL_law_555 : decode cL_law 555 = .ok (.iconst 0, 1) := by decide +kernel
theorem dL_law_556 : decode cL_law 556 = .ok (.ireturn, 1) := by decide +kernel
theorem dL_law_557 : decode cL_law 557 = .ok (.goto 761, 3) := by decide +kernel
theorem dL_law_560 : decode cL_law 560 = .ok (.aload_n 1, 1) := by decide +kernel
theorem dL_law_561 : decode cL_law 561 = .ok (.invokevirtual 104, 3) := by decide +kernel
theorem dL_law_564 : decode cL_law 564 = .ok (.aload_n 2, 1) := by decide +kernel
theorem dL_law_565 : decode cL_law 565 = .ok (.invokevirtual 107, 3) := by decide +kernel
theorem dL_law_568 : decode cL_law 568 = .ok (.if_icmp .eq 750, 3) := by decide +kernel
theorem dL_law_571 : decode cL_law 571 = .ok (.iconst 0, 1) := by decide +kernel
theorem dL_law_572 : decode cL_law 572 = .ok (.ireturn, 1) := by decide +kernel
theorem dL_law_573 : decode cL_law 573 = .ok (.aload_n 1, 1) := by decide +kernel
theorem dL_law_574 : decode cL_law 574 = .ok (.invokevirtual 108, 3) := by decide +kernel
theorem dL_law_577 : decode cL_law 577 = .ok (.aload_n 2, 1) := by decide +kernel
theorem dL_law_578 : decode cL_law 578 = .ok (.invokevirtual 111, 3) := by decide +kernel
theorem dL_law_581 : decode cL_law 581 = .ok (.if_icmp .eq 737, 3) := by decide +kernel
theorem dL_law_584 : decode cL_law 584 = .ok (.iconst 0, 1) := by decide +kernel
theorem dL_law_585 : decode cL_law 585 = .ok (.ireturn, 1) := by decide +kernel
theorem dL_law_586 : decode cL_law 586 = .ok (.aload_n 1, 1) := by decide +kernel
theorem dL_law_587 : decode cL_law 587 = .ok (.aload_n 3, 1) := by decide +kernel
theorem dL_law_588 : decode cL_law 588 = .ok (.invokestatic 112, 3) := by decide +kernel
theorem dL_law_591 : decode cL_law 591 = .ok (.istore 5, 2) := by decide +kernel
theorem dL_law_593 : decode cL_law 593 = .ok (.aload_n 2, 1) := by decide +kernel
theorem dL_law_594 : decode cL_law 594 = .ok (.invokevirtual 115, 3) := by decide +kernel
theorem dL_law_597 : decode cL_law 597 = .ok (.istore 6, 2) := by decide +kernel
theorem dL_law_599 : decode cL_law 599 = .ok (.aload_n 2, 1) := by decide +kernel
theorem dL_law_600 : decode cL_law 600 = .ok (.invokevirtual 82, 3) := by decide +kernel
theorem dL_law_603 : decode cL_law 603 = .ok (.iload 5, 2) := by decide +kernel
theorem dL_law_605 : decode cL_law 605 = .ok (.if_icmp .eq 5, 3) := by decide +kernel
theorem dL_law_608 : decode cL_law 608 = .ok (.iconst 0, 1) := by decide +kernel
theorem dL_law_609 : decode cL_law 609 = .ok (.ireturn, 1) := by decide +kernel
theorem dL_law_610 : decode cL_law 610 = .ok (.iload 5, 2) := by decide +kernel
theorem dL_law_612 : decode cL_law 612 = .ok (.ifCond .ne 15, 3) := by decide +kernel
theorem dL_law_615 : decode cL_law 615 = .ok (.aload_n 3, 1) := by decide +kernel
theorem dL_law_616 : decode cL_law 616 = .ok (.iconst 0, 1) := by decide +kernel
theorem dL_law_617 : decode cL_law 617 = .ok (.laload, 1) := by decide +kernel
theorem dL_law_618 : decode cL_law 618 = .ok (.iload 6, 2) := by decide +kernel
theorem dL_law_620 : decode cL_law 620 = .ok (.i2l, 1) := by decide +kernel
theorem dL_law_621 : decode cL_law 621 = .ok (.lcmp, 1) := by decide +kernel
theorem dL_law_622 : decode cL_law 622 = .ok (.ifCond .eq 5, 3) := by decide +kernel
theorem dL_law_625 : decode cL_law 625 = .ok (.iconst 0, 1) := by decide +kernel
theorem dL_law_626 : decode cL_law 626 = .ok (.ireturn, 1) := by decide +kernel
theorem dL_law_627 : decode cL_law 627 = .ok (.goto 691, 3) := by decide +kernel
theorem dL_law_630 : decode cL_law 630 = .ok (.aload_n 1, 1) := by decide +kernel
theorem dL_law_631 : decode cL_law 631 = .ok (.aload_n 0, 1) := by decide +kernel
theorem dL_law_632 : decode cL_law 632 = .ok (.iload 4, 2) := by decide +kernel
theorem dL_law_634 : decode cL_law 634 = .ok (.iconst 1, 1) := by decide +kernel
theorem dL_law_635 : decode cL_law 635 = .ok (.iadd, 1) := by decide +kernel
theorem dL_law_636 : decode cL_law 636 = .ok (.iaload, 1) := by decide +kernel
theorem dL_law_637 : decode cL_law 637 = .ok (.aload_n 3, 1) := by decide +kernel
theorem dL_law_638 : decode cL_law 638 = .ok (.invokestatic 116, 3) := by decide +kernel
theorem dL_law_641 : decode cL_law 641 = .ok (.istore 5, 2) := by decide +kernel
theorem dL_law_643 : decode cL_law 643 = .ok (.aload_n 2, 1) := by decide +kernel
theorem dL_law_644 : decode cL_law 644 = .ok (.aload_n 0, 1) := by decide +kernel
theorem dL_law_645 : decode cL_law 645 = .ok (.iload 4, 2) := by decide +kernel
theorem dL_law_647 : decode cL_law 647 = .ok (.iconst 1, 1) := by decide +kernel
theorem dL_law_648 : decode cL_law 648 = .ok (.iadd, 1) := by decide +kernel
theorem dL_law_649 : decode cL_law 649 = .ok (.iaload, 1) := by decide +kernel
theorem dL_law_650 : decode cL_law 650 = .ok (.invokevirtual 118, 3) := by decide +kernel
theorem dL_law_653 : decode cL_law 653 = .ok (.istore 6, 2) := by decide +kernel
theorem dL_law_655 : decode cL_law 655 = .ok (.aload_n 2, 1) := by decide +kernel
theorem dL_law_656 : decode cL_law 656 = .ok (.invokevirtual 82, 3) := by decide +kernel
theorem dL_law_659 : decode cL_law 659 = .ok (.iload 5, 2) := by decide +kernel
theorem dL_law_661 : decode cL_law 661 = .ok (.if_icmp .eq 5, 3) := by decide +kernel
theorem dL_law_664 : decode cL_law 664 = .ok (.iconst 0, 1) := by decide +kernel
theorem dL_law_665 : decode cL_law 665 = .ok (.ireturn, 1) := by decide +kernel
theorem dL_law_666 : decode cL_law 666 = .ok (.iload 5, 2) := by decide +kernel
theorem dL_law_668 : decode cL_law 668 = .ok (.ifCond .ne 15, 3) := by decide +kernel
theorem dL_law_671 : decode cL_law 671 = .ok (.aload_n 3, 1) := by decide +kernel
theorem dL_law_672 : decode cL_law 672 = .ok (.iconst 0, 1) := by decide +kernel
theorem dL_law_673 : decode cL_law 673 = .ok (.laload, 1) := by decide +kernel
theorem dL_law_674 : decode cL_law 674 = .ok (.iload 6, 2) := by decide +kernel
theorem dL_law_676 : decode cL_law 676 = .ok (.i2l, 1) := by decide +kernel
theorem dL_law_677 : decode cL_law 677 = .ok (.lcmp, 1) := by decide +kernel
theorem dL_law_678 : decode cL_law 678 = .ok (.ifCond .eq 5, 3) := by decide +kernel
theorem dL_law_681 : decode cL_law 681 = .ok (.iconst 0, 1) := by decide +kernel
theorem dL_law_682 : decode cL_law 682 = .ok (.ireturn, 1) := by decide +kernel
theorem dL_law_683 : decode cL_law 683 = .ok (.goto 635, 3) := by decide +kernel
theorem dL_law_686 : decode cL_law 686 = .ok (.aload_n 1, 1) := by decide +kernel
theorem dL_law_687 : decode cL_law 687 = .ok (.aload_n 0, 1) := by decide +kernel
theorem dL_law_688 : decode cL_law 688 = .ok (.iload 4, 2) := by decide +kernel
theorem dL_law_690 : decode cL_law 690 = .ok (.iconst 1, 1) := by decide +kernel
theorem dL_law_691 : decode cL_law 691 = .ok (.iadd, 1) := by decide +kernel
theorem dL_law_692 : decode cL_law 692 = .ok (.iaload, 1) := by decide +kernel
theorem dL_law_693 : decode cL_law 693 = .ok (.aload_n 3, 1) := by decide +kernel
theorem dL_law_694 : decode cL_law 694 = .ok (.invokestatic 119, 3) := by decide +kernel
theorem dL_law_697 : decode cL_law 697 = .ok (.istore 5, 2) := by decide +kernel
theorem dL_law_699 : decode cL_law 699 = .ok (.aload_n 2, 1) := by decide +kernel
theorem dL_law_700 : decode cL_law 700 = .ok (.aload_n 0, 1) := by decide +kernel
theorem dL_law_701 : decode cL_law 701 = .ok (.iload 4, 2) := by decide +kernel
theorem dL_law_703 : decode cL_law 703 = .ok (.iconst 1, 1) := by decide +kernel
theorem dL_law_704 : decode cL_law 704 = .ok (.iadd, 1) := by decide +kernel
theorem dL_law_705 : decode cL_law 705 = .ok (.iaload, 1) := by decide +kernel
theorem dL_law_706 : decode cL_law 706 = .ok (.invokevirtual 121, 3) := by decide +kernel
theorem dL_law_709 : decode cL_law 709 = .ok (.istore 6, 2) := by decide +kernel
theorem dL_law_711 : decode cL_law 711 = .ok (.aload_n 2, 1) := by decide +kernel
theorem dL_law_712 : decode cL_law 712 = .ok (.invokevirtual 82, 3) := by decide +kernel
theorem dL_law_715 : decode cL_law 715 = .ok (.iload 5, 2) := by decide +kernel
theorem dL_law_717 : decode cL_law 717 = .ok (.if_icmp .eq 5, 3) := by decide +kernel
theorem dL_law_720 : decode cL_law 720 = .ok (.iconst 0, 1) := by decide +kernel
theorem dL_law_721 : decode cL_law 721 = .ok (.ireturn, 1) := by decide +kernel
theorem dL_law_722 : decode cL_law 722 = .ok (.iload 5, 2) := by decide +kernel
theorem dL_law_724 : decode cL_law 724 = .ok (.ifCond .ne 15, 3) := by decide +kernel
theorem dL_law_727 : decode cL_law 727 = .ok (.aload_n 3, 1) := by decide +kernel
theorem dL_law_728 : decode cL_law 728 = .ok (.iconst 0, 1) := by decide +kernel
theorem dL_law_729 : decode cL_law 729 = .ok (.laload, 1) := by decide +kernel
theorem dL_law_730 : decode cL_law 730 = .ok (.iload 6, 2) := by decide +kernel
theorem dL_law_732 : decode cL_law 732 = .ok (.i2l, 1) := by decide +kernel
theorem dL_law_733 : decode cL_law 733 = .ok (.lcmp, 1) := by decide +kernel
theorem dL_law_734 : decode cL_law 734 = .ok (.ifCond .eq 5, 3) := by decide +kernel
theorem dL_law_737 : decode cL_law 737 = .ok (.iconst 0, 1) := by decide +kernel
theorem dL_law_738 : decode cL_law 738 = .ok (.ireturn, 1) := by decide +kernel
theorem dL_law_739 : decode cL_law 739 = .ok (.goto 579, 3) := by decide +kernel
theorem dL_law_742 : decode cL_law 742 = .ok (.aload_n 1, 1) := by decide +kernel
theorem dL_law_743 : decode cL_law 743 = .ok (.aload_n 3, 1) := by decide +kernel
theorem dL_law_744 : decode cL_law 744 = .ok (.invokestatic 122, 3) := by decide +kernel
theorem dL_law_747 : decode cL_law 747 = .ok (.istore 5, 2) := by decide +kernel
theorem dL_law_749 : decode cL_law 749 = .ok (.aload_n 2, 1) := by decide +kernel
theorem dL_law_750 : decode cL_law 750 = .ok (.invokevirtual 124, 3) := by decide +kernel
theorem dL_law_753 : decode cL_law 753 = .ok (.istore 6, 2) := by decide +kernel
theorem dL_law_755 : decode cL_law 755 = .ok (.aload_n 2, 1) := by decide +kernel
theorem dL_law_756 : decode cL_law 756 = .ok (.invokevirtual 82, 3) := by decide +kernel
theorem dL_law_759 : decode cL_law 759 = .ok (.iload 5, 2) := by decide +kernel
theorem dL_law_761 : decode cL_law 761 = .ok (.if_icmp .eq 5, 3) := by decide +kernel
