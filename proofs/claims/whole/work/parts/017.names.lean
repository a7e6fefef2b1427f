set_option maxRecDepth 20000 in
theorem gX7_byParents_X7_isRow : GoodIn wsX7_byParents (va_wsS RX7 59 yX7_isRow wsX7_isRow) := goodIn_app (goodIn_of _ (by decide +kernel)) ggX7_byParents_X7_isRow
set_option maxRecDepth 20000 in
theorem ggX7_byParents_X4_push : GoodIn wsX7_byParents wsX4_push := goodIn_r _ [14, 15, 16, 17, 18, 19, 20, 21, 22, 23, 24, 25, 26, 27, 28, 29, 30, 31, 32, 33, 34, 35, 36, 97, 98, 99, 100, 101, 102, 103, 104, 105, 106, 107, 108, 109] (by decide +kernel) (by decide +kernel)
set_option maxRecDepth 20000 in
theorem gX7_byParents_X4_push : GoodIn wsX7_byParents (wsV RX7 70 RX4 yX4_push wsX4_push) := goodIn_app (goodIn_of _ (by decide +kernel)) ggX7_byParents_X4_push
set_option maxRecDepth 20000 in
theorem ggX7_byParents_X1_lay : GoodIn wsX7_byParents wsX1_lay := goodIn_r _ [41, 42, 43, 44, 45, 46, 47, 48, 49, 50, 21, 51, 33, 52, 53, 54, 55, 32, 56, 57, 58, 59, 60, 61, 62, 63, 64, 29, 65, 66, 67, 68, 34, 69, 70, 71, 72, 30, 31, 73, 74, 75, 76, 35, 77, 78, 79, 80, 28, 81, 82, 83, 40, 84, 85, 86, 87, 88, 110, 111, 100, 101, 102, 103, 104, 105, 106, 107, 108, 109] (by decide +kernel) (by decide +kernel)
set_option maxRecDepth 20000 in
theorem gX7_byParents_X1_lay : GoodIn wsX7_byParents (wsV RX7 113 RX1 yX1_lay wsX1_lay) := goodIn_app (goodIn_of _ (by decide +kernel)) ggX7_byParents_X1_lay
theorem dX7_byParents_0 : decode cX7_byParents 0 = .ok (.iload_n 1, 1) := by decide +kernel
theorem dX7_byParents_1 : decode cX7_byParents 1 = .ok (.invokestatic 59, 3) := by decide +kernel
theorem dX7_byParents_4 : decode cX7_byParents 4 = .ok (.ifCond .ne 13, 3) := by decide +kernel
theorem dX7_byParents_7 : decode cX7_byParents 7 = .ok (.new 63, 3) := by decide +kernel
theorem dX7_byParents_10 : decode cX7_byParents 10 = .ok (.dup, 1) := by decide +kernel
theorem dX7_byParents_11 : decode cX7_byParents 11 = .ok (.ldc 65, 2) := by decide +kernel
theorem dX7_byParents_13 : decode cX7_byParents 13 = .ok (.invokespecial 67, 3) := by decide +kernel
theorem dX7_byParents_16 : decode cX7_byParents 16 = .ok (.athrow, 1) := by decide +kernel
theorem dX7_byParents_17 : decode cX7_byParents 17 = .ok (.aload_n 0, 1) := by decide +kernel
theorem dX7_byParents_18 : decode cX7_byParents 18 = .ok (.getfield 27, 3) := by decide +kernel
theorem dX7_byParents_21 : decode cX7_byParents 21 = .ok (.aload_n 0, 1) := by decide +kernel
theorem dX7_byParents_22 : decode cX7_byParents 22 = .ok (.getfield 10, 3) := by decide +kernel
theorem dX7_byParents_25 : decode cX7_byParents 25 = .ok (.invokevirtual 70, 3) := by decide +kernel
theorem dX7_byParents_28 : decode cX7_byParents 28 = .ok (.aload_n 0, 1) := by decide +kernel
theorem dX7_byParents_29 : decode cX7_byParents 29 = .ok (.getfield 48, 3) := by decide +kernel
theorem dX7_byParents_32 : decode cX7_byParents 32 = .ok (.aload_n 0, 1) := by decide +kernel
theorem dX7_byParents_33 : decode cX7_byParents 33 = .ok (.getfield 10, 3) := by decide +kernel
theorem dX7_byParents_36 : decode cX7_byParents 36 = .ok (.iload_n 1, 1) := by decide +kernel
theorem dX7_byParents_37 : decode cX7_byParents 37 = .ok (.invokevirtual 113, 3) := by decide +kernel
theorem dX7_byParents_40 : decode cX7_byParents 40 = .ok (.ireturn, 1) := by decide +kernel
set_option maxRecDepth 20000 in
theorem ggX7_untangle_X7_isRow : GoodIn wsX7_untangle wsX7_isRow := goodIn_r _ [9] (by decide +kernel) (by decide +kernel)
set_option maxRecDepth 20000 in
theorem gX7_untangle_X7_isRow : GoodIn wsX7_untangle (va_wsS RX7 59 yX7_isRow wsX7_isRow) := goodIn_app (goodIn_of _ (by decide +kernel)) ggX7_untangle_X7_isRow
set_option maxRecDepth 20000 in
theorem ggX7_untangle_X4_push : GoodIn wsX7_untangle wsX4_push := goodIn_r _ [14, 15, 16, 17, 18, 19, 20, 21, 22, 23, 24, 25, 26, 27, 28, 29, 30, 31, 32, 33, 34, 35, 36, 169, 170, 171, 172, 173, 174, 175, 176, 177, 178, 179, 180, 181] (by decide +kernel) (by decide +kernel)
set_option maxRecDepth 20000 in
theorem gX7_untangle_X4_push : GoodIn wsX7_untangle (wsV RX7 70 RX4 yX4_push wsX4_push) := goodIn_app (goodIn_of _ (by decide +kernel)) ggX7_untangle_X4_push
set_option maxRecDepth 20000 in
theorem ggX7_untangle_X3_prepare : GoodIn wsX7_untangle wsX3_prepare := goodIn_r _ [41, 42, 43, 44, 40, 45, 46, 47, 48, 49, 50, 21, 51, 34, 52, 53, 54, 55, 23, 56, 57, 58, 59, 60, 61, 62, 63, 64, 65, 66, 67, 68, 69, 70, 71, 72, 29, 73, 74, 75, 76, 30, 31, 77, 78, 79, 80, 35, 81, 82, 83, 84, 28, 85, 86, 87, 88, 89, 90, 91, 92, 93, 94, 33, 95, 96, 97, 98, 32, 99, 100, 101, 102, 103, 104, 105, 106, 107, 108, 109, 110, 111, 112, 113, 114, 115, 116, 117, 118, 119, 120, 182, 183, 184, 185, 186, 187, 188, 189, 190, 191, 192, 193, 194, 172, 173, 174, 175, 176, 177, 178, 179, 180, 181] (by decide +kernel) (by decide +kernel)
set_option maxRecDepth 20000 in
theorem gX7_untangle_X3_prepare : GoodIn wsX7_untangle (wsV RX7 117 RX3 yX3_prepare wsX3_prepare) := goodIn_app (goodIn_of _ (by decide +kernel)) ggX7_untangle_X3_prepare
set_option maxRecDepth 20000 in
theorem ggX7_untangle_X3_leastByAllOrders : GoodIn wsX7_untangle wsX3_leastByAllOrders := goodIn_r _ [124, 125, 46, 47, 126, 127, 25, 26, 27, 128, 129, 130, 40, 131, 64, 132, 133, 134, 135, 136, 137, 138, 139, 140, 141, 142, 143, 89, 106, 107, 144, 120, 145, 146, 147, 148, 149, 150, 151, 152, 182, 183, 184, 185, 186, 187, 188, 189, 190, 191, 192, 193, 194] (by decide +kernel) (by decide +kernel)
set_option maxRecDepth 20000 in
theorem gX7_untangle_X3_leastByAllOrders : GoodIn wsX7_untangle (wsV RX7 121 RX3 yX3_leastByAllOrders wsX3_leastByAllOrders) := goodIn_app (goodIn_of _ (by decide +kernel)) ggX7_untangle_X3_leastByAllOrders
set_option maxRecDepth 20000 in
theorem ggX7_untangle_X3_layBest : GoodIn wsX7_untangle wsX3_layBest := goodIn_r _ [156, 46, 126, 157, 158, 159, 21, 160, 32, 28, 56, 57, 58, 59, 34, 99, 92, 93, 94, 33, 182, 183, 184, 185, 186, 187, 188, 189, 190, 191, 192, 193, 194, 172, 173, 174, 175, 176, 177, 178, 179, 180, 181] (by decide +kernel) (by decide +kernel)
set_option maxRecDepth 20000 in
theorem gX7_untangle_X3_layBest : GoodIn wsX7_untangle (wsV RX7 124 RX3 yX3_layBest wsX3_layBest) := goodIn_app (goodIn_of _ (by decide +kernel)) ggX7_untangle_X3_layBest
theorem dX7_untangle_0 : decode cX7_untangle 0 = .ok (.iload_n 1, 1) := by decide +kernel
theorem dX7_untangle_1 : decode cX7_untangle 1 = .ok (.invokestatic 59, 3) := by decide +kernel
theorem dX7_untangle_4 : decode cX7_untangle 4 = .ok (.ifCond .ne 13, 3) := by decide +kernel
theorem dX7_untangle_7 : decode cX7_untangle 7 = .ok (.new 63, 3) := by decide +kernel
theorem dX7_untangle_10 : decode cX7_untangle 10 = .ok (.dup, 1) := by decide +kernel
theorem dX7_untangle_11 : decode cX7_untangle 11 = .ok (.ldc 65, 2) := by decide +kernel
theorem dX7_untangle_13 : decode cX7_untangle 13 = .ok (.invokespecial 67, 3) := by decide +kernel
theorem dX7_untangle_16 : decode cX7_untangle 16 = .ok (.athrow, 1) := by decide +kernel
theorem dX7_untangle_17 : decode cX7_untangle 17 = .ok (.aload_n 0, 1) := by decide +kernel
theorem dX7_untangle_18 : decode cX7_untangle 18 = .ok (.getfield 27, 3) := by decide +kernel
theorem dX7_untangle_21 : decode cX7_untangle 21 = .ok (.aload_n 0, 1) := by decide +kernel
theorem dX7_untangle_22 : decode cX7_untangle 22 = .ok (.getfield 10, 3) := by decide +kernel
theorem dX7_untangle_25 : decode cX7_untangle 25 = .ok (.invokevirtual 70, 3) := by decide +kernel
theorem dX7_untangle_28 : decode cX7_untangle 28 = .ok (.aload_n 0, 1) := by decide +kernel
theorem dX7_untangle_29 : decode cX7_untangle 29 = .ok (.getfield 55, 3) := by decide +kernel
theorem dX7_untangle_32 : decode cX7_untangle 32 = .ok (.aload_n 0, 1) := by decide +kernel
theorem dX7_untangle_33 : decode cX7_untangle 33 = .ok (.getfield 10, 3) := by decide +kernel
theorem dX7_untangle_36 : decode cX7_untangle 36 = .ok (.iload_n 1, 1) := by decide +kernel
theorem dX7_untangle_37 : decode cX7_untangle 37 = .ok (.invokevirtual 117, 3) := by decide +kernel
theorem dX7_untangle_40 : decode cX7_untangle 40 = .ok (.aload_n 0, 1) := by decide +kernel
theorem dX7_untangle_41 : decode cX7_untangle 41 = .ok (.getfield 55, 3) := by decide +kernel
theorem dX7_untangle_44 : decode cX7_untangle 44 = .ok (.invokevirtual 121, 3) := by decide +kernel
theorem dX7_untangle_47 : decode cX7_untangle 47 = .ok (.istore_n 2, 1) := by decide +kernel
theorem dX7_untangle_48 : decode cX7_untangle 48 = .ok (.aload_n 0, 1) := by decide +kernel
theorem dX7_untangle_49 : decode cX7_untangle 49 = .ok (.getfield 55, 3) := by decide +kernel
theorem dX7_untangle_52 : decode cX7_untangle 52 = .ok (.aload_n 0, 1) := by decide +kernel
theorem dX7_untangle_53 : decode cX7_untangle 53 = .ok (.getfield 10, 3) := by decide +kernel
theorem dX7_untangle_56 : decode cX7_untangle 56 = .ok (.iload_n 1, 1) := by decide +kernel
theorem dX7_untangle_57 : decode cX7_untangle 57 = .ok (.invokevirtual 124, 3) := by decide +kernel
theorem dX7_untangle_60 : decode cX7_untangle 60 = .ok (.iload_n 2, 1) := by decide +kernel
theorem dX7_untangle_61 : decode cX7_untangle 61 = .ok (.ireturn, 1) := by decide +kernel
set_option maxRecDepth 20000 in
theorem ggX7_append_X6_isFull : GoodIn wsX7_append wsX6_isFull := goodIn_r _ [10, 11, 25, 26, 27, 28, 29, 30] (by decide +kernel) (by decide +kernel)
set_option maxRecDepth 20000 in
theorem gX7_append_X6_isFull : GoodIn wsX7_append (wsV RX7 129 RX6 yX6_isFull wsX6_isFull) := goodIn_app (goodIn_of _ (by decide +kernel)) ggX7_append_X6_isFull
set_option maxRecDepth 20000 in
theorem ggX7_append_X6_add : GoodIn wsX7_append wsX6_add := goodIn_r _ [15, 11, 16, 25, 26, 27, 28, 29, 30] (by decide +kernel) (by decide +kernel)
set_option maxRecDepth 20000 in
theorem gX7_append_X6_add : GoodIn wsX7_append (wsV RX7 138 RX6 yX6_add wsX6_add) := goodIn_app (goodIn_of _ (by decide +kernel)) ggX7_append_X6_add
theorem dX7_append_0 : decode cX7_append 0 = .ok (.iload_n 1, 1) := by decide +kernel
theorem dX7_append_1 : decode cX7_append 1 = .ok (.bipush 33, 2) := by decide +kernel
theorem dX7_append_3 : decode cX7_append 3 = .ok (.if_icmp .lt 9, 3) := by decide +kernel
theorem dX7_append_6 : decode cX7_append 6 = .ok (.iload_n 1, 1) := by decide +kernel
theorem dX7_append_7 : decode cX7_append 7 = .ok (.bipush 126, 2) := by decide +kernel
theorem dX7_append_9 : decode cX7_append 9 = .ok (.if_icmp .le 13, 3) := by decide +kernel
theorem dX7_append_12 : decode cX7_append 12 = .ok (.new 83, 3) := by decide +kernel
theorem dX7_append_15 : decode cX7_append 15 = .ok (.dup, 1) := by decide +kernel
theorem dX7_append_16 : decode cX7_append 16 = .ok (.ldc 127, 2) := by decide +kernel
theorem dX7_append_18 : decode cX7_append 18 = .ok (.invokespecial 87, 3) := by decide +kernel
theorem dX7_append_21 : decode cX7_append 21 = .ok (.athrow, 1) := by decide +kernel
theorem dX7_append_22 : decode cX7_append 22 = .ok (.aload_n 0, 1) := by decide +kernel
theorem dX7_append_23 : decode cX7_append 23 = .ok (.getfield 34, 3) := by decide +kernel
theorem dX7_append_26 : decode cX7_append 26 = .ok (.invokevirtual 129, 3) := by decide +kernel
theorem dX7_append_29 : decode cX7_append 29 = .ok (.ifCond .eq 13, 3) := by decide +kernel
theorem dX7_append_32 : decode cX7_append 32 = .ok (.new 133, 3) := by decide +kernel
theorem dX7_append_35 : decode cX7_append 35 = .ok (.dup, 1) := by decide +kernel
theorem dX7_append_36 : decode cX7_append 36 = .ok (.ldc 135, 2) := by decide +kernel
theorem dX7_append_38 : decode cX7_append 38 = .ok (.invokespecial 137, 3) := by decide +kernel
theorem dX7_append_41 : decode cX7_append 41 = .ok (.athrow, 1) := by decide +kernel
theorem dX7_append_42 : decode cX7_append 42 = .ok (.aload_n 0, 1) := by decide +kernel
theorem dX7_append_43 : decode cX7_append 43 = .ok (.getfield 34, 3) := by decide +kernel
theorem dX7_append_46 : decode cX7_append 46 = .ok (.iload_n 1, 1) := by decide +kernel
theorem dX7_append_47 : decode cX7_append 47 = .ok (.invokevirtual 138, 3) := by decide +kernel
theorem dX7_append_50 : decode cX7_append 50 = .ok (.ireturn, 1) := by decide +kernel
set_option maxRecDepth 20000 in
theorem ggX7_clearBuffer_X6_empty : GoodIn wsX7_clearBuffer wsX6_empty := goodIn_r _ [6, 7, 16, 17, 18, 19, 20, 21] (by decide +kernel) (by decide +kernel)
set_option maxRecDepth 20000 in
theorem gX7_clearBuffer_X6_empty : GoodIn wsX7_clearBuffer (wsV RX7 141 RX6 yX6_empty wsX6_empty) := goodIn_app (goodIn_of _ (by decide +kernel)) ggX7_clearBuffer_X6_empty
theorem dX7_clearBuffer_0 : decode cX7_clearBuffer 0 = .ok (.aload_n 0, 1) := by decide +kernel
theorem dX7_clearBuffer_1 : decode cX7_clearBuffer 1 = .ok (.getfield 34, 3) := by decide +kernel
theorem dX7_clearBuffer_4 : decode cX7_clearBuffer 4 = .ok (.invokevirtual 141, 3) := by decide +kernel
theorem dX7_clearBuffer_7 : decode cX7_clearBuffer 7 = .ok (.ireturn, 1) := by decide +kernel
set_option maxRecDepth 20000 in
theorem ggX7_firstError_X6_firstBad : GoodIn wsX7_firstError wsX6_firstBad := goodIn_r _ [6, 7, 8, 9, 10, 5, 11, 12, 13, 14, 15, 16, 17, 18, 19, 20, 29, 30, 31, 32, 33, 34] (by decide +kernel) (by decide +kernel)
set_option maxRecDepth 20000 in
theorem gX7_firstError_X6_firstBad : GoodIn wsX7_firstError (wsV RX7 144 RX6 yX6_firstBad wsX6_firstBad) := goodIn_app (goodIn_of _ (by decide +kernel)) ggX7_firstError_X6_firstBad
theorem dX7_firstError_0 : decode cX7_firstError 0 = .ok (.aload_n 0, 1) := by decide +kernel
theorem dX7_firstError_1 : decode cX7_firstError 1 = .ok (.getfield 34, 3) := by decide +kernel
theorem dX7_firstError_4 : decode cX7_firstError 4 = .ok (.invokevirtual 144, 3) := by decide +kernel
theorem dX7_firstError_7 : decode cX7_firstError 7 = .ok (.ireturn, 1) := by decide +kernel
set_option maxRecDepth 20000 in
theorem ggX7_run_X6_isWhole : GoodIn wsX7_run wsX6_isWhole := goodIn_r _ [10, 11, 12, 13, 14, 9, 15, 16, 17, 18, 19, 20, 21, 22, 23, 24, 166, 167, 168, 169, 170, 171] (by decide +kernel) (by decide +kernel)
set_option maxRecDepth 20000 in
theorem gX7_run_X6_isWhole : GoodIn wsX7_run (wsV RX7 147 RX6 yX6_isWhole wsX6_isWhole) := goodIn_app (goodIn_of _ (by decide +kernel)) ggX7_run_X6_isWhole
set_option maxRecDepth 20000 in
theorem ggX7_run_X4_push : GoodIn wsX7_run wsX4_push := goodIn_r _ [29, 30, 31, 32, 33, 34, 35, 36, 37, 38, 39, 40, 41, 42, 43, 44, 45, 46, 47, 48, 49, 50, 51, 172, 173, 174, 175, 176, 177, 178, 179, 180, 181, 182, 183, 184] (by decide +kernel) (by decide +kernel)
set_option maxRecDepth 20000 in
theorem gX7_run_X4_push : GoodIn wsX7_run (wsV RX7 70 RX4 yX4_push wsX4_push) := goodIn_app (goodIn_of _ (by decide +kernel)) ggX7_run_X4_push
set_option maxRecDepth 20000 in
theorem ggX7_run_X6_startReading : GoodIn wsX7_run wsX6_startReading := goodIn_r _ [55, 56, 166, 167, 168, 169, 170, 171] (by decide +kernel) (by decide +kernel)
set_option maxRecDepth 20000 in
theorem gX7_run_X6_startReading : GoodIn wsX7_run (wsV RX7 152 RX6 yX6_startReading wsX6_startReading) := goodIn_app (goodIn_of _ (by decide +kernel)) ggX7_run_X6_startReading
set_option maxRecDepth 20000 in
theorem ggX7_run_X6_readItem : GoodIn wsX7_run wsX6_readItem := goodIn_r _ [60, 56, 61, 62, 63, 64, 65, 66, 9, 67, 11, 12, 68, 69, 70, 71, 22, 23, 24, 166, 167, 168, 169, 170, 171] (by decide +kernel) (by decide +kernel)
set_option maxRecDepth 20000 in
theorem gX7_run_X6_readItem : GoodIn wsX7_run (wsV RX7 155 RX6 yX6_readItem wsX6_readItem) := goodIn_app (goodIn_of _ (by decide +kernel)) ggX7_run_X6_readItem
set_option maxRecDepth 20000 in
theorem ggX7_run_X7_doItem : GoodIn wsX7_run wsX7_doItem := goodIn_r _ [76, 3, 5, 77, 78, 79, 9, 80, 62, 81, 82, 83, 84, 63, 85, 86, 87, 88, 61, 89, 90, 91, 36, 92, 49, 93, 94, 95, 96, 51, 50, 45, 97, 98, 99, 100, 46, 101, 102, 103, 104, 105, 106, 107, 108, 109, 110, 111, 38, 112, 113, 114, 115, 116, 117, 118, 119, 120, 121, 122, 123, 124, 125, 126, 127, 128, 129, 130, 131, 132, 133, 134, 135, 136, 137, 138, 139, 140, 141, 48, 44, 142, 143, 144, 145, 146, 147, 148, 149, 47, 43, 150, 151, 75, 152, 153, 158, 159, 160, 161, 162, 163, 164, 165, 166, 167, 168, 169, 170, 171, 175, 176, 177, 178, 179, 180, 181, 182, 183, 184] (by decide +kernel) (by decide +kernel)
set_option maxRecDepth 20000 in
theorem gX7_run_X7_doItem : GoodIn wsX7_run (wsV RX7 158 RX7 yX7_doItem wsX7_doItem) := goodIn_app (goodIn_of _ (by decide +kernel)) ggX7_run_X7_doItem
set_option maxRecDepth 20000 in
theorem ggX7_run_X6_empty : GoodIn wsX7_run wsX6_empty := goodIn_r _ [157, 11, 166, 167, 168, 169, 170, 171] (by decide +kernel) (by decide +kernel)
set_option maxRecDepth 20000 in
theorem gX7_run_X6_empty : GoodIn wsX7_run (wsV RX7 141 RX6 yX6_empty wsX6_empty) := goodIn_app (goodIn_of _ (by decide +kernel)) ggX7_run_X6_empty
theorem dX7_run_0 : decode cX7_run 0 = .ok (.aload_n 0, 1) := by decide +kernel
theorem dX7_run_1 : decode cX7_run 1 = .ok (.getfield 34, 3) := by decide +kernel
theorem dX7_run_4 : decode cX7_run 4 = .ok (.invokevirtual 147, 3) := by decide +kernel
theorem dX7_run_7 : decode cX7_run 7 = .ok (.ifCond .ne 13, 3) := by decide +kernel
theorem dX7_run_10 : decode cX7_run 10 = .ok (.new 83, 3) := by decide +kernel
theorem dX7_run_13 : decode cX7_run 13 = .ok (.dup, 1) := by decide +kernel
theorem dX7_run_14 : decode cX7_run 14 = .ok (.ldc 150, 2) := by decide +kernel
theorem dX7_run_16 : decode cX7_run 16 = .ok (.invokespecial 87, 3) := by decide +kernel
theorem dX7_run_19 : decode cX7_run 19 = .ok (.athrow, 1) := by decide +kernel
theorem dX7_run_20 : decode cX7_run 20 = .ok (.aload_n 0, 1) := by decide +kernel
theorem dX7_run_21 : decode cX7_run 21 = .ok (.getfield 27, 3) := by decide +kernel
theorem dX7_run_24 : decode cX7_run 24 = .ok (.aload_n 0, 1) := by decide +kernel
theorem dX7_run_25 : decode cX7_run 25 = .ok (.getfield 10, 3) := by decide +kernel
theorem dX7_run_28 : decode cX7_run 28 = .ok (.invokevirtual 70, 3) := by decide +kernel
theorem dX7_run_31 : decode cX7_run 31 = .ok (.iconst 0, 1) := by decide +kernel
theorem dX7_run_32 : decode cX7_run 32 = .ok (.istore_n 1, 1) := by decide +kernel
theorem dX7_run_33 : decode cX7_run 33 = .ok (.aload_n 0, 1) := by decide +kernel
theorem dX7_run_34 : decode cX7_run 34 = .ok (.getfield 34, 3) := by decide +kernel
theorem dX7_run_37 : decode cX7_run 37 = .ok (.invokevirtual 152, 3) := by decide +kernel
theorem dX7_run_40 : decode cX7_run 40 = .ok (.iload_n 1, 1) := by decide +kernel
theorem dX7_run_41 : decode cX7_run 41 = .ok (.bipush 60, 2) := by decide +kernel
theorem dX7_run_43 : decode cX7_run 43 = .ok (.if_icmp .ge 26, 3) := by decide +kernel
theorem dX7_run_46 : decode cX7_run 46 = .ok (.aload_n 0, 1) := by decide +kernel
theorem dX7_run_47 : decode cX7_run 47 = .ok (.getfield 34, 3) := by decide +kernel
theorem dX7_run_50 : decode cX7_run 50 = .ok (.invokevirtual 155, 3) := by decide +kernel
theorem dX7_run_53 : decode cX7_run 53 = .ok (.ifCond .eq 16, 3) := by decide +kernel
theorem dX7_run_56 : decode cX7_run 56 = .ok (.aload_n 0, 1) := by decide +kernel
theorem dX7_run_57 : decode cX7_run 57 = .ok (.invokevirtual 158, 3) := by decide +kernel
theorem dX7_run_60 : decode cX7_run 60 = .ok (.ifCond .eq 9, 3) := by decide +kernel
theorem dX7_run_63 : decode cX7_run 63 = .ok (.iinc 1 1, 3) := by decide +kernel
theorem dX7_run_66 : decode cX7_run 66 = .ok (.goto (-26), 3) := by decide +kernel
theorem dX7_run_69 : decode cX7_run 69 = .ok (.aload_n 0, 1) := by decide +kernel
theorem dX7_run_70 : decode cX7_run 70 = .ok (.getfield 34, 3) := by decide +kernel
theorem dX7_run_73 : decode cX7_run 73 = .ok (.invokevirtual 141, 3) := by decide +kernel
theorem dX7_run_76 : decode cX7_run 76 = .ok (.pop, 1) := by decide +kernel
theorem dX7_run_77 : decode cX7_run 77 = .ok (.iload_n 1, 1) := by decide +kernel
theorem dX7_run_78 : decode cX7_run 78 = .ok (.ireturn, 1) := by decide +kernel
set_option maxRecDepth 20000 in
theorem ggX7_keep_X7_isSlot : GoodIn wsX7_keep wsX7_isSlot := goodIn_r _ [9] (by decide +kernel) (by decide +kernel)
set_option maxRecDepth 20000 in
theorem gX7_keep_X7_isSlot : GoodIn wsX7_keep (va_wsS RX7 161 yX7_isSlot wsX7_isSlot) := goodIn_app (goodIn_of _ (by decide +kernel)) ggX7_keep_X7_isSlot
set_option maxRecDepth 20000 in
theorem ggX7_keep_X5_copyFrom : GoodIn wsX7_keep wsX5_copyFrom := goodIn_r _ [14, 15, 16, 17, 18, 19, 20, 21, 22, 23, 24, 25, 26, 27, 28, 41, 42, 43, 44, 45, 46, 47, 48, 49, 50] (by decide +kernel) (by decide +kernel)
set_option maxRecDepth 20000 in
theorem gX7_keep_X5_copyFrom : GoodIn wsX7_keep (wsV RX7 166 RX5 yX5_copyFrom wsX5_copyFrom) := goodIn_app (goodIn_of _ (by decide +kernel)) ggX7_keep_X5_copyFrom
set_option maxRecDepth 20000 in
theorem ggX7_keep_X5_people : GoodIn wsX7_keep wsX5_people := goodIn_r _ [32, 26, 41, 42, 43, 44, 45, 46, 47, 48, 49, 50] (by decide +kernel) (by decide +kernel)
set_option maxRecDepth 20000 in
theorem gX7_keep_X5_people : GoodIn wsX7_keep (wsV RX7 169 RX5 yX5_people wsX5_people) := goodIn_app (goodIn_of _ (by decide +kernel)) ggX7_keep_X5_people
theorem dX7_keep_0 : decode cX7_keep 0 = .ok (.iload_n 1, 1) := by decide +kernel
theorem dX7_keep_1 : decode cX7_keep 1 = .ok (.invokestatic 161, 3) := by decide +kernel
theorem dX7_keep_4 : decode cX7_keep 4 = .ok (.ifCond .ne 13, 3) := by decide +kernel
theorem dX7_keep_7 : decode cX7_keep 7 = .ok (.new 83, 3) := by decide +kernel
theorem dX7_keep_10 : decode cX7_keep 10 = .ok (.dup, 1) := by decide +kernel
theorem dX7_keep_11 : decode cX7_keep 11 = .ok (.ldc 164, 2) := by decide +kernel
theorem dX7_keep_13 : decode cX7_keep 13 = .ok (.invokespecial 87, 3) := by decide +kernel
theorem dX7_keep_16 : decode cX7_keep 16 = .ok (.athrow, 1) := by decide +kernel
theorem dX7_keep_17 : decode cX7_keep 17 = .ok (.aload_n 0, 1) := by decide +kernel
theorem dX7_keep_18 : decode cX7_keep 18 = .ok (.getfield 16, 3) := by decide +kernel
theorem dX7_keep_21 : decode cX7_keep 21 = .ok (.iload_n 1, 1) := by decide +kernel
theorem dX7_keep_22 : decode cX7_keep 22 = .ok (.aaload, 1) := by decide +kernel
theorem dX7_keep_23 : decode cX7_keep 23 = .ok (.aload_n 0, 1) := by decide +kernel
theorem dX7_keep_24 : decode cX7_keep 24 = .ok (.getfield 10, 3) := by decide +kernel
theorem dX7_keep_27 : decode cX7_keep 27 = .ok (.invokevirtual 166, 3) := by decide +kernel
theorem dX7_keep_30 : decode cX7_keep 30 = .ok (.aload_n 0, 1) := by decide +kernel
theorem dX7_keep_31 : decode cX7_keep 31 = .ok (.getfield 20, 3) := by decide +kernel
theorem dX7_keep_34 : decode cX7_keep 34 = .ok (.iload_n 1, 1) := by decide +kernel
theorem dX7_keep_35 : decode cX7_keep 35 = .ok (.iconst 1, 1) := by decide +kernel
theorem dX7_keep_36 : decode cX7_keep 36 = .ok (.bastore, 1) := by decide +kernel
theorem dX7_keep_37 : decode cX7_keep 37 = .ok (.aload_n 0, 1) := by decide +kernel
theorem dX7_keep_38 : decode cX7_keep 38 = .ok (.getfield 10, 3) := by decide +kernel
theorem dX7_keep_41 : decode cX7_keep 41 = .ok (.invokevirtual 169, 3) := by decide +kernel
theorem dX7_keep_44 : decode cX7_keep 44 = .ok (.ireturn, 1) := by decide +kernel
set_option maxRecDepth 20000 in
theorem ggX7_goBack_X7_isSlot : GoodIn wsX7_goBack wsX7_isSlot := goodIn_r _ [12] (by decide +kernel) (by decide +kernel)
set_option maxRecDepth 20000 in
theorem gX7_goBack_X7_isSlot : GoodIn wsX7_goBack (va_wsS RX7 161 yX7_isSlot wsX7_isSlot) := goodIn_app (goodIn_of _ (by decide +kernel)) ggX7_goBack_X7_isSlot
set_option maxRecDepth 20000 in
theorem ggX7_goBack_X4_push : GoodIn wsX7_goBack wsX4_push := goodIn_r _ [17, 18, 19, 20, 21, 22, 23, 24, 25, 26, 27, 28, 29, 30, 31, 32, 33, 34, 35, 36, 37, 38, 39, 53, 54, 55, 56, 57, 58, 59, 60, 61, 62, 63, 64, 65] (by decide +kernel) (by decide +kernel)
set_option maxRecDepth 20000 in
theorem gX7_goBack_X4_push : GoodIn wsX7_goBack (wsV RX7 70 RX4 yX4_push wsX4_push) := goodIn_app (goodIn_of _ (by decide +kernel)) ggX7_goBack_X4_push
set_option maxRecDepth 20000 in
theorem ggX7_goBack_X5_copyFrom : GoodIn wsX7_goBack wsX5_copyFrom := goodIn_r _ [25, 26, 27, 28, 29, 30, 31, 32, 33, 34, 35, 36, 37, 38, 39, 56, 57, 58, 59, 60, 61, 62, 63, 64, 65] (by decide +kernel) (by decide +kernel)
set_option maxRecDepth 20000 in
theorem gX7_goBack_X5_copyFrom : GoodIn wsX7_goBack (wsV RX7 166 RX5 yX5_copyFrom wsX5_copyFrom) := goodIn_app (goodIn_of _ (by decide +kernel)) ggX7_goBack_X5_copyFrom
set_option maxRecDepth 20000 in
theorem ggX7_goBack_X5_people : GoodIn wsX7_goBack wsX5_people := goodIn_r _ [44, 37, 56, 57, 58, 59, 60, 61, 62, 63, 64, 65] (by decide +kernel) (by decide +kernel)
set_option maxRecDepth 20000 in
theorem gX7_goBack_X5_people : GoodIn wsX7_goBack (wsV RX7 169 RX5 yX5_people wsX5_people) := goodIn_app (goodIn_of _ (by decide +kernel)) ggX7_goBack_X5_people
theorem dX7_goBack_0 : decode cX7_goBack 0 = .ok (.iload_n 1, 1) := by decide +kernel
theorem dX7_goBack_1 : decode cX7_goBack 1 = .ok (.invokestatic 161, 3) := by decide +kernel
theorem dX7_goBack_4 : decode cX7_goBack 4 = .ok (.ifCond .ne 13, 3) := by decide +kernel
theorem dX7_goBack_7 : decode cX7_goBack 7 = .ok (.new 83, 3) := by decide +kernel
theorem dX7_goBack_10 : decode cX7_goBack 10 = .ok (.dup, 1) := by decide +kernel
theorem dX7_goBack_11 : decode cX7_goBack 11 = .ok (.ldc 164, 2) := by decide +kernel
theorem dX7_goBack_13 : decode cX7_goBack 13 = .ok (.invokespecial 87, 3) := by decide +kernel
theorem dX7_goBack_16 : decode cX7_goBack 16 = .ok (.athrow, 1) := by decide +kernel
theorem dX7_goBack_17 : decode cX7_goBack 17 = .ok (.aload_n 0, 1) := by decide +kernel
theorem dX7_goBack_18 : decode cX7_goBack 18 = .ok (.getfield 20, 3) := by decide +kernel
theorem dX7_goBack_21 : decode cX7_goBack 21 = .ok (.iload_n 1, 1) := by decide +kernel
theorem dX7_goBack_22 : decode cX7_goBack 22 = .ok (.baload, 1) := by decide +kernel
theorem dX7_goBack_23 : decode cX7_goBack 23 = .ok (.ifCond .ne 13, 3) := by decide +kernel
theorem dX7_goBack_26 : decode cX7_goBack 26 = .ok (.new 133, 3) := by decide +kernel
theorem dX7_goBack_29 : decode cX7_goBack 29 = .ok (.dup, 1) := by decide +kernel
theorem dX7_goBack_30 : decode cX7_goBack 30 = .ok (.ldc 172, 2) := by decide +kernel
theorem dX7_goBack_32 : decode cX7_goBack 32 = .ok (.invokespecial 137, 3) := by decide +kernel
theorem dX7_goBack_35 : decode cX7_goBack 35 = .ok (.athrow, 1) := by decide +kernel
theorem dX7_goBack_36 : decode cX7_goBack 36 = .ok (.aload_n 0, 1) := by decide +kernel
theorem dX7_goBack_37 : decode cX7_goBack 37 = .ok (.getfield 27, 3) := by decide +kernel
theorem dX7_goBack_40 : decode cX7_goBack 40 = .ok (.aload_n 0, 1) := by decide +kernel
theorem dX7_goBack_41 : decode cX7_goBack 41 = .ok (.getfield 10, 3) := by decide +kernel
theorem dX7_goBack_44 : decode cX7_goBack 44 = .ok (.invokevirtual 70, 3) := by decide +kernel
theorem dX7_goBack_47 : decode cX7_goBack 47 = .ok (.aload_n 0, 1) := by decide +kernel
theorem dX7_goBack_48 : decode cX7_goBack 48 = .ok (.getfield 10, 3) := by decide +kernel
theorem dX7_goBack_51 : decode cX7_goBack 51 = .ok (.aload_n 0, 1) := by decide +kernel
theorem dX7_goBack_52 : decode cX7_goBack 52 = .ok (.getfield 16, 3) := by decide +kernel
theorem dX7_goBack_55 : decode cX7_goBack 55 = .ok (.iload_n 1, 1) := by decide +kernel
theorem dX7_goBack_56 : decode cX7_goBack 56 = .ok (.aaload, 1) := by decide +kernel
theorem dX7_goBack_57 : decode cX7_goBack 57 = .ok (.invokevirtual 166, 3) := by decide +kernel
theorem dX7_goBack_60 : decode cX7_goBack 60 = .ok (.aload_n 0, 1) := by decide +kernel
theorem dX7_goBack_61 : decode cX7_goBack 61 = .ok (.getfield 10, 3) := by decide +kernel
theorem dX7_goBack_64 : decode cX7_goBack 64 = .ok (.invokevirtual 169, 3) := by decide +kernel
theorem dX7_goBack_67 : decode cX7_goBack 67 = .ok (.ireturn, 1) := by decide +kernel
set_option maxRecDepth 20000 in
theorem ggX7_undo_X4_size : GoodIn wsX7_undo wsX4_size := goodIn_r _ [9, 10, 44, 45, 46] (by decide +kernel) (by decide +kernel)
set_option maxRecDepth 20000 in
theorem gX7_undo_X4_size : GoodIn wsX7_undo (wsV RX7 174 RX4 yX4_size wsX4_size) := goodIn_app (goodIn_of _ (by decide +kernel)) ggX7_undo_X4_size
set_option maxRecDepth 20000 in
theorem ggX7_undo_X4_popTo : GoodIn wsX7_undo wsX4_popTo := goodIn_r _ [14, 10, 15, 16, 17, 18, 19, 20, 21, 22, 23, 24, 25, 26, 27, 28, 29, 30, 31, 32, 33, 34, 35, 44, 45, 46, 47, 48, 49, 50, 51, 52, 53, 54, 55, 56] (by decide +kernel) (by decide +kernel)
set_option maxRecDepth 20000 in
theorem gX7_undo_X4_popTo : GoodIn wsX7_undo (wsV RX7 179 RX4 yX4_popTo wsX4_popTo) := goodIn_app (goodIn_of _ (by decide +kernel)) ggX7_undo_X4_popTo
theorem dX7_undo_0 : decode cX7_undo 0 = .ok (.aload_n 0, 1) := by decide +kernel
theorem dX7_undo_1 : decode cX7_undo 1 = .ok (.getfield 27, 3) := by decide +kernel
theorem dX7_undo_4 : decode cX7_undo 4 = .ok (.invokevirtual 174, 3) := by decide +kernel
theorem dX7_undo_7 : decode cX7_undo 7 = .ok (.ifCond .ne 13, 3) := by decide +kernel
theorem dX7_undo_10 : decode cX7_undo 10 = .ok (.new 133, 3) := by decide +kernel
theorem dX7_undo_13 : decode cX7_undo 13 = .ok (.dup, 1) := by decide +kernel
theorem dX7_undo_14 : decode cX7_undo 14 = .ok (.ldc 177, 2) := by decide +kernel
theorem dX7_undo_16 : decode cX7_undo 16 = .ok (.invokespecial 137, 3) := by decide +kernel
theorem dX7_undo_19 : decode cX7_undo 19 = .ok (.athrow, 1) := by decide +kernel
theorem dX7_undo_20 : decode cX7_undo 20 = .ok (.aload_n 0, 1) := by decide +kernel
theorem dX7_undo_21 : decode cX7_undo 21 = .ok (.getfield 27, 3) := by decide +kernel
theorem dX7_undo_24 : decode cX7_undo 24 = .ok (.aload_n 0, 1) := by decide +kernel
theorem dX7_undo_25 : decode cX7_undo 25 = .ok (.getfield 10, 3) := by decide +kernel
theorem dX7_undo_28 : decode cX7_undo 28 = .ok (.invokevirtual 179, 3) := by decide +kernel
theorem dX7_undo_31 : decode cX7_undo 31 = .ok (.aload_n 0, 1) := by decide +kernel
theorem dX7_undo_32 : decode cX7_undo 32 = .ok (.getfield 27, 3) := by decide +kernel
theorem dX7_undo_35 : decode cX7_undo 35 = .ok (.invokevirtual 174, 3) := by decide +kernel
theorem dX7_undo_38 : decode cX7_undo 38 = .ok (.ireturn, 1) := by decide +kernel
set_option maxRecDepth 20000 in
theorem ggX7_personOf_X5_isPerson : GoodIn wsX7_personOf wsX5_isPerson := goodIn_r _ [10, 11, 85, 86, 87, 88, 89, 90, 91, 92, 93, 94] (by decide +kernel) (by decide +kernel)
set_option maxRecDepth 20000 in
theorem gX7_personOf_X5_isPerson : GoodIn wsX7_personOf (wsV RX7 78 RX5 yX5_isPerson wsX5_isPerson) := goodIn_app (goodIn_of _ (by decide +kernel)) ggX7_personOf_X5_isPerson
set_option maxRecDepth 20000 in
theorem ggX7_personOf_X5_rowOf : GoodIn wsX7_personOf wsX5_rowOf := goodIn_r _ [15, 16, 17, 7, 8, 9, 10, 11, 85, 86, 87, 88, 89, 90, 91, 92, 93, 94] (by decide +kernel) (by decide +kernel)
set_option maxRecDepth 20000 in
theorem gX7_personOf_X5_rowOf : GoodIn wsX7_personOf (wsV RX7 182 RX5 yX5_rowOf wsX5_rowOf) := goodIn_app (goodIn_of _ (by decide +kernel)) ggX7_personOf_X5_rowOf
set_option maxRecDepth 20000 in
theorem ggX7_personOf_X5_placeOf : GoodIn wsX7_personOf wsX5_placeOf := goodIn_r _ [21, 22, 17, 7, 8, 9, 10, 11, 85, 86, 87, 88, 89, 90, 91, 92, 93, 94] (by decide +kernel) (by decide +kernel)
set_option maxRecDepth 20000 in
theorem gX7_personOf_X5_placeOf : GoodIn wsX7_personOf (wsV RX7 185 RX5 yX5_placeOf wsX5_placeOf) := goodIn_app (goodIn_of _ (by decide +kernel)) ggX7_personOf_X5_placeOf
set_option maxRecDepth 20000 in
theorem ggX7_personOf_X5_parentsOf : GoodIn wsX7_personOf wsX5_parentsOf := goodIn_r _ [26, 27, 17, 7, 8, 9, 10, 11, 85, 86, 87, 88, 89, 90, 91, 92, 93, 94] (by decide +kernel) (by decide +kernel)
set_option maxRecDepth 20000 in
theorem gX7_personOf_X5_parentsOf : GoodIn wsX7_personOf (wsV RX7 188 RX5 yX5_parentsOf wsX5_parentsOf) := goodIn_app (goodIn_of _ (by decide +kernel)) ggX7_personOf_X5_parentsOf
set_option maxRecDepth 20000 in
theorem ggX7_personOf_X5_couplesWith : GoodIn wsX7_personOf wsX5_couplesWith := goodIn_r _ [31, 32, 33, 34, 85, 86, 87, 88, 89, 90, 91, 92, 93, 94] (by decide +kernel) (by decide +kernel)
set_option maxRecDepth 20000 in
theorem gX7_personOf_X5_couplesWith : GoodIn wsX7_personOf (wsV RX7 191 RX5 yX5_couplesWith wsX5_couplesWith) := goodIn_app (goodIn_of _ (by decide +kernel)) ggX7_personOf_X5_couplesWith
set_option maxRecDepth 20000 in
theorem ggX7_personOf_X5_childrenWith : GoodIn wsX7_personOf wsX5_childrenWith := goodIn_r _ [38, 32, 33, 34, 39, 40, 41, 9, 42, 11, 27, 85, 86, 87, 88, 89, 90, 91, 92, 93, 94] (by decide +kernel) (by decide +kernel)
set_option maxRecDepth 20000 in
theorem gX7_personOf_X5_childrenWith : GoodIn wsX7_personOf (wsV RX7 194 RX5 yX5_childrenWith wsX5_childrenWith) := goodIn_app (goodIn_of _ (by decide +kernel)) ggX7_personOf_X5_childrenWith
set_option maxRecDepth 20000 in
theorem ggX7_personOf_X0_descendants : GoodIn wsX7_personOf wsX0_descendants := goodIn_r _ [46, 47, 48, 49, 9, 50, 11, 51, 52, 45, 53, 54, 24, 25, 26, 27, 17, 7, 8, 10, 55, 56, 57, 58, 33, 59, 60, 61, 62, 32, 63, 64, 65, 66, 34, 85, 86, 87, 88, 89, 90, 91, 92, 93, 94] (by decide +kernel) (by decide +kernel)
set_option maxRecDepth 20000 in
theorem gX7_personOf_X0_descendants : GoodIn wsX7_personOf (va_wsS RX7 197 yX0_descendants wsX0_descendants) := goodIn_app (goodIn_of _ (by decide +kernel)) ggX7_personOf_X0_descendants
set_option maxRecDepth 20000 in
theorem ggX7_personOf_J6_bitCount_0f7a4 : GoodIn wsX7_personOf wsJ6_bitCount_0f7a4 := goodIn_r _ [70, 71, 72, 73] (by decide +kernel) (by decide +kernel)
set_option maxRecDepth 20000 in
theorem gX7_personOf_J6_bitCount_0f7a4 : GoodIn wsX7_personOf (va_wsS RX7 202 yJ6_bitCount_0f7a4 wsJ6_bitCount_0f7a4) := goodIn_app (goodIn_of _ (by decide +kernel)) ggX7_personOf_J6_bitCount_0f7a4
set_option maxRecDepth 20000 in
theorem ggX7_personOf_X0_ancestors : GoodIn wsX7_personOf wsX0_ancestors := goodIn_r _ [76, 51, 52, 45, 53, 54, 24, 25, 9, 26, 27, 17, 7, 8, 10, 11, 55, 56, 57, 58, 33, 59, 60, 61, 62, 32, 63, 64, 65, 66, 34, 85, 86, 87, 88, 89, 90, 91, 92, 93, 94] (by decide +kernel) (by decide +kernel)
set_option maxRecDepth 20000 in
theorem gX7_personOf_X0_ancestors : GoodIn wsX7_personOf (va_wsS RX7 207 yX0_ancestors wsX0_ancestors) := goodIn_app (goodIn_of _ (by decide +kernel)) ggX7_personOf_X0_ancestors
theorem dX7_personOf_0 : decode cX7_personOf 0 = .ok (.aload_n 0, 1) := by decide +kernel
theorem dX7_personOf_1 : decode cX7_personOf 1 = .ok (.getfield 10, 3) := by decide +kernel
theorem dX7_personOf_4 : decode cX7_personOf 4 = .ok (.iload_n 1, 1) := by decide +kernel
theorem dX7_personOf_5 : decode cX7_personOf 5 = .ok (.invokevirtual 78, 3) := by decide +kernel
theorem dX7_personOf_8 : decode cX7_personOf 8 = .ok (.ifCond .ne 13, 3) := by decide +kernel
theorem dX7_personOf_11 : decode cX7_personOf 11 = .ok (.new 63, 3) := by decide +kernel
theorem dX7_personOf_14 : decode cX7_personOf 14 = .ok (.dup, 1) := by decide +kernel
theorem dX7_personOf_15 : decode cX7_personOf 15 = .ok (.ldc 81, 2) := by decide +kernel
theorem dX7_personOf_17 : decode cX7_personOf 17 = .ok (.invokespecial 67, 3) := by decide +kernel
theorem dX7_personOf_20 : decode cX7_personOf 20 = .ok (.athrow, 1) := by decide +kernel
theorem dX7_personOf_21 : decode cX7_personOf 21 = .ok (.iload_n 2, 1) := by decide +kernel
theorem dX7_personOf_22 : decode cX7_personOf 22 = .ok (.tableswitch 111 0 6 #[42, 51, 60, 69, 78, 87, 99], 42) := by decide +kernel
theorem dX7_personOf_64 : decode cX7_personOf 64 = .ok (.aload_n 0, 1) := by decide +kernel
theorem dX7_personOf_65 : decode cX7_personOf 65 = .ok (.getfield 10, 3) := by decide +kernel
theorem dX7_personOf_68 : decode cX7_personOf 68 = .ok (.iload_n 1, 1) := by decide +kernel
theorem dX7_personOf_69 : decode cX7_personOf 69 = .ok (.invokevirtual 182, 3) := by decide +kernel
theorem dX7_personOf_72 : decode cX7_personOf 72 = .ok (.ireturn, 1) := by decide +kernel
theorem dX7_personOf_73 : decode cX7_personOf 73 = .ok (.aload_n 0, 1) := by decide +kernel
theorem dX7_personOf_74 : decode cX7_personOf 74 = .ok (.getfield 10, 3) := by decide +kernel
theorem dX7_personOf_77 : decode cX7_personOf 77 = .ok (.iload_n 1, 1) := by decide +kernel
theorem dX7_personOf_78 : decode cX7_personOf 78 = .ok (.invokevirtual 185, 3) := by decide +kernel
theorem dX7_personOf_81 : decode cX7_personOf 81 = .ok (.ireturn, 1) := by decide +kernel
theorem dX7_personOf_82 : decode cX7_personOf 82 = .ok (.aload_n 0, 1) := by decide +kernel
theorem dX7_personOf_83 : decode cX7_personOf 83 = .ok (.getfield 10, 3) := by decide +kernel
theorem dX7_personOf_86 : decode cX7_personOf 86 = .ok (.iload_n 1, 1) := by decide +kernel
theorem dX7_personOf_87 : decode cX7_personOf 87 = .ok (.invokevirtual 188, 3) := by decide +kernel
theorem dX7_personOf_90 : decode cX7_personOf 90 = .ok (.ireturn, 1) := by decide +kernel
theorem dX7_personOf_91 : decode cX7_personOf 91 = .ok (.aload_n 0, 1) := by decide +kernel
theorem dX7_personOf_92 : decode cX7_personOf 92 = .ok (.getfield 10, 3) := by decide +kernel
theorem dX7_personOf_95 : decode cX7_personOf 95 = .ok (.iload_n 1, 1) := by decide +kernel
theorem dX7_personOf_96 : decode cX7_personOf 96 = .ok (.invokevirtual 191, 3) := by decide +kernel
theorem dX7_personOf_99 : decode cX7_personOf 99 = .ok (.ireturn, 1) := by decide +kernel
theorem dX7_personOf_100 : decode cX7_personOf 100 = .ok (.aload_n 0, 1) := by decide +kernel
theorem dX7_personOf_101 : decode cX7_personOf 101 = .ok (.getfield 10, 3) := by decide +kernel
theorem dX7_personOf_104 : decode cX7_personOf 104 = .ok (.iload_n 1, 1) := by decide +kernel
theorem dX7_personOf_105 : decode cX7_personOf 105 = .ok (.invokevirtual 194, 3) := by decide +kernel
theorem dX7_personOf_108 : decode cX7_personOf 108 = .ok (.ireturn, 1) := by decide +kernel
theorem dX7_personOf_109 : decode cX7_personOf 109 = .ok (.aload_n 0, 1) := by decide +kernel
theorem dX7_personOf_110 : decode cX7_personOf 110 = .ok (.getfield 10, 3) := by decide +kernel
theorem dX7_personOf_113 : decode cX7_personOf 113 = .ok (.iload_n 1, 1) := by decide +kernel
theorem dX7_personOf_114 : decode cX7_personOf 114 = .ok (.invokestatic 197, 3) := by decide +kernel
theorem dX7_personOf_117 : decode cX7_personOf 117 = .ok (.invokestatic 202, 3) := by decide +kernel
theorem dX7_personOf_120 : decode cX7_personOf 120 = .ok (.ireturn, 1) := by decide +kernel
theorem dX7_personOf_121 : decode cX7_personOf 121 = .ok (.aload_n 0, 1) := by decide +kernel
theorem dX7_personOf_122 : decode cX7_personOf 122 = .ok (.getfield 10, 3) := by decide +kernel
theorem dX7_personOf_125 : decode cX7_personOf 125 = .ok (.iload_n 1, 1) := by decide +kernel
theorem dX7_personOf_126 : decode cX7_personOf 126 = .ok (.invokestatic 207, 3) := by decide +kernel
theorem dX7_personOf_129 : decode cX7_personOf 129 = .ok (.invokestatic 202, 3) := by decide +kernel
theorem dX7_personOf_132 : decode cX7_personOf 132 = .ok (.ireturn, 1) := by decide +kernel
theorem dX7_personOf_133 : decode cX7_personOf 133 = .ok (.new 83, 3) := by decide +kernel
theorem dX7_personOf_136 : decode cX7_personOf 136 = .ok (.dup, 1) := by decide +kernel
theorem dX7_personOf_137 : decode cX7_personOf 137 = .ok (.ldc 210, 2) := by decide +kernel
theorem dX7_personOf_139 : decode cX7_personOf 139 = .ok (.invokespecial 87, 3) := by decide +kernel
theorem dX7_personOf_142 : decode cX7_personOf 142 = .ok (.athrow, 1) := by decide +kernel
set_option maxRecDepth 20000 in
theorem ggX7_coupleOf_X5_isCouple : GoodIn wsX7_coupleOf wsX5_isCouple := goodIn_r _ [10, 11, 78, 79, 80, 81, 82, 83, 84, 85, 86, 87] (by decide +kernel) (by decide +kernel)
set_option maxRecDepth 20000 in
theorem gX7_coupleOf_X5_isCouple : GoodIn wsX7_coupleOf (wsV RX7 91 RX5 yX5_isCouple wsX5_isCouple) := goodIn_app (goodIn_of _ (by decide +kernel)) ggX7_coupleOf_X5_isCouple
set_option maxRecDepth 20000 in
theorem ggX7_coupleOf_X5_lesserOf : GoodIn wsX7_coupleOf wsX5_lesserOf := goodIn_r _ [15, 16, 17, 7, 8, 9, 10, 11, 78, 79, 80, 81, 82, 83, 84, 85, 86, 87] (by decide +kernel) (by decide +kernel)
set_option maxRecDepth 20000 in
theorem gX7_coupleOf_X5_lesserOf : GoodIn wsX7_coupleOf (wsV RX7 212 RX5 yX5_lesserOf wsX5_lesserOf) := goodIn_app (goodIn_of _ (by decide +kernel)) ggX7_coupleOf_X5_lesserOf
set_option maxRecDepth 20000 in
theorem ggX7_coupleOf_X5_greaterOf : GoodIn wsX7_coupleOf wsX5_greaterOf := goodIn_r _ [21, 22, 17, 7, 8, 9, 10, 11, 78, 79, 80, 81, 82, 83, 84, 85, 86, 87] (by decide +kernel) (by decide +kernel)
set_option maxRecDepth 20000 in
theorem gX7_coupleOf_X5_greaterOf : GoodIn wsX7_coupleOf (wsV RX7 215 RX5 yX5_greaterOf wsX5_greaterOf) := goodIn_app (goodIn_of _ (by decide +kernel)) ggX7_coupleOf_X5_greaterOf
set_option maxRecDepth 20000 in
theorem ggX7_coupleOf_X5_rowOf : GoodIn wsX7_coupleOf wsX5_rowOf := goodIn_r _ [26, 27, 28, 29, 30, 9, 31, 32, 78, 79, 80, 81, 82, 83, 84, 85, 86, 87] (by decide +kernel) (by decide +kernel)
set_option maxRecDepth 20000 in
theorem gX7_coupleOf_X5_rowOf : GoodIn wsX7_coupleOf (wsV RX7 182 RX5 yX5_rowOf wsX5_rowOf) := goodIn_app (goodIn_of _ (by decide +kernel)) ggX7_coupleOf_X5_rowOf
set_option maxRecDepth 20000 in
theorem ggX7_coupleOf_X5_middleOf : GoodIn wsX7_coupleOf wsX5_middleOf := goodIn_r _ [36, 16, 22, 17, 7, 8, 9, 10, 11, 37, 38, 39, 40, 41, 28, 29, 30, 31, 32, 78, 79, 80, 81, 82, 83, 84, 85, 86, 87] (by decide +kernel) (by decide +kernel)
set_option maxRecDepth 20000 in
theorem gX7_coupleOf_X5_middleOf : GoodIn wsX7_coupleOf (wsV RX7 218 RX5 yX5_middleOf wsX5_middleOf) := goodIn_app (goodIn_of _ (by decide +kernel)) ggX7_coupleOf_X5_middleOf
set_option maxRecDepth 20000 in
theorem ggX7_coupleOf_X5_childrenOf : GoodIn wsX7_coupleOf wsX5_childrenOf := goodIn_r _ [45, 32, 46, 78, 79, 80, 81, 82, 83, 84, 85, 86, 87] (by decide +kernel) (by decide +kernel)
set_option maxRecDepth 20000 in
theorem gX7_coupleOf_X5_childrenOf : GoodIn wsX7_coupleOf (wsV RX7 221 RX5 yX5_childrenOf wsX5_childrenOf) := goodIn_app (goodIn_of _ (by decide +kernel)) ggX7_coupleOf_X5_childrenOf
set_option maxRecDepth 20000 in
theorem ggX7_coupleOf_X0_commonAncestors : GoodIn wsX7_coupleOf wsX0_commonAncestors := goodIn_r _ [50, 51, 13, 14, 9, 15, 16, 17, 7, 8, 10, 11, 52, 53, 49, 54, 55, 56, 57, 58, 59, 60, 61, 46, 28, 29, 30, 31, 32, 62, 19, 20, 21, 22, 78, 79, 80, 81, 82, 83, 84, 85, 86, 87] (by decide +kernel) (by decide +kernel)
set_option maxRecDepth 20000 in
theorem gX7_coupleOf_X0_commonAncestors : GoodIn wsX7_coupleOf (va_wsS RX7 224 yX0_commonAncestors wsX0_commonAncestors) := goodIn_app (goodIn_of _ (by decide +kernel)) ggX7_coupleOf_X0_commonAncestors
set_option maxRecDepth 20000 in
theorem ggX7_coupleOf_J6_bitCount_0f7a4 : GoodIn wsX7_coupleOf wsJ6_bitCount_0f7a4 := goodIn_r _ [66, 67, 68, 69] (by decide +kernel) (by decide +kernel)
set_option maxRecDepth 20000 in
theorem gX7_coupleOf_J6_bitCount_0f7a4 : GoodIn wsX7_coupleOf (va_wsS RX7 202 yJ6_bitCount_0f7a4 wsJ6_bitCount_0f7a4) := goodIn_app (goodIn_of _ (by decide +kernel)) ggX7_coupleOf_J6_bitCount_0f7a4
theorem dX7_coupleOf_0 : decode cX7_coupleOf 0 = .ok (.aload_n 0, 1) := by decide +kernel
theorem dX7_coupleOf_1 : decode cX7_coupleOf 1 = .ok (.getfield 10, 3) := by decide +kernel
theorem dX7_coupleOf_4 : decode cX7_coupleOf 4 = .ok (.iload_n 1, 1) := by decide +kernel
theorem dX7_coupleOf_5 : decode cX7_coupleOf 5 = .ok (.invokevirtual 91, 3) := by decide +kernel
theorem dX7_coupleOf_8 : decode cX7_coupleOf 8 = .ok (.ifCond .ne 13, 3) := by decide +kernel
theorem dX7_coupleOf_11 : decode cX7_coupleOf 11 = .ok (.new 63, 3) := by decide +kernel
theorem dX7_coupleOf_14 : decode cX7_coupleOf 14 = .ok (.dup, 1) := by decide +kernel
theorem dX7_coupleOf_15 : decode cX7_coupleOf 15 = .ok (.ldc 94, 2) := by decide +kernel
theorem dX7_coupleOf_17 : decode cX7_coupleOf 17 = .ok (.invokespecial 67, 3) := by decide +kernel
theorem dX7_coupleOf_20 : decode cX7_coupleOf 20 = .ok (.athrow, 1) := by decide +kernel
theorem dX7_coupleOf_21 : decode cX7_coupleOf 21 = .ok (.iload_n 2, 1) := by decide +kernel
theorem dX7_coupleOf_22 : decode cX7_coupleOf 22 = .ok (.tableswitch 102 0 5 #[38, 47, 56, 72, 81, 90], 38) := by decide +kernel
theorem dX7_coupleOf_60 : decode cX7_coupleOf 60 = .ok (.aload_n 0, 1) := by decide +kernel
theorem dX7_coupleOf_61 : decode cX7_coupleOf 61 = .ok (.getfield 10, 3) := by decide +kernel
theorem dX7_coupleOf_64 : decode cX7_coupleOf 64 = .ok (.iload_n 1, 1) := by decide +kernel
theorem dX7_coupleOf_65 : decode cX7_coupleOf 65 = .ok (.invokevirtual 212, 3) := by decide +kernel
theorem dX7_coupleOf_68 : decode cX7_coupleOf 68 = .ok (.ireturn, 1) := by decide +kernel
theorem dX7_coupleOf_69 : decode cX7_coupleOf 69 = .ok (.aload_n 0, 1) := by decide +kernel
theorem dX7_coupleOf_70 : decode cX7_coupleOf 70 = .ok (.getfield 10, 3) := by decide +kernel
theorem dX7_coupleOf_73 : decode cX7_coupleOf 73 = .ok (.iload_n 1, 1) := by decide +kernel
theorem dX7_coupleOf_74 : decode cX7_coupleOf 74 = .ok (.invokevirtual 215, 3) := by decide +kernel
theorem dX7_coupleOf_77 : decode cX7_coupleOf 77 = .ok (.ireturn, 1) := by decide +kernel
theorem dX7_coupleOf_78 : decode cX7_coupleOf 78 = .ok (.aload_n 0, 1) := by decide +kernel
theorem dX7_coupleOf_79 : decode cX7_coupleOf 79 = .ok (.getfield 10, 3) := by decide +kernel
theorem dX7_coupleOf_82 : decode cX7_coupleOf 82 = .ok (.aload_n 0, 1) := by decide +kernel
theorem dX7_coupleOf_83 : decode cX7_coupleOf 83 = .ok (.getfield 10, 3) := by decide +kernel
theorem dX7_coupleOf_86 : decode cX7_coupleOf 86 = .ok (.iload_n 1, 1) := by decide +kernel
theorem dX7_coupleOf_87 : decode cX7_coupleOf 87 = .ok (.invokevirtual 212, 3) := by decide +kernel
theorem dX7_coupleOf_90 : decode cX7_coupleOf 90 = .ok (.invokevirtual 182, 3) := by decide +kernel
theorem dX7_coupleOf_93 : decode cX7_coupleOf 93 = .ok (.ireturn, 1) := by decide +kernel
theorem dX7_coupleOf_94 : decode cX7_coupleOf 94 = .ok (.aload_n 0, 1) := by decide +kernel
theorem dX7_coupleOf_95 : decode cX7_coupleOf 95 = .ok (.getfield 10, 3) := by decide +kernel
theorem dX7_coupleOf_98 : decode cX7_coupleOf 98 = .ok (.iload_n 1, 1) := by decide +kernel
theorem dX7_coupleOf_99 : decode cX7_coupleOf 99 = .ok (.invokevirtual 218, 3) := by decide +kernel
theorem dX7_coupleOf_102 : decode cX7_coupleOf 102 = .ok (.ireturn, 1) := by decide +kernel
theorem dX7_coupleOf_103 : decode cX7_coupleOf 103 = .ok (.aload_n 0, 1) := by decide +kernel
theorem dX7_coupleOf_104 : decode cX7_coupleOf 104 = .ok (.getfield 10, 3) := by decide +kernel
theorem dX7_coupleOf_107 : decode cX7_coupleOf 107 = .ok (.iload_n 1, 1) := by decide +kernel
theorem dX7_coupleOf_108 : decode cX7_coupleOf 108 = .ok (.invokevirtual 221, 3) := by decide +kernel
theorem dX7_coupleOf_111 : decode cX7_coupleOf 111 = .ok (.ireturn, 1) := by decide +kernel
theorem dX7_coupleOf_112 : decode cX7_coupleOf 112 = .ok (.aload_n 0, 1) := by decide +kernel
theorem dX7_coupleOf_113 : decode cX7_coupleOf 113 = .ok (.getfield 10, 3) := by decide +kernel
theorem dX7_coupleOf_116 : decode cX7_coupleOf 116 = .ok (.iload_n 1, 1) := by decide +kernel
theorem dX7_coupleOf_117 : decode cX7_coupleOf 117 = .ok (.invokestatic 224, 3) := by decide +kernel
theorem dX7_coupleOf_120 : decode cX7_coupleOf 120 = .ok (.invokestatic 202, 3) := by decide +kernel
theorem dX7_coupleOf_123 : decode cX7_coupleOf 123 = .ok (.ireturn, 1) := by decide +kernel
theorem dX7_coupleOf_124 : decode cX7_coupleOf 124 = .ok (.new 83, 3) := by decide +kernel
theorem dX7_coupleOf_127 : decode cX7_coupleOf 127 = .ok (.dup, 1) := by decide +kernel
theorem dX7_coupleOf_128 : decode cX7_coupleOf 128 = .ok (.ldc 227, 2) := by decide +kernel
theorem dX7_coupleOf_130 : decode cX7_coupleOf 130 = .ok (.invokespecial 87, 3) := by decide +kernel
theorem dX7_coupleOf_133 : decode cX7_coupleOf 133 = .ok (.athrow, 1) := by decide +kernel
set_option maxRecDepth 20000 in
theorem ggX7_at_X7_isRow : GoodIn wsX7_at wsX7_isRow := goodIn_r _ [9] (by decide +kernel) (by decide +kernel)
set_option maxRecDepth 20000 in
theorem gX7_at_X7_isRow : GoodIn wsX7_at (va_wsS RX7 59 yX7_isRow wsX7_isRow) := goodIn_app (goodIn_of _ (by decide +kernel)) ggX7_at_X7_isRow
set_option maxRecDepth 20000 in
theorem ggX7_at_X5_personAt : GoodIn wsX7_at wsX5_personAt := goodIn_r _ [14, 15, 16, 17, 18, 13, 19, 20, 29, 30, 31, 32, 33, 34, 35, 36, 37, 38] (by decide +kernel) (by decide +kernel)
set_option maxRecDepth 20000 in
theorem gX7_at_X5_personAt : GoodIn wsX7_at (wsV RX7 231 RX5 yX5_personAt wsX5_personAt) := goodIn_app (goodIn_of _ (by decide +kernel)) ggX7_at_X5_personAt
theorem dX7_at_0 : decode cX7_at 0 = .ok (.iload_n 1, 1) := by decide +kernel
theorem dX7_at_1 : decode cX7_at 1 = .ok (.invokestatic 59, 3) := by decide +kernel
theorem dX7_at_4 : decode cX7_at 4 = .ok (.ifCond .ne 13, 3) := by decide +kernel
theorem dX7_at_7 : decode cX7_at 7 = .ok (.new 63, 3) := by decide +kernel
theorem dX7_at_10 : decode cX7_at 10 = .ok (.dup, 1) := by decide +kernel
theorem dX7_at_11 : decode cX7_at 11 = .ok (.ldc 65, 2) := by decide +kernel
theorem dX7_at_13 : decode cX7_at 13 = .ok (.invokespecial 67, 3) := by decide +kernel
theorem dX7_at_16 : decode cX7_at 16 = .ok (.athrow, 1) := by decide +kernel
theorem dX7_at_17 : decode cX7_at 17 = .ok (.iload_n 2, 1) := by decide +kernel
theorem dX7_at_18 : decode cX7_at 18 = .ok (.ifCond .ge 13, 3) := by decide +kernel
theorem dX7_at_21 : decode cX7_at 21 = .ok (.new 83, 3) := by decide +kernel
theorem dX7_at_24 : decode cX7_at 24 = .ok (.dup, 1) := by decide +kernel
theorem dX7_at_25 : decode cX7_at 25 = .ok (.ldc 229, 2) := by decide +kernel
theorem dX7_at_27 : decode cX7_at 27 = .ok (.invokespecial 87, 3) := by decide +kernel
theorem dX7_at_30 : decode cX7_at 30 = .ok (.athrow, 1) := by decide +kernel
theorem dX7_at_31 : decode cX7_at 31 = .ok (.aload_n 0, 1) := by decide +kernel
theorem dX7_at_32 : decode cX7_at 32 = .ok (.getfield 10, 3) := by decide +kernel
theorem dX7_at_35 : decode cX7_at 35 = .ok (.iload_n 1, 1) := by decide +kernel
theorem dX7_at_36 : decode cX7_at 36 = .ok (.iload_n 2, 1) := by decide +kernel
theorem dX7_at_37 : decode cX7_at 37 = .ok (.invokevirtual 231, 3) := by decide +kernel
theorem dX7_at_40 : decode cX7_at 40 = .ok (.ireturn, 1) := by decide +kernel
set_option maxRecDepth 20000 in
theorem ggX7_crossings_X7_isRow : GoodIn wsX7_crossings wsX7_isRow := goodIn_r _ [10] (by decide +kernel) (by decide +kernel)
set_option maxRecDepth 20000 in
theorem gX7_crossings_X7_isRow : GoodIn wsX7_crossings (va_wsS RX7 59 yX7_isRow wsX7_isRow) := goodIn_app (goodIn_of _ (by decide +kernel)) ggX7_crossings_X7_isRow
set_option maxRecDepth 20000 in
theorem ggX7_crossings_X2_collect : GoodIn wsX7_crossings wsX2_collect := goodIn_r _ [15, 16, 17, 18, 19, 20, 21, 22, 23, 24, 25, 26, 27, 28, 29, 30, 31, 32, 33, 34, 35, 36, 37, 38, 39, 40, 41, 42, 43, 44, 45, 46, 47, 48, 49, 50, 51, 52, 53, 54, 55, 56, 57, 58, 59, 60, 81, 82, 83, 84, 85, 86, 87, 88, 89, 90, 91, 92, 93] (by decide +kernel) (by decide +kernel)
set_option maxRecDepth 20000 in
theorem gX7_crossings_X2_collect : GoodIn wsX7_crossings (wsV RX7 236 RX2 yX2_collect wsX2_collect) := goodIn_app (goodIn_of _ (by decide +kernel)) ggX7_crossings_X2_collect
set_option maxRecDepth 20000 in
theorem ggX7_crossings_X2_crossedPairs : GoodIn wsX7_crossings wsX2_crossedPairs := goodIn_r _ [64, 16, 17, 81, 82, 83] (by decide +kernel) (by decide +kernel)
set_option maxRecDepth 20000 in
theorem gX7_crossings_X2_crossedPairs : GoodIn wsX7_crossings (wsV RX7 239 RX2 yX2_crossedPairs wsX2_crossedPairs) := goodIn_app (goodIn_of _ (by decide +kernel)) ggX7_crossings_X2_crossedPairs
set_option maxRecDepth 20000 in
theorem ggX7_crossings_X2_crossedOneByOne : GoodIn wsX7_crossings wsX2_crossedOneByOne := goodIn_r _ [68, 16, 17, 18, 69, 70, 71, 14, 72, 81, 82, 83] (by decide +kernel) (by decide +kernel)
set_option maxRecDepth 20000 in
theorem gX7_crossings_X2_crossedOneByOne : GoodIn wsX7_crossings (wsV RX7 242 RX2 yX2_crossedOneByOne wsX2_crossedOneByOne) := goodIn_app (goodIn_of _ (by decide +kernel)) ggX7_crossings_X2_crossedOneByOne
theorem dX7_crossings_0 : decode cX7_crossings 0 = .ok (.iload_n 1, 1) := by decide +kernel
theorem dX7_crossings_1 : decode cX7_crossings 1 = .ok (.invokestatic 59, 3) := by decide +kernel
theorem dX7_crossings_4 : decode cX7_crossings 4 = .ok (.ifCond .ne 13, 3) := by decide +kernel
theorem dX7_crossings_7 : decode cX7_crossings 7 = .ok (.new 63, 3) := by decide +kernel
theorem dX7_crossings_10 : decode cX7_crossings 10 = .ok (.dup, 1) := by decide +kernel
theorem dX7_crossings_11 : decode cX7_crossings 11 = .ok (.ldc 65, 2) := by decide +kernel
theorem dX7_crossings_13 : decode cX7_crossings 13 = .ok (.invokespecial 67, 3) := by decide +kernel
theorem dX7_crossings_16 : decode cX7_crossings 16 = .ok (.athrow, 1) := by decide +kernel
theorem dX7_crossings_17 : decode cX7_crossings 17 = .ok (.iload_n 2, 1) := by decide +kernel
theorem dX7_crossings_18 : decode cX7_crossings 18 = .ok (.ifCond .eq 18, 3) := by decide +kernel
theorem dX7_crossings_21 : decode cX7_crossings 21 = .ok (.iload_n 2, 1) := by decide +kernel
theorem dX7_crossings_22 : decode cX7_crossings 22 = .ok (.iconst 1, 1) := by decide +kernel
theorem dX7_crossings_23 : decode cX7_crossings 23 = .ok (.if_icmp .eq 13, 3) := by decide +kernel
theorem dX7_crossings_26 : decode cX7_crossings 26 = .ok (.new 83, 3) := by decide +kernel
theorem dX7_crossings_29 : decode cX7_crossings 29 = .ok (.dup, 1) := by decide +kernel
theorem dX7_crossings_30 : decode cX7_crossings 30 = .ok (.ldc 234, 2) := by decide +kernel
theorem dX7_crossings_32 : decode cX7_crossings 32 = .ok (.invokespecial 87, 3) := by decide +kernel
theorem dX7_crossings_35 : decode cX7_crossings 35 = .ok (.athrow, 1) := by decide +kernel
theorem dX7_crossings_36 : decode cX7_crossings 36 = .ok (.aload_n 0, 1) := by decide +kernel
theorem dX7_crossings_37 : decode cX7_crossings 37 = .ok (.getfield 41, 3) := by decide +kernel
theorem dX7_crossings_40 : decode cX7_crossings 40 = .ok (.aload_n 0, 1) := by decide +kernel
theorem dX7_crossings_41 : decode cX7_crossings 41 = .ok (.getfield 10, 3) := by decide +kernel
theorem dX7_crossings_44 : decode cX7_crossings 44 = .ok (.iload_n 1, 1) := by decide +kernel
theorem dX7_crossings_45 : decode cX7_crossings 45 = .ok (.invokevirtual 236, 3) := by decide +kernel
theorem dX7_crossings_48 : decode cX7_crossings 48 = .ok (.iload_n 2, 1) := by decide +kernel
theorem dX7_crossings_49 : decode cX7_crossings 49 = .ok (.ifCond .ne 13, 3) := by decide +kernel
theorem dX7_crossings_52 : decode cX7_crossings 52 = .ok (.aload_n 0, 1) := by decide +kernel
theorem dX7_crossings_53 : decode cX7_crossings 53 = .ok (.getfield 41, 3) := by decide +kernel
theorem dX7_crossings_56 : decode cX7_crossings 56 = .ok (.invokevirtual 239, 3) := by decide +kernel
theorem dX7_crossings_59 : decode cX7_crossings 59 = .ok (.goto 10, 3) := by decide +kernel
theorem dX7_crossings_62 : decode cX7_crossings 62 = .ok (.aload_n 0, 1) := by decide +kernel
theorem dX7_crossings_63 : decode cX7_crossings 63 = .ok (.getfield 41, 3) := by decide +kernel
theorem dX7_crossings_66 : decode cX7_crossings 66 = .ok (.invokevirtual 242, 3) := by decide +kernel
theorem dX7_crossings_69 : decode cX7_crossings 69 = .ok (.ireturn, 1) := by decide +kernel
set_option maxRecDepth 20000 in
theorem ggX7_count_X5_people : GoodIn wsX7_count wsX5_people := goodIn_r _ [9, 10, 140, 141, 142, 143, 144, 145, 146, 147, 148, 149] (by decide +kernel) (by decide +kernel)
set_option maxRecDepth 20000 in
theorem gX7_count_X5_people : GoodIn wsX7_count (wsV RX7 169 RX5 yX5_people wsX5_people) := goodIn_app (goodIn_of _ (by decide +kernel)) ggX7_count_X5_people
set_option maxRecDepth 20000 in
theorem ggX7_count_X5_couples : GoodIn wsX7_count wsX5_couples := goodIn_r _ [14, 15, 140, 141, 142, 143, 144, 145, 146, 147, 148, 149] (by decide +kernel) (by decide +kernel)
set_option maxRecDepth 20000 in
theorem gX7_count_X5_couples : GoodIn wsX7_count (wsV RX7 245 RX5 yX5_couples wsX5_couples) := goodIn_app (goodIn_of _ (by decide +kernel)) ggX7_count_X5_couples
set_option maxRecDepth 20000 in
theorem ggX7_count_X5_lines : GoodIn wsX7_count wsX5_lines := goodIn_r _ [19, 10, 20, 21, 22, 8, 23, 24, 140, 141, 142, 143, 144, 145, 146, 147, 148, 149] (by decide +kernel) (by decide +kernel)
set_option maxRecDepth 20000 in
theorem gX7_count_X5_lines : GoodIn wsX7_count (wsV RX7 248 RX5 yX5_lines wsX5_lines) := goodIn_app (goodIn_of _ (by decide +kernel)) ggX7_count_X5_lines
set_option maxRecDepth 20000 in
theorem ggX7_count_X7_allCrossings : GoodIn wsX7_count wsX7_allCrossings := goodIn_r _ [29, 30, 3, 31, 32, 33, 34, 35, 36, 37, 38, 39, 40, 41, 8, 42, 43, 44, 45, 46, 47, 48, 49, 50, 51, 52, 53, 54, 55, 56, 57, 24, 58, 59, 60, 61, 10, 62, 63, 64, 65, 66, 67, 68, 69, 70, 71, 15, 72, 73, 74, 75, 76, 77, 78, 79, 80, 132, 133, 134, 135, 136, 137, 138, 139, 150, 151, 152, 140, 141, 142, 143, 144, 145, 146, 147, 148, 149] (by decide +kernel) (by decide +kernel)
set_option maxRecDepth 20000 in
theorem gX7_count_X7_allCrossings : GoodIn wsX7_count (wsV RX7 105 RX7 yX7_allCrossings wsX7_allCrossings) := goodIn_app (goodIn_of _ (by decide +kernel)) ggX7_count_X7_allCrossings
set_option maxRecDepth 20000 in
theorem ggX7_count_X5_bentLines : GoodIn wsX7_count wsX5_bentLines := goodIn_r _ [84, 10, 24, 76, 85, 51, 52, 8, 53, 54, 55, 56, 57, 58, 59, 60, 61, 62, 63, 64, 65, 66, 67, 68, 69, 70, 71, 15, 72, 73, 74, 75, 140, 141, 142, 143, 144, 145, 146, 147, 148, 149] (by decide +kernel) (by decide +kernel)
set_option maxRecDepth 20000 in
theorem gX7_count_X5_bentLines : GoodIn wsX7_count (wsV RX7 250 RX5 yX5_bentLines wsX5_bentLines) := goodIn_app (goodIn_of _ (by decide +kernel)) ggX7_count_X5_bentLines
set_option maxRecDepth 20000 in
theorem ggX7_count_X5_doubles : GoodIn wsX7_count wsX5_doubles := goodIn_r _ [89, 10, 90, 91, 92, 8, 93, 94, 95, 96, 97, 15, 66, 67, 140, 141, 142, 143, 144, 145, 146, 147, 148, 149] (by decide +kernel) (by decide +kernel)
set_option maxRecDepth 20000 in
theorem gX7_count_X5_doubles : GoodIn wsX7_count (wsV RX7 253 RX5 yX5_doubles wsX5_doubles) := goodIn_app (goodIn_of _ (by decide +kernel)) ggX7_count_X5_doubles
set_option maxRecDepth 20000 in
theorem ggX7_count_X0_kinCouples : GoodIn wsX7_count wsX0_kinCouples := goodIn_r _ [101, 102, 12, 13, 8, 14, 15, 103, 104, 100, 105, 106, 107, 108, 109, 66, 68, 69, 70, 71, 110, 111, 112, 113, 114, 115, 116, 55, 56, 57, 24, 58, 59, 60, 61, 10, 117, 118, 119, 120, 67, 140, 141, 142, 143, 144, 145, 146, 147, 148, 149] (by decide +kernel) (by decide +kernel)
set_option maxRecDepth 20000 in
theorem gX7_count_X0_kinCouples : GoodIn wsX7_count (va_wsS RX7 256 yX0_kinCouples wsX0_kinCouples) := goodIn_app (goodIn_of _ (by decide +kernel)) ggX7_count_X0_kinCouples
set_option maxRecDepth 20000 in
theorem ggX7_count_X5_refused : GoodIn wsX7_count wsX5_refused := goodIn_r _ [124, 125, 140, 141, 142, 143, 144, 145, 146, 147, 148, 149] (by decide +kernel) (by decide +kernel)
set_option maxRecDepth 20000 in
theorem gX7_count_X5_refused : GoodIn wsX7_count (wsV RX7 260 RX5 yX5_refused wsX5_refused) := goodIn_app (goodIn_of _ (by decide +kernel)) ggX7_count_X5_refused
set_option maxRecDepth 20000 in
theorem ggX7_count_X4_size : GoodIn wsX7_count wsX4_size := goodIn_r _ [130, 131, 153, 154, 155] (by decide +kernel) (by decide +kernel)
set_option maxRecDepth 20000 in
theorem gX7_count_X4_size : GoodIn wsX7_count (wsV RX7 174 RX4 yX4_size wsX4_size) := goodIn_app (goodIn_of _ (by decide +kernel)) ggX7_count_X4_size
theorem dX7_count_0 : decode cX7_count 0 = .ok (.iload_n 1, 1) := by decide +kernel
theorem dX7_count_1 : decode cX7_count 1 = .ok (.tableswitch 120 0 8 #[51, 59, 67, 75, 80, 88, 96, 104, 112], 51) := by decide +kernel
theorem dX7_count_52 : decode cX7_count 52 = .ok (.aload_n 0, 1) := by decide +kernel
theorem dX7_count_53 : decode cX7_count 53 = .ok (.getfield 10, 3) := by decide +kernel
theorem dX7_count_56 : decode cX7_count 56 = .ok (.invokevirtual 169, 3) := by decide +kernel
theorem dX7_count_59 : decode cX7_count 59 = .ok (.ireturn, 1) := by decide +kernel
theorem dX7_count_60 : decode cX7_count 60 = .ok (.aload_n 0, 1) := by decide +kernel
theorem dX7_count_61 : decode cX7_count 61 = .ok (.getfield 10, 3) := by decide +kernel
theorem dX7_count_64 : decode cX7_count 64 = .ok (.invokevirtual 245, 3) := by decide +kernel
theorem dX7_count_67 : decode cX7_count 67 = .ok (.ireturn, 1) := by decide +kernel
theorem dX7_count_68 : decode cX7_count 68 = .ok (.aload_n 0, 1) := by decide +kernel
theorem dX7_count_69 : decode cX7_count 69 = .ok (.getfield 10, 3) := by decide +kernel
theorem dX7_count_72 : decode cX7_count 72 = .ok (.invokevirtual 248, 3) := by decide +kernel
theorem dX7_count_75 : decode cX7_count 75 = .ok (.ireturn, 1) := by decide +kernel
theorem dX7_count_76 : decode cX7_count 76 = .ok (.aload_n 0, 1) := by decide +kernel
theorem dX7_count_77 : decode cX7_count 77 = .ok (.invokevirtual 105, 3) := by decide +kernel
theorem dX7_count_80 : decode cX7_count 80 = .ok (.ireturn, 1) := by decide +kernel
theorem dX7_count_81 : decode cX7_count 81 = .ok (.aload_n 0, 1) := by decide +kernel
theorem dX7_count_82 : decode cX7_count 82 = .ok (.getfield 10, 3) := by decide +kernel
theorem dX7_count_85 : decode cX7_count 85 = .ok (.invokevirtual 250, 3) := by decide +kernel
theorem dX7_count_88 : decode cX7_count 88 = .ok (.ireturn, 1) := by decide +kernel
theorem dX7_count_89 : decode cX7_count 89 = .ok (.aload_n 0, 1) := by decide +kernel
theorem dX7_count_90 : decode cX7_count 90 = .ok (.getfield 10, 3) := by decide +kernel
theorem dX7_count_93 : decode cX7_count 93 = .ok (.invokevirtual 253, 3) := by decide +kernel
theorem dX7_count_96 : decode cX7_count 96 = .ok (.ireturn, 1) := by decide +kernel
theorem dX7_count_97 : decode cX7_count 97 = .ok (.aload_n 0, 1) := by decide +kernel
theorem dX7_count_98 : decode cX7_count 98 = .ok (.getfield 10, 3) := by decide +kernel
theorem dX7_count_101 : decode cX7_count 101 = .ok (.invokestatic 256, 3) := by decide +kernel
theorem dX7_count_104 : decode cX7_count 104 = .ok (.ireturn, 1) := by decide +kernel
theorem dX7_count_105 : decode cX7_count 105 = .ok (.aload_n 0, 1) := by decide +kernel
theorem dX7_count_106 : decode cX7_count 106 = .ok (.getfield 10, 3) := by decide +kernel
theorem dX7_count_109 : decode cX7_count 109 = .ok (.invokevirtual 260, 3) := by decide +kernel
theorem dX7_count_112 : decode cX7_count 112 = .ok (.ireturn, 1) := by decide +kernel
theorem dX7_count_113 : decode cX7_count 113 = .ok (.aload_n 0, 1) := by decide +kernel
theorem dX7_count_114 : decode cX7_count 114 = .ok (.getfield 27, 3) := by decide +kernel
theorem dX7_count_117 : decode cX7_count 117 = .ok (.invokevirtual 174, 3) := by decide +kernel
theorem dX7_count_120 : decode cX7_count 120 = .ok (.ireturn, 1) := by decide +kernel
theorem dX7_count_121 : decode cX7_count 121 = .ok (.new 83, 3) := by decide +kernel
theorem dX7_count_124 : decode cX7_count 124 = .ok (.dup, 1) := by decide +kernel
theorem dX7_count_125 : decode cX7_count 125 = .ok (.ldc_w 263, 3) := by decide +kernel
theorem dX7_count_128 : decode cX7_count 128 = .ok (.invokespecial 87, 3) := by decide +kernel
theorem dX7_count_131 : decode cX7_count 131 = .ok (.athrow, 1) := by decide +kernel
set_option maxRecDepth 20000 in
theorem ggX7_least_X7_isRow : GoodIn wsX7_least wsX7_isRow := goodIn_r _ [10] (by decide +kernel) (by decide +kernel)
set_option maxRecDepth 20000 in
theorem gX7_least_X7_isRow : GoodIn wsX7_least (va_wsS RX7 59 yX7_isRow wsX7_isRow) := goodIn_app (goodIn_of _ (by decide +kernel)) ggX7_least_X7_isRow
set_option maxRecDepth 20000 in
theorem ggX7_least_X3_prepare : GoodIn wsX7_least wsX3_prepare := goodIn_r _ [15, 16, 17, 18, 14, 19, 20, 21, 22, 23, 24, 25, 26, 27, 28, 29, 30, 31, 32, 33, 34, 35, 36, 37, 38, 39, 40, 41, 42, 43, 44, 45, 46, 47, 48, 49, 50, 51, 52, 53, 54, 55, 56, 57, 58, 59, 60, 61, 62, 63, 64, 65, 66, 67, 68, 69, 70, 71, 72, 73, 74, 75, 76, 77, 78, 79, 80, 81, 82, 83, 84, 85, 86, 87, 88, 89, 90, 91, 92, 93, 94, 95, 96, 97, 98, 99, 100, 101, 102, 103, 104, 155, 156, 157, 158, 159, 160, 161, 162, 163, 164, 165, 166, 167, 168, 169, 170, 171, 172, 173, 174, 175, 176, 177] (by decide +kernel) (by decide +kernel)
set_option maxRecDepth 20000 in
theorem gX7_least_X3_prepare : GoodIn wsX7_least (wsV RX7 117 RX3 yX3_prepare wsX3_prepare) := goodIn_app (goodIn_of _ (by decide +kernel)) ggX7_least_X3_prepare
set_option maxRecDepth 20000 in
theorem ggX7_least_X3_leastByAllOrders : GoodIn wsX7_least wsX3_leastByAllOrders := goodIn_r _ [108, 109, 20, 21, 110, 111, 112, 113, 114, 115, 116, 117, 14, 118, 41, 119, 120, 121, 122, 123, 124, 125, 126, 127, 128, 129, 130, 71, 90, 91, 131, 104, 132, 133, 134, 135, 136, 137, 138, 139, 155, 156, 157, 158, 159, 160, 161, 162, 163, 164, 165, 166, 167] (by decide +kernel) (by decide +kernel)
set_option maxRecDepth 20000 in
theorem gX7_least_X3_leastByAllOrders : GoodIn wsX7_least (wsV RX7 121 RX3 yX3_leastByAllOrders wsX3_leastByAllOrders) := goodIn_app (goodIn_of _ (by decide +kernel)) ggX7_least_X3_leastByAllOrders
set_option maxRecDepth 20000 in
theorem ggX7_least_X3_leastByLaying : GoodIn wsX7_least wsX3_leastByLaying := goodIn_r _ [143, 109, 144, 145, 14, 146, 20, 115, 116, 117, 118, 21, 41, 119, 120, 121, 122, 123, 124, 125, 126, 127, 128, 129, 130, 71, 90, 91, 131, 104, 136, 137, 138, 139, 155, 156, 157, 158, 159, 160, 161, 162, 163, 164, 165, 166, 167] (by decide +kernel) (by decide +kernel)
set_option maxRecDepth 20000 in
theorem gX7_least_X3_leastByLaying : GoodIn wsX7_least (wsV RX7 265 RX3 yX3_leastByLaying wsX3_leastByLaying) := goodIn_app (goodIn_of _ (by decide +kernel)) ggX7_least_X3_leastByLaying
theorem dX7_least_0 : decode cX7_least 0 = .ok (.iload_n 1, 1) := by decide +kernel
theorem dX7_least_1 : decode cX7_least 1 = .ok (.invokestatic 59, 3) := by decide +kernel
theorem dX7_least_4 : decode cX7_least 4 = .ok (.ifCond .ne 13, 3) := by decide +kernel
theorem dX7_least_7 : decode cX7_least 7 = .ok (.new 63, 3) := by decide +kernel
theorem dX7_least_10 : decode cX7_least 10 = .ok (.dup, 1) := by decide +kernel
theorem dX7_least_11 : decode cX7_least 11 = .ok (.ldc 65, 2) := by decide +kernel
theorem dX7_least_13 : decode cX7_least 13 = .ok (.invokespecial 67, 3) := by decide +kernel
theorem dX7_least_16 : decode cX7_least 16 = .ok (.athrow, 1) := by decide +kernel
theorem dX7_least_17 : decode cX7_least 17 = .ok (.iload_n 2, 1) := by decide +kernel
theorem dX7_least_18 : decode cX7_least 18 = .ok (.ifCond .eq 18, 3) := by decide +kernel
theorem dX7_least_21 : decode cX7_least 21 = .ok (.iload_n 2, 1) := by decide +kernel
theorem dX7_least_22 : decode cX7_least 22 = .ok (.iconst 1, 1) := by decide +kernel
theorem dX7_least_23 : decode cX7_least 23 = .ok (.if_icmp .eq 13, 3) := by decide +kernel
theorem dX7_least_26 : decode cX7_least 26 = .ok (.new 83, 3) := by decide +kernel
theorem dX7_least_29 : decode cX7_least 29 = .ok (.dup, 1) := by decide +kernel
theorem dX7_least_30 : decode cX7_least 30 = .ok (.ldc 234, 2) := by decide +kernel
theorem dX7_least_32 : decode cX7_least 32 = .ok (.invokespecial 87, 3) := by decide +kernel
theorem dX7_least_35 : decode cX7_least 35 = .ok (.athrow, 1) := by decide +kernel
theorem dX7_least_36 : decode cX7_least 36 = .ok (.aload_n 0, 1) := by decide +kernel
theorem dX7_least_37 : decode cX7_least 37 = .ok (.getfield 55, 3) := by decide +kernel
theorem dX7_least_40 : decode cX7_least 40 = .ok (.aload_n 0, 1) := by decide +kernel
theorem dX7_least_41 : decode cX7_least 41 = .ok (.getfield 10, 3) := by decide +kernel
theorem dX7_least_44 : decode cX7_least 44 = .ok (.iload_n 1, 1) := by decide +kernel
theorem dX7_least_45 : decode cX7_least 45 = .ok (.invokevirtual 117, 3) := by decide +kernel
theorem dX7_least_48 : decode cX7_least 48 = .ok (.iload_n 2, 1) := by decide +kernel
theorem dX7_least_49 : decode cX7_least 49 = .ok (.ifCond .ne 13, 3) := by decide +kernel
theorem dX7_least_52 : decode cX7_least 52 = .ok (.aload_n 0, 1) := by decide +kernel
theorem dX7_least_53 : decode cX7_least 53 = .ok (.getfield 55, 3) := by decide +kernel
theorem dX7_least_56 : decode cX7_least 56 = .ok (.invokevirtual 121, 3) := by decide +kernel
theorem dX7_least_59 : decode cX7_least 59 = .ok (.goto 10, 3) := by decide +kernel
theorem dX7_least_62 : decode cX7_least 62 = .ok (.aload_n 0, 1) := by decide +kernel
theorem dX7_least_63 : decode cX7_least 63 = .ok (.getfield 55, 3) := by decide +kernel
theorem dX7_least_66 : decode cX7_least 66 = .ok (.invokevirtual 265, 3) := by decide +kernel
theorem dX7_least_69 : decode cX7_least 69 = .ok (.ireturn, 1) := by decide +kernel
set_option maxRecDepth 20000 in
theorem ggX7_bestSwap_X7_allCrossings : GoodIn wsX7_bestSwap wsX7_allCrossings := goodIn_r _ [6, 7, 1, 8, 9, 10, 11, 12, 13, 14, 15, 16, 17, 18, 19, 20, 21, 22, 23, 24, 25, 26, 27, 28, 29, 30, 31, 32, 33, 34, 35, 36, 37, 38, 39, 40, 41, 42, 43, 44, 45, 46, 47, 48, 49, 50, 51, 52, 53, 54, 55, 56, 57, 58, 59, 60, 61, 72, 73, 74, 75, 76, 77, 78, 79, 80, 81, 82, 83, 84, 85, 86, 87, 88, 89, 90, 91, 92] (by decide +kernel) (by decide +kernel)
set_option maxRecDepth 20000 in
theorem gX7_bestSwap_X7_allCrossings : GoodIn wsX7_bestSwap (wsV RX7 105 RX7 yX7_allCrossings wsX7_allCrossings) := goodIn_app (goodIn_of _ (by decide +kernel)) ggX7_bestSwap_X7_allCrossings
set_option maxRecDepth 20000 in
theorem ggX7_bestSwap_X5_sizeOf : GoodIn wsX7_bestSwap wsX5_sizeOf := goodIn_r _ [20, 21, 83, 84, 85, 86, 87, 88, 89, 90, 91, 92] (by decide +kernel) (by decide +kernel)
set_option maxRecDepth 20000 in
theorem gX7_bestSwap_X5_sizeOf : GoodIn wsX7_bestSwap (wsV RX7 100 RX5 yX5_sizeOf wsX5_sizeOf) := goodIn_app (goodIn_of _ (by decide +kernel)) ggX7_bestSwap_X5_sizeOf
set_option maxRecDepth 20000 in
theorem ggX7_bestSwap_X5_exchange : GoodIn wsX7_bestSwap wsX5_exchange := goodIn_r _ [66, 67, 23, 24, 19, 25, 26, 27, 17, 18, 20, 21, 68, 69, 70, 71, 57, 37, 38, 39, 40, 41, 83, 84, 85, 86, 87, 88, 89, 90, 91, 92] (by decide +kernel) (by decide +kernel)
set_option maxRecDepth 20000 in
theorem gX7_bestSwap_X5_exchange : GoodIn wsX7_bestSwap (wsV RX7 109 RX5 yX5_exchange wsX5_exchange) := goodIn_app (goodIn_of _ (by decide +kernel)) ggX7_bestSwap_X5_exchange
theorem dX7_bestSwap_0 : decode cX7_bestSwap 0 = .ok (.aload_n 0, 1) := by decide +kernel
theorem dX7_bestSwap_1 : decode cX7_bestSwap 1 = .ok (.invokevirtual 105, 3) := by decide +kernel
theorem dX7_bestSwap_4 : decode cX7_bestSwap 4 = .ok (.istore_n 1, 1) := by decide +kernel
theorem dX7_bestSwap_5 : decode cX7_bestSwap 5 = .ok (.iconst (-1), 1) := by decide +kernel
theorem dX7_bestSwap_6 : decode cX7_bestSwap 6 = .ok (.istore_n 2, 1) := by decide +kernel
theorem dX7_bestSwap_7 : decode cX7_bestSwap 7 = .ok (.iconst 0, 1) := by decide +kernel
theorem dX7_bestSwap_8 : decode cX7_bestSwap 8 = .ok (.istore_n 3, 1) := by decide +kernel
theorem dX7_bestSwap_9 : decode cX7_bestSwap 9 = .ok (.iload_n 3, 1) := by decide +kernel
theorem dX7_bestSwap_10 : decode cX7_bestSwap 10 = .ok (.iconst 4, 1) := by decide +kernel
theorem dX7_bestSwap_11 : decode cX7_bestSwap 11 = .ok (.if_icmp .ge 76, 3) := by decide +kernel
theorem dX7_bestSwap_14 : decode cX7_bestSwap 14 = .ok (.iconst 0, 1) := by decide +kernel
theorem dX7_bestSwap_15 : decode cX7_bestSwap 15 = .ok (.istore 4, 2) := by decide +kernel
theorem dX7_bestSwap_17 : decode cX7_bestSwap 17 = .ok (.iload 4, 2) := by decide +kernel
theorem dX7_bestSwap_19 : decode cX7_bestSwap 19 = .ok (.aload_n 0, 1) := by decide +kernel
theorem dX7_bestSwap_20 : decode cX7_bestSwap 20 = .ok (.getfield 10, 3) := by decide +kernel
theorem dX7_bestSwap_23 : decode cX7_bestSwap 23 = .ok (.iload_n 3, 1) := by decide +kernel
theorem dX7_bestSwap_24 : decode cX7_bestSwap 24 = .ok (.invokevirtual 100, 3) := by decide +kernel
theorem dX7_bestSwap_27 : decode cX7_bestSwap 27 = .ok (.iconst 1, 1) := by decide +kernel
theorem dX7_bestSwap_28 : decode cX7_bestSwap 28 = .ok (.isub, 1) := by decide +kernel
theorem dX7_bestSwap_29 : decode cX7_bestSwap 29 = .ok (.if_icmp .ge 52, 3) := by decide +kernel
theorem dX7_bestSwap_32 : decode cX7_bestSwap 32 = .ok (.aload_n 0, 1) := by decide +kernel
theorem dX7_bestSwap_33 : decode cX7_bestSwap 33 = .ok (.getfield 10, 3) := by decide +kernel
theorem dX7_bestSwap_36 : decode cX7_bestSwap 36 = .ok (.iload_n 3, 1) := by decide +kernel
theorem dX7_bestSwap_37 : decode cX7_bestSwap 37 = .ok (.iload 4, 2) := by decide +kernel
theorem dX7_bestSwap_39 : decode cX7_bestSwap 39 = .ok (.invokevirtual 109, 3) := by decide +kernel
theorem dX7_bestSwap_42 : decode cX7_bestSwap 42 = .ok (.aload_n 0, 1) := by decide +kernel
theorem dX7_bestSwap_43 : decode cX7_bestSwap 43 = .ok (.invokevirtual 105, 3) := by decide +kernel
theorem dX7_bestSwap_46 : decode cX7_bestSwap 46 = .ok (.istore 5, 2) := by decide +kernel
theorem dX7_bestSwap_48 : decode cX7_bestSwap 48 = .ok (.aload_n 0, 1) := by decide +kernel
theorem dX7_bestSwap_49 : decode cX7_bestSwap 49 = .ok (.getfield 10, 3) := by decide +kernel
theorem dX7_bestSwap_52 : decode cX7_bestSwap 52 = .ok (.iload_n 3, 1) := by decide +kernel
theorem dX7_bestSwap_53 : decode cX7_bestSwap 53 = .ok (.iload 4, 2) := by decide +kernel
theorem dX7_bestSwap_55 : decode cX7_bestSwap 55 = .ok (.invokevirtual 109, 3) := by decide +kernel
theorem dX7_bestSwap_58 : decode cX7_bestSwap 58 = .ok (.iload 5, 2) := by decide +kernel
theorem dX7_bestSwap_60 : decode cX7_bestSwap 60 = .ok (.iload_n 1, 1) := by decide +kernel
theorem dX7_bestSwap_61 : decode cX7_bestSwap 61 = .ok (.if_icmp .ge 14, 3) := by decide +kernel
theorem dX7_bestSwap_64 : decode cX7_bestSwap 64 = .ok (.iload 5, 2) := by decide +kernel
theorem dX7_bestSwap_66 : decode cX7_bestSwap 66 = .ok (.istore_n 1, 1) := by decide +kernel
theorem dX7_bestSwap_67 : decode cX7_bestSwap 67 = .ok (.bipush 10, 2) := by decide +kernel
theorem dX7_bestSwap_69 : decode cX7_bestSwap 69 = .ok (.iload_n 3, 1) := by decide +kernel
theorem dX7_bestSwap_70 : decode cX7_bestSwap 70 = .ok (.imul, 1) := by decide +kernel
theorem dX7_bestSwap_71 : decode cX7_bestSwap 71 = .ok (.iload 4, 2) := by decide +kernel
theorem dX7_bestSwap_73 : decode cX7_bestSwap 73 = .ok (.iadd, 1) := by decide +kernel
theorem dX7_bestSwap_74 : decode cX7_bestSwap 74 = .ok (.istore_n 2, 1) := by decide +kernel
theorem dX7_bestSwap_75 : decode cX7_bestSwap 75 = .ok (.iinc 4 1, 3) := by decide +kernel
theorem dX7_bestSwap_78 : decode cX7_bestSwap 78 = .ok (.goto (-61), 3) := by decide +kernel
theorem dX7_bestSwap_81 : decode cX7_bestSwap 81 = .ok (.iinc 3 1, 3) := by decide +kernel
theorem dX7_bestSwap_84 : decode cX7_bestSwap 84 = .ok (.goto (-75), 3) := by decide +kernel
theorem dX7_bestSwap_87 : decode cX7_bestSwap 87 = .ok (.iload_n 2, 1) := by decide +kernel
theorem dX7_bestSwap_88 : decode cX7_bestSwap 88 = .ok (.ireturn, 1) := by decide +kernel
set_option maxRecDepth 20000 in
theorem ggX7_nearness_X5_isPerson : GoodIn wsX7_nearness wsX5_isPerson := goodIn_r _ [8, 9, 58, 59, 60, 61, 62, 63, 64, 65, 66, 67] (by decide +kernel) (by decide +kernel)
set_option maxRecDepth 20000 in
theorem gX7_nearness_X5_isPerson : GoodIn wsX7_nearness (wsV RX7 78 RX5 yX5_isPerson wsX5_isPerson) := goodIn_app (goodIn_of _ (by decide +kernel)) ggX7_nearness_X5_isPerson
set_option maxRecDepth 20000 in
theorem ggX7_nearness_X0_fewestLines : GoodIn wsX7_nearness wsX0_fewestLines := goodIn_r _ [13, 14, 15, 12, 16, 17, 18, 19, 20, 21, 22, 7, 23, 24, 25, 5, 6, 8, 9, 26, 27, 28, 29, 30, 31, 32, 33, 34, 35, 36, 37, 38, 39, 40, 41, 42, 43, 44, 45, 46, 47, 48, 49, 58, 59, 60, 61, 62, 63, 64, 65, 66, 67] (by decide +kernel) (by decide +kernel)
set_option maxRecDepth 20000 in
theorem gX7_nearness_X0_fewestLines : GoodIn wsX7_nearness (va_wsS RX7 268 yX0_fewestLines wsX0_fewestLines) := goodIn_app (goodIn_of _ (by decide +kernel)) ggX7_nearness_X0_fewestLines
theorem dX7_nearness_0 : decode cX7_nearness 0 = .ok (.aload_n 0, 1) := by decide +kernel
theorem dX7_nearness_1 : decode cX7_nearness 1 = .ok (.getfield 10, 3) := by decide +kernel
theorem dX7_nearness_4 : decode cX7_nearness 4 = .ok (.iload_n 1, 1) := by decide +kernel
theorem dX7_nearness_5 : decode cX7_nearness 5 = .ok (.invokevirtual 78, 3) := by decide +kernel
theorem dX7_nearness_8 : decode cX7_nearness 8 = .ok (.ifCond .eq 14, 3) := by decide +kernel
theorem dX7_nearness_11 : decode cX7_nearness 11 = .ok (.aload_n 0, 1) := by decide +kernel
theorem dX7_nearness_12 : decode cX7_nearness 12 = .ok (.getfield 10, 3) := by decide +kernel
theorem dX7_nearness_15 : decode cX7_nearness 15 = .ok (.iload_n 2, 1) := by decide +kernel
theorem dX7_nearness_16 : decode cX7_nearness 16 = .ok (.invokevirtual 78, 3) := by decide +kernel
theorem dX7_nearness_19 : decode cX7_nearness 19 = .ok (.ifCond .ne 13, 3) := by decide +kernel
theorem dX7_nearness_22 : decode cX7_nearness 22 = .ok (.new 63, 3) := by decide +kernel
theorem dX7_nearness_25 : decode cX7_nearness 25 = .ok (.dup, 1) := by decide +kernel
theorem dX7_nearness_26 : decode cX7_nearness 26 = .ok (.ldc 81, 2) := by decide +kernel
theorem dX7_nearness_28 : decode cX7_nearness 28 = .ok (.invokespecial 67, 3) := by decide +kernel
theorem dX7_nearness_31 : decode cX7_nearness 31 = .ok (.athrow, 1) := by decide +kernel
theorem dX7_nearness_32 : decode cX7_nearness 32 = .ok (.aload_n 0, 1) := by decide +kernel
theorem dX7_nearness_33 : decode cX7_nearness 33 = .ok (.getfield 10, 3) := by decide +kernel
theorem dX7_nearness_36 : decode cX7_nearness 36 = .ok (.iload_n 1, 1) := by decide +kernel
theorem dX7_nearness_37 : decode cX7_nearness 37 = .ok (.iload_n 2, 1) := by decide +kernel
theorem dX7_nearness_38 : decode cX7_nearness 38 = .ok (.invokestatic 268, 3) := by decide +kernel
theorem dX7_nearness_41 : decode cX7_nearness 41 = .ok (.ireturn, 1) := by decide +kernel
set_option maxRecDepth 20000 in
theorem ggX7_straightShare_X5_lines : GoodIn wsX7_straightShare wsX5_lines := goodIn_r _ [6, 7, 8, 9, 10, 5, 11, 12, 53, 54, 55, 56, 57, 58, 59, 60, 61, 62] (by decide +kernel) (by decide +kernel)
set_option maxRecDepth 20000 in
theorem gX7_straightShare_X5_lines : GoodIn wsX7_straightShare (wsV RX7 248 RX5 yX5_lines wsX5_lines) := goodIn_app (goodIn_of _ (by decide +kernel)) ggX7_straightShare_X5_lines
set_option maxRecDepth 20000 in
theorem ggX7_straightShare_X5_bentLines : GoodIn wsX7_straightShare wsX5_bentLines := goodIn_r _ [16, 7, 12, 17, 18, 19, 20, 5, 21, 22, 23, 24, 25, 26, 27, 28, 29, 30, 31, 32, 33, 34, 35, 36, 37, 38, 39, 40, 41, 42, 43, 44, 53, 54, 55, 56, 57, 58, 59, 60, 61, 62] (by decide +kernel) (by decide +kernel)
set_option maxRecDepth 20000 in
theorem gX7_straightShare_X5_bentLines : GoodIn wsX7_straightShare (wsV RX7 250 RX5 yX5_bentLines wsX5_bentLines) := goodIn_app (goodIn_of _ (by decide +kernel)) ggX7_straightShare_X5_bentLines
theorem dX7_straightShare_0 : decode cX7_straightShare 0 = .ok (.aload_n 0, 1) := by decide +kernel
theorem dX7_straightShare_1 : decode cX7_straightShare 1 = .ok (.getfield 10, 3) := by decide +kernel
theorem dX7_straightShare_4 : decode cX7_straightShare 4 = .ok (.invokevirtual 248, 3) := by decide +kernel
theorem dX7_straightShare_7 : decode cX7_straightShare 7 = .ok (.istore_n 1, 1) := by decide +kernel
theorem dX7_straightShare_8 : decode cX7_straightShare 8 = .ok (.iload_n 1, 1) := by decide +kernel
theorem dX7_straightShare_9 : decode cX7_straightShare 9 = .ok (.ifCond .ne 5, 3) := by decide +kernel
theorem dX7_straightShare_12 : decode cX7_straightShare 12 = .ok (.dconst 1, 1) := by decide +kernel
theorem dX7_straightShare_13 : decode cX7_straightShare 13 = .ok (.dreturn, 1) := by decide +kernel
theorem dX7_straightShare_14 : decode cX7_straightShare 14 = .ok (.iload_n 1, 1) := by decide +kernel
theorem dX7_straightShare_15 : decode cX7_straightShare 15 = .ok (.aload_n 0, 1) := by decide +kernel
theorem dX7_straightShare_16 : decode cX7_straightShare 16 = .ok (.getfield 10, 3) := by decide +kernel
theorem dX7_straightShare_19 : decode cX7_straightShare 19 = .ok (.invokevirtual 250, 3) := by decide +kernel
theorem dX7_straightShare_22 : decode cX7_straightShare 22 = .ok (.isub, 1) := by decide +kernel
theorem dX7_straightShare_23 : decode cX7_straightShare 23 = .ok (.i2d, 1) := by decide +kernel
theorem dX7_straightShare_24 : decode cX7_straightShare 24 = .ok (.iload_n 1, 1) := by decide +kernel
theorem dX7_straightShare_25 : decode cX7_straightShare 25 = .ok (.i2d, 1) := by decide +kernel
theorem dX7_straightShare_26 : decode cX7_straightShare 26 = .ok (.ddiv, 1) := by decide +kernel
theorem dX7_straightShare_27 : decode cX7_straightShare 27 = .ok (.dreturn, 1) := by decide +kernel
