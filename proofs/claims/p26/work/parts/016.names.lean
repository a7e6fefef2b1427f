set_option maxRecDepth 20000 in
theorem ggX7_coupleOf_X5_lesserOf : GoodIn wsX7_coupleOf wsX5_lesserOf := goodIn_r _ [15, 16, 17, 7, 8, 9, 10, 11, 78, 79, 80, 81, 82, 83, 84, 85, 86, 87] (by decide +kernel) (by decide +kernel)
set_option maxRecDepth 20000 in
theorem gX7_coupleOf_X5_lesserOf : GoodIn wsX7_coupleOf (wsV RX7 212 RX5 yX5_lesserOf wsX5_lesserOf) := goodIn_app (goodIn_of _ (by decide +kernel)) ggX7_coupleOf_X5_lesserOf
set_option maxRecDepth 20000 in
theorem ggX7_coupleOf_X5_greaterOf : GoodIn wsX7_coupleOf wsX5_greaterOf := goodIn_r _ [21, 22, 17, 7, 8, 9, 10, 11, 78, 79, 80, 81, 82, 83, 84, 85, 86, 87] (by decide +kernel) (by decide +kernel)
set_option maxRecDepth 20000 in
theorem gX7_coupleOf_X5_greaterOf : GoodIn wsX7_coupleOf (wsV RX7 215 RX5 yX5_greaterOf wsX5_greaterOf) := goodIn_app (goodIn_of _ (by decide +kernel)) ggX7_coupleOf_X5_greaterOf
set_option maxRecDepth 20000 in
theorem ggX7_coupleOf_X5_rowOf : GoodIn wsX7_coupleOf wsX5_rowOf := goodIn_r _ [26, 27, 28, 29, 30, 9, 31, 32, 78, 79, 80, 81, 82, 83, 84, 85, 86, 87] (by decide +kernel) (by decide +kernel)
set_option maxRecDepth 20000 in
theorem gX7_coupleOf_X5_rowOf : GoodIn wsX7_coupleOf (wsV RX7 182 RX5 yX5_rowOf wsX5_rowOf) := goodIn_app (goodIn_of _ (by decide +kernel)) ggX7_coupleOf_X5_rowOf
set_option maxRecDepth 20000 in
theorem ggX7_coupleOf_X5_middleOf : GoodIn wsX7_coupleOf wsX5_middleOf := goodIn_r _ [36, 16, 22, 17, 7, 8, 9, 10, 11, 37, 38, 39, 40, 41, 28, 29, 30, 31, 32, 78, 79, 80, 81, 82, 83, 84, 85, 86, 87] (by decide +kernel) (by decide +kernel)
set_option maxRecDepth 20000 in
theorem gX7_coupleOf_X5_middleOf : GoodIn wsX7_coupleOf (wsV RX7 218 RX5 yX5_middleOf wsX5_middleOf) := goodIn_app (goodIn_of _ (by decide +kernel)) ggX7_coupleOf_X5_middleOf
set_option maxRecDepth 20000 in
theorem ggX7_coupleOf_X5_childrenOf : GoodIn wsX7_coupleOf wsX5_childrenOf := goodIn_r _ [45, 32, 46, 78, 79, 80, 81, 82, 83, 84, 85, 86, 87] (by decide +kernel) (by decide +kernel)
set_option maxRecDepth 20000 in
theorem gX7_coupleOf_X5_childrenOf : GoodIn wsX7_coupleOf (wsV RX7 221 RX5 yX5_childrenOf wsX5_childrenOf) := goodIn_app (goodIn_of _ (by decide +kernel)) ggX7_coupleOf_X5_childrenOf
set_option maxRecDepth 20000 in
theorem ggX7_coupleOf_X0_commonAncestors : GoodIn wsX7_coupleOf wsX0_commonAncestors := goodIn_r _ [50, 51, 13, 14, 9, 15, 16, 17, 7, 8, 10, 11, 52, 53, 49, 54, 55, 56, 57, 58, 59, 60, 61, 46, 28, 29, 30, 31, 32, 62, 19, 20, 21, 22, 78, 79, 80, 81, 82, 83, 84, 85, 86, 87] (by decide +kernel) (by decide +kernel)
set_option maxRecDepth 20000 in
theorem gX7_coupleOf_X0_commonAncestors : GoodIn wsX7_coupleOf (va_wsS RX7 224 yX0_commonAncestors wsX0_commonAncestors) := goodIn_app (goodIn_of _ (by decide +kernel)) ggX7_coupleOf_X0_commonAncestors
set_option maxRecDepth 20000 in
theorem ggX7_coupleOf_J6_bitCount_0f7a4 : GoodIn wsX7_coupleOf wsJ6_bitCount_0f7a4 := goodIn_r _ [66, 67, 68, 69] (by decide +kernel) (by decide +kernel)
set_option maxRecDepth 20000 in
theorem gX7_coupleOf_J6_bitCount_0f7a4 : GoodIn wsX7_coupleOf (va_wsS RX7 202 yJ6_bitCount_0f7a4 wsJ6_bitCount_0f7a4) := goodIn_app (goodIn_of _ (by decide +kernel)) ggX7_coupleOf_J6_bitCount_0f7a4
theorem dX7_coupleOf_0 : decode cX7_coupleOf 0 = .ok (.aload_n 0, 1) := by decide +kernel
theorem dX7_coupleOf_1 : decode cX7_coupleOf 1 = .ok (.getfield 10, 3) := by decide +kernel
theorem dX7_coupleOf_4 : decode cX7_coupleOf 4 = .ok (.iload_n 1, 1) := by decide +kernel
theorem dX7_coupleOf_5 : decode cX7_coupleOf 5 = .ok (.invokevirtual 91, 3) := by decide +kernel
theorem dX7_coupleOf_8 : decode cX7_coupleOf 8 = .ok (.ifCond .ne 13, 3) := by decide +kernel
theorem dX7_coupleOf_11 : decode cX7_coupleOf 11 = .ok (.new 63, 3) := by decide +kernel
theorem dX7_coupleOf_14 : decode cX7_coupleOf 14 = .ok (.dup, 1) := by decide +kernel
theorem dX7_coupleOf_15 : decode cX7_coupleOf 15 = .ok (.ldc 94, 2) := by decide +kernel
theorem dX7_coupleOf_17 : decode cX7_coupleOf 17 = .ok (.invokespecial 67, 3) := by decide +kernel
theorem dX7_coupleOf_20 : decode cX7_coupleOf 20 = .ok (.athrow, 1) := by decide +kernel
theorem dX7_coupleOf_21 : decode cX7_coupleOf 21 = .ok (.iload_n 2, 1) := by decide +kernel
theorem dX7_coupleOf_22 : decode cX7_coupleOf 22 = .ok (.tableswitch 102 0 5 #[38, 47, 56, 72, 81, 90], 38) := by decide +kernel
theorem dX7_coupleOf_60 : decode cX7_coupleOf 60 = .ok (.aload_n 0, 1) := by decide +kernel
theorem dX7_coupleOf_61 : decode cX7_coupleOf 61 = .ok (.getfield 10, 3) := by decide +kernel
theorem dX7_coupleOf_64 : decode cX7_coupleOf 64 = .ok (.iload_n 1, 1) := by decide +kernel
theorem dX7_coupleOf_65 : decode cX7_coupleOf 65 = .ok (.invokevirtual 212, 3) := by decide +kernel
theorem dX7_coupleOf_68 : decode cX7_coupleOf 68 = .ok (.ireturn, 1) := by decide +kernel
theorem dX7_coupleOf_69 : decode cX7_coupleOf 69 = .ok (.aload_n 0, 1) := by decide +kernel
theorem dX7_coupleOf_70 : decode cX7_coupleOf 70 = .ok (.getfield 10, 3) := by decide +kernel
theorem dX7_coupleOf_73 : decode cX7_coupleOf 73 = .ok (.iload_n 1, 1) := by decide +kernel
theorem dX7_coupleOf_74 : decode cX7_coupleOf 74 = .ok (.invokevirtual 215, 3) := by decide +kernel
theorem dX7_coupleOf_77 : decode cX7_coupleOf 77 = .ok (.ireturn, 1) := by decide +kernel
theorem dX7_coupleOf_78 : decode cX7_coupleOf 78 = .ok (.aload_n 0, 1) := by decide +kernel
theorem dX7_coupleOf_79 : decode cX7_coupleOf 79 = .ok (.getfield 10, 3) := by decide +kernel
theorem dX7_coupleOf_82 : decode cX7_coupleOf 82 = .ok (.aload_n 0, 1) := by decide +kernel
theorem dX7_coupleOf_83 : decode cX7_coupleOf 83 = .ok (.getfield 10, 3) := by decide +kernel
theorem dX7_coupleOf_86 : decode cX7_coupleOf 86 = .ok (.iload_n 1, 1) := by decide +kernel
theorem dX7_coupleOf_87 : decode cX7_coupleOf 87 = .ok (.invokevirtual 212, 3) := by decide +kernel
theorem dX7_coupleOf_90 : decode cX7_coupleOf 90 = .ok (.invokevirtual 182, 3) := by decide +kernel
theorem dX7_coupleOf_93 : decode cX7_coupleOf 93 = .ok (.ireturn, 1) := by decide +kernel
theorem dX7_coupleOf_94 : decode cX7_coupleOf 94 = .ok (.aload_n 0, 1) := by decide +kernel
theorem dX7_coupleOf_95 : decode cX7_coupleOf 95 = .ok (.getfield 10, 3) := by decide +kernel
theorem dX7_coupleOf_98 : decode cX7_coupleOf 98 = .ok (.iload_n 1, 1) := by decide +kernel
theorem dX7_coupleOf_99 : decode cX7_coupleOf 99 = .ok (.invokevirtual 218, 3) := by decide +kernel
theorem dX7_coupleOf_102 : decode cX7_coupleOf 102 = .ok (.ireturn, 1) := by decide +kernel
theorem dX7_coupleOf_103 : decode cX7_coupleOf 103 = .ok (.aload_n 0, 1) := by decide +kernel
theorem dX7_coupleOf_104 : decode cX7_coupleOf 104 = .ok (.getfield 10, 3) := by decide +kernel
theorem dX7_coupleOf_107 : decode cX7_coupleOf 107 = .ok (.iload_n 1, 1) := by decide +kernel
theorem dX7_coupleOf_108 : decode cX7_coupleOf 108 = .ok (.invokevirtual 221, 3) := by decide +kernel
theorem dX7_coupleOf_111 : decode cX7_coupleOf 111 = .ok (.ireturn, 1) := by decide +kernel
theorem dX7_coupleOf_112 : decode cX7_coupleOf 112 = .ok (.aload_n 0, 1) := by decide +kernel
theorem dX7_coupleOf_113 : decode cX7_coupleOf 113 = .ok (.getfield 10, 3) := by decide +kernel
theorem dX7_coupleOf_116 : decode cX7_coupleOf 116 = .ok (.iload_n 1, 1) := by decide +kernel
theorem dX7_coupleOf_117 : decode cX7_coupleOf 117 = .ok (.invokestatic 224, 3) := by decide +kernel
theorem dX7_coupleOf_120 : decode cX7_coupleOf 120 = .ok (.invokestatic 202, 3) := by decide +kernel
theorem dX7_coupleOf_123 : decode cX7_coupleOf 123 = .ok (.ireturn, 1) := by decide +kernel
theorem dX7_coupleOf_124 : decode cX7_coupleOf 124 = .ok (.new 83, 3) := by decide +kernel
theorem dX7_coupleOf_127 : decode cX7_coupleOf 127 = .ok (.dup, 1) := by decide +kernel
theorem dX7_coupleOf_128 : decode cX7_coupleOf 128 = .ok (.ldc 227, 2) := by decide +kernel
theorem dX7_coupleOf_130 : decode cX7_coupleOf 130 = .ok (.invokespecial 87, 3) := by decide +kernel
theorem dX7_coupleOf_133 : decode cX7_coupleOf 133 = .ok (.athrow, 1) := by decide +kernel
set_option maxRecDepth 20000 in
theorem ggX7_at_X7_isRow : GoodIn wsX7_at wsX7_isRow := goodIn_r _ [9] (by decide +kernel) (by decide +kernel)
set_option maxRecDepth 20000 in
theorem gX7_at_X7_isRow : GoodIn wsX7_at (va_wsS RX7 59 yX7_isRow wsX7_isRow) := goodIn_app (goodIn_of _ (by decide +kernel)) ggX7_at_X7_isRow
set_option maxRecDepth 20000 in
theorem ggX7_at_X5_personAt : GoodIn wsX7_at wsX5_personAt := goodIn_r _ [14, 15, 16, 17, 18, 13, 19, 20, 29, 30, 31, 32, 33, 34, 35, 36, 37, 38] (by decide +kernel) (by decide +kernel)
set_option maxRecDepth 20000 in
theorem gX7_at_X5_personAt : GoodIn wsX7_at (wsV RX7 231 RX5 yX5_personAt wsX5_personAt) := goodIn_app (goodIn_of _ (by decide +kernel)) ggX7_at_X5_personAt
theorem dX7_at_0 : decode cX7_at 0 = .ok (.iload_n 1, 1) := by decide +kernel
theorem dX7_at_1 : decode cX7_at 1 = .ok (.invokestatic 59, 3) := by decide +kernel
theorem dX7_at_4 : decode cX7_at 4 = .ok (.ifCond .ne 13, 3) := by decide +kernel
theorem dX7_at_7 : decode cX7_at 7 = .ok (.new 63, 3) := by decide +kernel
theorem dX7_at_10 : decode cX7_at 10 = .ok (.dup, 1) := by decide +kernel
theorem dX7_at_11 : decode cX7_at 11 = .ok (.ldc 65, 2) := by decide +kernel
theorem dX7_at_13 : decode cX7_at 13 = .ok (.invokespecial 67, 3) := by decide +kernel
theorem dX7_at_16 : decode cX7_at 16 = .ok (.athrow, 1) := by decide +kernel
theorem dX7_at_17 : decode cX7_at 17 = .ok (.iload_n 2, 1) := by decide +kernel
theorem dX7_at_18 : decode cX7_at 18 = .ok (.ifCond .ge 13, 3) := by decide +kernel
theorem dX7_at_21 : decode cX7_at 21 = .ok (.new 83, 3) := by decide +kernel
theorem dX7_at_24 : decode cX7_at 24 = .ok (.dup, 1) := by decide +kernel
theorem dX7_at_25 : decode cX7_at 25 = .ok (.ldc 229, 2) := by decide +kernel
theorem dX7_at_27 : decode cX7_at 27 = .ok (.invokespecial 87, 3) := by decide +kernel
theorem dX7_at_30 : decode cX7_at 30 = .ok (.athrow, 1) := by decide +kernel
theorem dX7_at_31 : decode cX7_at 31 = .ok (.aload_n 0, 1) := by decide +kernel
theorem dX7_at_32 : decode cX7_at 32 = .ok (.getfield 10, 3) := by decide +kernel
theorem dX7_at_35 : decode cX7_at 35 = .ok (.iload_n 1, 1) := by decide +kernel
theorem dX7_at_36 : decode cX7_at 36 = .ok (.iload_n 2, 1) := by decide +kernel
theorem dX7_at_37 : decode cX7_at 37 = .ok (.invokevirtual 231, 3) := by decide +kernel
theorem dX7_at_40 : decode cX7_at 40 = .ok (.ireturn, 1) := by decide +kernel
set_option maxRecDepth 20000 in
theorem ggX7_crossings_X7_isRow : GoodIn wsX7_crossings wsX7_isRow := goodIn_r _ [10] (by decide +kernel) (by decide +kernel)
set_option maxRecDepth 20000 in
theorem gX7_crossings_X7_isRow : GoodIn wsX7_crossings (va_wsS RX7 59 yX7_isRow wsX7_isRow) := goodIn_app (goodIn_of _ (by decide +kernel)) ggX7_crossings_X7_isRow
set_option maxRecDepth 20000 in
theorem ggX7_crossings_X2_collect : GoodIn wsX7_crossings wsX2_collect := goodIn_r _ [15, 16, 17, 18, 19, 20, 21, 22, 23, 24, 25, 26, 27, 28, 29, 30, 31, 32, 33, 34, 35, 36, 37, 38, 39, 40, 41, 42, 43, 44, 45, 46, 47, 48, 49, 50, 51, 52, 53, 54, 55, 56, 57, 58, 59, 60, 81, 82, 83, 84, 85, 86, 87, 88, 89, 90, 91, 92, 93] (by decide +kernel) (by decide +kernel)
set_option maxRecDepth 20000 in
theorem gX7_crossings_X2_collect : GoodIn wsX7_crossings (wsV RX7 236 RX2 yX2_collect wsX2_collect) := goodIn_app (goodIn_of _ (by decide +kernel)) ggX7_crossings_X2_collect
set_option maxRecDepth 20000 in
theorem ggX7_crossings_X2_crossedPairs : GoodIn wsX7_crossings wsX2_crossedPairs := goodIn_r _ [64, 16, 17, 81, 82, 83] (by decide +kernel) (by decide +kernel)
set_option maxRecDepth 20000 in
theorem gX7_crossings_X2_crossedPairs : GoodIn wsX7_crossings (wsV RX7 239 RX2 yX2_crossedPairs wsX2_crossedPairs) := goodIn_app (goodIn_of _ (by decide +kernel)) ggX7_crossings_X2_crossedPairs
set_option maxRecDepth 20000 in
theorem ggX7_crossings_X2_crossedOneByOne : GoodIn wsX7_crossings wsX2_crossedOneByOne := goodIn_r _ [68, 16, 17, 18, 69, 70, 71, 14, 72, 81, 82, 83] (by decide +kernel) (by decide +kernel)
set_option maxRecDepth 20000 in
theorem gX7_crossings_X2_crossedOneByOne : GoodIn wsX7_crossings (wsV RX7 242 RX2 yX2_crossedOneByOne wsX2_crossedOneByOne) := goodIn_app (goodIn_of _ (by decide +kernel)) ggX7_crossings_X2_crossedOneByOne
theorem dX7_crossings_0 : decode cX7_crossings 0 = .ok (.iload_n 1, 1) := by decide +kernel
theorem dX7_crossings_1 : decode cX7_crossings 1 = .ok (.invokestatic 59, 3) := by decide +kernel
theorem dX7_crossings_4 : decode cX7_crossings 4 = .ok (.ifCond .ne 13, 3) := by decide +kernel
theorem dX7_crossings_7 : decode cX7_crossings 7 = .ok (.new 63, 3) := by decide +kernel
theorem dX7_crossings_10 : decode cX7_crossings 10 = .ok (.dup, 1) := by decide +kernel
theorem dX7_crossings_11 : decode cX7_crossings 11 = .ok (.ldc 65, 2) := by decide +kernel
theorem dX7_crossings_13 : decode cX7_crossings 13 = .ok (.invokespecial 67, 3) := by decide +kernel
theorem dX7_crossings_16 : decode cX7_crossings 16 = .ok (.athrow, 1) := by decide +kernel
theorem dX7_crossings_17 : decode cX7_crossings 17 = .ok (.iload_n 2, 1) := by decide +kernel
theorem dX7_crossings_18 : decode cX7_crossings 18 = .ok (.ifCond .eq 18, 3) := by decide +kernel
theorem dX7_crossings_21 : decode cX7_crossings 21 = .ok (.iload_n 2, 1) := by decide +kernel
theorem dX7_crossings_22 : decode cX7_crossings 22 = .ok (.iconst 1, 1) := by decide +kernel
theorem dX7_crossings_23 : decode cX7_crossings 23 = .ok (.if_icmp .eq 13, 3) := by decide +kernel
theorem dX7_crossings_26 : decode cX7_crossings 26 = .ok (.new 83, 3) := by decide +kernel
theorem dX7_crossings_29 : decode cX7_crossings 29 = .ok (.dup, 1) := by decide +kernel
theorem dX7_crossings_30 : decode cX7_crossings 30 = .ok (.ldc 234, 2) := by decide +kernel
theorem dX7_crossings_32 : decode cX7_crossings 32 = .ok (.invokespecial 87, 3) := by decide +kernel
theorem dX7_crossings_35 : decode cX7_crossings 35 = .ok (.athrow, 1) := by decide +kernel
theorem dX7_crossings_36 : decode cX7_crossings 36 = .ok (.aload_n 0, 1) := by decide +kernel
theorem dX7_crossings_37 : decode cX7_crossings 37 = .ok (.getfield 41, 3) := by decide +kernel
theorem dX7_crossings_40 : decode cX7_crossings 40 = .ok (.aload_n 0, 1) := by decide +kernel
theorem dX7_crossings_41 : decode cX7_crossings 41 = .ok (.getfield 10, 3) := by decide +kernel
theorem dX7_crossings_44 : decode cX7_crossings 44 = .ok (.iload_n 1, 1) := by decide +kernel
theorem dX7_crossings_45 : decode cX7_crossings 45 = .ok (.invokevirtual 236, 3) := by decide +kernel
theorem dX7_crossings_48 : decode cX7_crossings 48 = .ok (.iload_n 2, 1) := by decide +kernel
theorem dX7_crossings_49 : decode cX7_crossings 49 = .ok (.ifCond .ne 13, 3) := by decide +kernel
theorem dX7_crossings_52 : decode cX7_crossings 52 = .ok (.aload_n 0, 1) := by decide +kernel
theorem dX7_crossings_53 : decode cX7_crossings 53 = .ok (.getfield 41, 3) := by decide +kernel
theorem dX7_crossings_56 : decode cX7_crossings 56 = .ok (.invokevirtual 239, 3) := by decide +kernel
theorem dX7_crossings_59 : decode cX7_crossings 59 = .ok (.goto 10, 3) := by decide +kernel
theorem dX7_crossings_62 : decode cX7_crossings 62 = .ok (.aload_n 0, 1) := by decide +kernel
theorem dX7_crossings_63 : decode cX7_crossings 63 = .ok (.getfield 41, 3) := by decide +kernel
theorem dX7_crossings_66 : decode cX7_crossings 66 = .ok (.invokevirtual 242, 3) := by decide +kernel
theorem dX7_crossings_69 : decode cX7_crossings 69 = .ok (.ireturn, 1) := by decide +kernel
set_option maxRecDepth 20000 in
theorem ggX7_count_X5_people : GoodIn wsX7_count wsX5_people := goodIn_r _ [9, 10, 140, 141, 142, 143, 144, 145, 146, 147, 148, 149] (by decide +kernel) (by decide +kernel)
set_option maxRecDepth 20000 in
theorem gX7_count_X5_people : GoodIn wsX7_count (wsV RX7 169 RX5 yX5_people wsX5_people) := goodIn_app (goodIn_of _ (by decide +kernel)) ggX7_count_X5_people
set_option maxRecDepth 20000 in
theorem ggX7_count_X5_couples : GoodIn wsX7_count wsX5_couples := goodIn_r _ [14, 15, 140, 141, 142, 143, 144, 145, 146, 147, 148, 149] (by decide +kernel) (by decide +kernel)
set_option maxRecDepth 20000 in
theorem gX7_count_X5_couples : GoodIn wsX7_count (wsV RX7 245 RX5 yX5_couples wsX5_couples) := goodIn_app (goodIn_of _ (by decide +kernel)) ggX7_count_X5_couples
set_option maxRecDepth 20000 in
theorem ggX7_count_X5_lines : GoodIn wsX7_count wsX5_lines := goodIn_r _ [19, 10, 20, 21, 22, 8, 23, 24, 140, 141, 142, 143, 144, 145, 146, 147, 148, 149] (by decide +kernel) (by decide +kernel)
set_option maxRecDepth 20000 in
theorem gX7_count_X5_lines : GoodIn wsX7_count (wsV RX7 248 RX5 yX5_lines wsX5_lines) := goodIn_app (goodIn_of _ (by decide +kernel)) ggX7_count_X5_lines
set_option maxRecDepth 20000 in
theorem ggX7_count_X7_allCrossings : GoodIn wsX7_count wsX7_allCrossings := goodIn_r _ [29, 30, 3, 31, 32, 33, 34, 35, 36, 37, 38, 39, 40, 41, 8, 42, 43, 44, 45, 46, 47, 48, 49, 50, 51, 52, 53, 54, 55, 56, 57, 24, 58, 59, 60, 61, 10, 62, 63, 64, 65, 66, 67, 68, 69, 70, 71, 15, 72, 73, 74, 75, 76, 77, 78, 79, 80, 132, 133, 134, 135, 136, 137, 138, 139, 150, 151, 152, 140, 141, 142, 143, 144, 145, 146, 147, 148, 149] (by decide +kernel) (by decide +kernel)
set_option maxRecDepth 20000 in
theorem gX7_count_X7_allCrossings : GoodIn wsX7_count (wsV RX7 105 RX7 yX7_allCrossings wsX7_allCrossings) := goodIn_app (goodIn_of _ (by decide +kernel)) ggX7_count_X7_allCrossings
set_option maxRecDepth 20000 in
theorem ggX7_count_X5_bentLines : GoodIn wsX7_count wsX5_bentLines := goodIn_r _ [84, 10, 24, 76, 85, 51, 52, 8, 53, 54, 55, 56, 57, 58, 59, 60, 61, 62, 63, 64, 65, 66, 67, 68, 69, 70, 71, 15, 72, 73, 74, 75, 140, 141, 142, 143, 144, 145, 146, 147, 148, 149] (by decide +kernel) (by decide +kernel)
set_option maxRecDepth 20000 in
theorem gX7_count_X5_bentLines : GoodIn wsX7_count (wsV RX7 250 RX5 yX5_bentLines wsX5_bentLines) := goodIn_app (goodIn_of _ (by decide +kernel)) ggX7_count_X5_bentLines
set_option maxRecDepth 20000 in
theorem ggX7_count_X5_doubles : GoodIn wsX7_count wsX5_doubles := goodIn_r _ [89, 10, 90, 91, 92, 8, 93, 94, 95, 96, 97, 15, 66, 67, 140, 141, 142, 143, 144, 145, 146, 147, 148, 149] (by decide +kernel) (by decide +kernel)
set_option maxRecDepth 20000 in
theorem gX7_count_X5_doubles : GoodIn wsX7_count (wsV RX7 253 RX5 yX5_doubles wsX5_doubles) := goodIn_app (goodIn_of _ (by decide +kernel)) ggX7_count_X5_doubles
set_option maxRecDepth 20000 in
theorem ggX7_count_X0_kinCouples : GoodIn wsX7_count wsX0_kinCouples := goodIn_r _ [101, 102, 12, 13, 8, 14, 15, 103, 104, 100, 105, 106, 107, 108, 109, 66, 68, 69, 70, 71, 110, 111, 112, 113, 114, 115, 116, 55, 56, 57, 24, 58, 59, 60, 61, 10, 117, 118, 119, 120, 67, 140, 141, 142, 143, 144, 145, 146, 147, 148, 149] (by decide +kernel) (by decide +kernel)
set_option maxRecDepth 20000 in
theorem gX7_count_X0_kinCouples : GoodIn wsX7_count (va_wsS RX7 256 yX0_kinCouples wsX0_kinCouples) := goodIn_app (goodIn_of _ (by decide +kernel)) ggX7_count_X0_kinCouples
set_option maxRecDepth 20000 in
theorem ggX7_count_X5_refused : GoodIn wsX7_count wsX5_refused := goodIn_r _ [124, 125, 140, 141, 142, 143, 144, 145, 146, 147, 148, 149] (by decide +kernel) (by decide +kernel)
set_option maxRecDepth 20000 in
theorem gX7_count_X5_refused : GoodIn wsX7_count (wsV RX7 260 RX5 yX5_refused wsX5_refused) := goodIn_app (goodIn_of _ (by decide +kernel)) ggX7_count_X5_refused
set_option maxRecDepth 20000 in
theorem ggX7_count_X4_size : GoodIn wsX7_count wsX4_size := goodIn_r _ [130, 131, 153, 154, 155] (by decide +kernel) (by decide +kernel)
set_option maxRecDepth 20000 in
theorem gX7_count_X4_size : GoodIn wsX7_count (wsV RX7 174 RX4 yX4_size wsX4_size) := goodIn_app (goodIn_of _ (by decide +kernel)) ggX7_count_X4_size
theorem dX7_count_0 : decode cX7_count 0 = .ok (.iload_n 1, 1) := by decide +kernel
theorem dX7_count_1 : decode cX7_count 1 = .ok (.tableswitch 120 0 8 #[51, 59, 67, 75, 80, 88, 96, 104, 112], 51) := by decide +kernel
theorem dX7_count_52 : decode cX7_count 52 = .ok (.aload_n 0, 1) := by decide +kernel
theorem dX7_count_53 : decode cX7_count 53 = .ok (.getfield 10, 3) := by decide +kernel
theorem dX7_count_56 : decode cX7_count 56 = .ok (.invokevirtual 169, 3) := by decide +kernel
theorem dX7_count_59 : decode cX7_count 59 = .ok (.ireturn, 1) := by decide +kernel
theorem dX7_count_60 : decode cX7_count 60 = .ok (.aload_n 0, 1) := by decide +kernel
theorem dX7_count_61 : decode cX7_count 61 = .ok (.getfield 10, 3) := by decide +kernel
theorem dX7_count_64 : decode cX7_count 64 = .ok (.invokevirtual 245, 3) := by decide +kernel
theorem dX7_count_67 : decode cX7_count 67 = .ok (.ireturn, 1) := by decide +kernel
theorem dX7_count_68 : decode cX7_count 68 = .ok (.aload_n 0, 1) := by decide +kernel
theorem dX7_count_69 : decode cX7_count 69 = .ok (.getfield 10, 3) := by decide +kernel
theorem dX7_count_72 : decode cX7_count 72 = .ok (.invokevirtual 248, 3) := by decide +kernel
theorem dX7_count_75 : decode cX7_count 75 = .ok (.ireturn, 1) := by decide +kernel
theorem dX7_count_76 : decode cX7_count 76 = .ok (.aload_n 0, 1) := by decide +kernel
theorem dX7_count_77 : decode cX7_count 77 = .ok (.invokevirtual 105, 3) := by decide +kernel
theorem dX7_count_80 : decode cX7_count 80 = .ok (.ireturn, 1) := by decide +kernel
theorem dX7_count_81 : decode cX7_count 81 = .ok (.aload_n 0, 1) := by decide +kernel
theorem dX7_count_82 : decode cX7_count 82 = .ok (.getfield 10, 3) := by decide +kernel
theorem dX7_count_85 : decode cX7_count 85 = .ok (.invokevirtual 250, 3) := by decide +kernel
theorem dX7_count_88 : decode cX7_count 88 = .ok (.ireturn, 1) := by decide +kernel
theorem dX7_count_89 : decode cX7_count 89 = .ok (.aload_n 0, 1) := by decide +kernel
theorem dX7_count_90 : decode cX7_count 90 = .ok (.getfield 10, 3) := by decide +kernel
theorem dX7_count_93 : decode cX7_count 93 = .ok (.invokevirtual 253, 3) := by decide +kernel
theorem dX7_count_96 : decode cX7_count 96 = .ok (.ireturn, 1) := by decide +kernel
theorem dX7_count_97 : decode cX7_count 97 = .ok (.aload_n 0, 1) := by decide +kernel
theorem dX7_count_98 : decode cX7_count 98 = .ok (.getfield 10, 3) := by decide +kernel
theorem dX7_count_101 : decode cX7_count 101 = .ok (.invokestatic 256, 3) := by decide +kernel
theorem dX7_count_104 : decode cX7_count 104 = .ok (.ireturn, 1) := by decide +kernel
theorem dX7_count_105 : decode cX7_count 105 = .ok (.aload_n 0, 1) := by decide +kernel
theorem dX7_count_106 : decode cX7_count 106 = .ok (.getfield 10, 3) := by decide +kernel
theorem dX7_count_109 : decode cX7_count 109 = .ok (.invokevirtual 260, 3) := by decide +kernel
theorem dX7_count_112 : decode cX7_count 112 = .ok (.ireturn, 1) := by decide +kernel
theorem dX7_count_113 : decode cX7_count 113 = .ok (.aload_n 0, 1) := by decide +kernel
theorem dX7_count_114 : decode cX7_count 114 = .ok (.getfield 27, 3) := by decide +kernel
theorem dX7_count_117 : decode cX7_count 117 = .ok (.invokevirtual 174, 3) := by decide +kernel
theorem dX7_count_120 : decode cX7_count 120 = .ok (.ireturn, 1) := by decide +kernel
theorem dX7_count_121 : decode cX7_count 121 = .ok (.new 83, 3) := by decide +kernel
theorem dX7_count_124 : decode cX7_count 124 = .ok (.dup, 1) := by decide +kernel
theorem dX7_count_125 : decode cX7_count 125 = .ok (.ldc_w 263, 3) := by decide +kernel
theorem dX7_count_128 : decode cX7_count 128 = .ok (.invokespecial 87, 3) := by decide +kernel
theorem dX7_count_131 : decode cX7_count 131 = .ok (.athrow, 1) := by decide +kernel
set_option maxRecDepth 20000 in
theorem ggX7_least_X7_isRow : GoodIn wsX7_least wsX7_isRow := goodIn_r _ [10] (by decide +kernel) (by decide +kernel)
set_option maxRecDepth 20000 in
theorem gX7_least_X7_isRow : GoodIn wsX7_least (va_wsS RX7 59 yX7_isRow wsX7_isRow) := goodIn_app (goodIn_of _ (by decide +kernel)) ggX7_least_X7_isRow
set_option maxRecDepth 20000 in
theorem ggX7_least_X3_prepare : GoodIn wsX7_least wsX3_prepare := goodIn_r _ [15, 16, 17, 18, 14, 19, 20, 21, 22, 23, 24, 25, 26, 27, 28, 29, 30, 31, 32, 33, 34, 35, 36, 37, 38, 39, 40, 41, 42, 43, 44, 45, 46, 47, 48, 49, 50, 51, 52, 53, 54, 55, 56, 57, 58, 59, 60, 61, 62, 63, 64, 65, 66, 67, 68, 69, 70, 71, 72, 73, 74, 75, 76, 77, 78, 79, 80, 81, 82, 83, 84, 85, 86, 87, 88, 89, 90, 91, 92, 93, 94, 95, 96, 97, 98, 99, 100, 101, 102, 103, 104, 155, 156, 157, 158, 159, 160, 161, 162, 163, 164, 165, 166, 167, 168, 169, 170, 171, 172, 173, 174, 175, 176, 177] (by decide +kernel) (by decide +kernel)
set_option maxRecDepth 20000 in
theorem gX7_least_X3_prepare : GoodIn wsX7_least (wsV RX7 117 RX3 yX3_prepare wsX3_prepare) := goodIn_app (goodIn_of _ (by decide +kernel)) ggX7_least_X3_prepare
set_option maxRecDepth 20000 in
theorem ggX7_least_X3_leastByAllOrders : GoodIn wsX7_least wsX3_leastByAllOrders := goodIn_r _ [108, 109, 20, 21, 110, 111, 112, 113, 114, 115, 116, 117, 14, 118, 41, 119, 120, 121, 122, 123, 124, 125, 126, 127, 128, 129, 130, 71, 90, 91, 131, 104, 132, 133, 134, 135, 136, 137, 138, 139, 155, 156, 157, 158, 159, 160, 161, 162, 163, 164, 165, 166, 167] (by decide +kernel) (by decide +kernel)
set_option maxRecDepth 20000 in
theorem gX7_least_X3_leastByAllOrders : GoodIn wsX7_least (wsV RX7 121 RX3 yX3_leastByAllOrders wsX3_leastByAllOrders) := goodIn_app (goodIn_of _ (by decide +kernel)) ggX7_least_X3_leastByAllOrders
set_option maxRecDepth 20000 in
theorem ggX7_least_X3_leastByLaying : GoodIn wsX7_least wsX3_leastByLaying := goodIn_r _ [143, 109, 144, 145, 14, 146, 20, 115, 116, 117, 118, 21, 41, 119, 120, 121, 122, 123, 124, 125, 126, 127, 128, 129, 130, 71, 90, 91, 131, 104, 136, 137, 138, 139, 155, 156, 157, 158, 159, 160, 161, 162, 163, 164, 165, 166, 167] (by decide +kernel) (by decide +kernel)
set_option maxRecDepth 20000 in
theorem gX7_least_X3_leastByLaying : GoodIn wsX7_least (wsV RX7 265 RX3 yX3_leastByLaying wsX3_leastByLaying) := goodIn_app (goodIn_of _ (by decide +kernel)) ggX7_least_X3_leastByLaying
theorem dX7_least_0 : decode cX7_least 0 = .ok (.iload_n 1, 1) := by decide +kernel
theorem dX7_least_1 : decode cX7_least 1 = .ok (.invokestatic 59, 3) := by decide +kernel
theorem dX7_least_4 : decode cX7_least 4 = .ok (.ifCond .ne 13, 3) := by decide +kernel
theorem dX7_least_7 : decode cX7_least 7 = .ok (.new 63, 3) := by decide +kernel
theorem dX7_least_10 : decode cX7_least 10 = .ok (.dup, 1) := by decide +kernel
theorem dX7_least_11 : decode cX7_least 11 = .ok (.ldc 65, 2) := by decide +kernel
theorem dX7_least_13 : decode cX7_least 13 = .ok (.invokespecial 67, 3) := by decide +kernel
theorem dX7_least_16 : decode cX7_least 16 = .ok (.athrow, 1) := by decide +kernel
theorem dX7_least_17 : decode cX7_least 17 = .ok (.iload_n 2, 1) := by decide +kernel
theorem dX7_least_18 : decode cX7_least 18 = .ok (.ifCond .eq 18, 3) := by decide +kernel
theorem dX7_least_21 : decode cX7_least 21 = .ok (.iload_n 2, 1) := by decide +kernel
theorem dX7_least_22 : decode cX7_least 22 = .ok (.iconst 1, 1) := by decide +kernel
theorem dX7_least_23 : decode cX7_least 23 = .ok (.if_icmp .eq 13, 3) := by decide +kernel
theorem dX7_least_26 : decode cX7_least 26 = .ok (.new 83, 3) := by decide +kernel
theorem dX7_least_29 : decode cX7_least 29 = .ok (.dup, 1) := by decide +kernel
theorem dX7_least_30 : decode cX7_least 30 = .ok (.ldc 234, 2) := by decide +kernel
theorem dX7_least_32 : decode cX7_least 32 = .ok (.invokespecial 87, 3) := by decide +kernel
theorem dX7_least_35 : decode cX7_least 35 = .ok (.athrow, 1) := by decide +kernel
theorem dX7_least_36 : decode cX7_least 36 = .ok (.aload_n 0, 1) := by decide +kernel
theorem dX7_least_37 : decode cX7_least 37 = .ok (.getfield 55, 3) := by decide +kernel
theorem dX7_least_40 : decode cX7_least 40 = .ok (.aload_n 0, 1) := by decide +kernel
theorem dX7_least_41 : decode cX7_least 41 = .ok (.getfield 10, 3) := by decide +kernel
theorem dX7_least_44 : decode cX7_least 44 = .ok (.iload_n 1, 1) := by decide +kernel
theorem dX7_least_45 : decode cX7_least 45 = .ok (.invokevirtual 117, 3) := by decide +kernel
theorem dX7_least_48 : decode cX7_least 48 = .ok (.iload_n 2, 1) := by decide +kernel
theorem dX7_least_49 : decode cX7_least 49 = .ok (.ifCond .ne 13, 3) := by decide +kernel
theorem dX7_least_52 : decode cX7_least 52 = .ok (.aload_n 0, 1) := by decide +kernel
theorem dX7_least_53 : decode cX7_least 53 = .ok (.getfield 55, 3) := by decide +kernel
theorem dX7_least_56 : decode cX7_least 56 = .ok (.invokevirtual 121, 3) := by decide +kernel
theorem dX7_least_59 : decode cX7_least 59 = .ok (.goto 10, 3) := by decide +kernel
theorem dX7_least_62 : decode cX7_least 62 = .ok (.aload_n 0, 1) := by decide +kernel
theorem dX7_least_63 : decode cX7_least 63 = .ok (.getfield 55, 3) := by decide +kernel
theorem dX7_least_66 : decode cX7_least 66 = .ok (.invokevirtual 265, 3) := by decide +kernel
theorem dX7_least_69 : decode cX7_least 69 = .ok (.ireturn, 1) := by decide +kernel
set_option maxRecDepth 20000 in
theorem ggX7_bestSwap_X7_allCrossings : GoodIn wsX7_bestSwap wsX7_allCrossings := goodIn_r _ [6, 7, 1, 8, 9, 10, 11, 12, 13, 14, 15, 16, 17, 18, 19, 20, 21, 22, 23, 24, 25, 26, 27, 28, 29, 30, 31, 32, 33, 34, 35, 36, 37, 38, 39, 40, 41, 42, 43, 44, 45, 46, 47, 48, 49, 50, 51, 52, 53, 54, 55, 56, 57, 58, 59, 60, 61, 72, 73, 74, 75, 76, 77, 78, 79, 80, 81, 82, 83, 84, 85, 86, 87, 88, 89, 90, 91, 92] (by decide +kernel) (by decide +kernel)
set_option maxRecDepth 20000 in
theorem gX7_bestSwap_X7_allCrossings : GoodIn wsX7_bestSwap (wsV RX7 105 RX7 yX7_allCrossings wsX7_allCrossings) := goodIn_app (goodIn_of _ (by decide +kernel)) ggX7_bestSwap_X7_allCrossings
set_option maxRecDepth 20000 in
theorem ggX7_bestSwap_X5_sizeOf : GoodIn wsX7_bestSwap wsX5_sizeOf := goodIn_r _ [20, 21, 83, 84, 85, 86, 87, 88, 89, 90, 91, 92] (by decide +kernel) (by decide +kernel)
set_option maxRecDepth 20000 in
theorem gX7_bestSwap_X5_sizeOf : GoodIn wsX7_bestSwap (wsV RX7 100 RX5 yX5_sizeOf wsX5_sizeOf) := goodIn_app (goodIn_of _ (by decide +kernel)) ggX7_bestSwap_X5_sizeOf
set_option maxRecDepth 20000 in
theorem ggX7_bestSwap_X5_exchange : GoodIn wsX7_bestSwap wsX5_exchange := goodIn_r _ [66, 67, 23, 24, 19, 25, 26, 27, 17, 18, 20, 21, 68, 69, 70, 71, 57, 37, 38, 39, 40, 41, 83, 84, 85, 86, 87, 88, 89, 90, 91, 92] (by decide +kernel) (by decide +kernel)
set_option maxRecDepth 20000 in
theorem gX7_bestSwap_X5_exchange : GoodIn wsX7_bestSwap (wsV RX7 109 RX5 yX5_exchange wsX5_exchange) := goodIn_app (goodIn_of _ (by decide +kernel)) ggX7_bestSwap_X5_exchange
theorem dX7_bestSwap_0 : decode cX7_bestSwap 0 = .ok (.aload_n 0, 1) := by decide +kernel
theorem dX7_bestSwap_1 : decode cX7_bestSwap 1 = .ok (.invokevirtual 105, 3) := by decide +kernel
theorem dX7_bestSwap_4 : decode cX7_bestSwap 4 = .ok (.istore_n 1, 1) := by decide +kernel
theorem dX7_bestSwap_5 : decode cX7_bestSwap 5 = .ok (.iconst (-1), 1) := by decide +kernel
theorem dX7_bestSwap_6 : decode cX7_bestSwap 6 = .ok (.istore_n 2, 1) := by decide +kernel
theorem dX7_bestSwap_7 : decode cX7_bestSwap 7 = .ok (.iconst 0, 1) := by decide +kernel
theorem dX7_bestSwap_8 : decode cX7_bestSwap 8 = .ok (.istore_n 3, 1) := by decide +kernel
theorem dX7_bestSwap_9 : decode cX7_bestSwap 9 = .ok (.iload_n 3, 1) := by decide +kernel
theorem dX7_bestSwap_10 : decode cX7_bestSwap 10 = .ok (.iconst 4, 1) := by decide +kernel
theorem dX7_bestSwap_11 : decode cX7_bestSwap 11 = .ok (.if_icmp .ge 76, 3) := by decide +kernel
theorem dX7_bestSwap_14 : decode cX7_bestSwap 14 = .ok (.iconst 0, 1) := by decide +kernel
theorem dX7_bestSwap_15 : decode cX7_bestSwap 15 = .ok (.istore 4, 2) := by decide +kernel
theorem dX7_bestSwap_17 : decode cX7_bestSwap 17 = .ok (.iload 4, 2) := by decide +kernel
theorem dX7_bestSwap_19 : decode cX7_bestSwap 19 = .ok (.aload_n 0, 1) := by decide +kernel
theorem dX7_bestSwap_20 : decode cX7_bestSwap 20 = .ok (.getfield 10, 3) := by decide +kernel
theorem dX7_bestSwap_23 : decode cX7_bestSwap 23 = .ok (.iload_n 3, 1) := by decide +kernel
theorem dX7_bestSwap_24 : decode cX7_bestSwap 24 = .ok (.invokevirtual 100, 3) := by decide +kernel
theorem dX7_bestSwap_27 : decode cX7_bestSwap 27 = .ok (.iconst 1, 1) := by decide +kernel
theorem dX7_bestSwap_28 : decode cX7_bestSwap 28 = .ok (.isub, 1) := by decide +kernel
theorem dX7_bestSwap_29 : decode cX7_bestSwap 29 = .ok (.if_icmp .ge 52, 3) := by decide +kernel
theorem dX7_bestSwap_32 : decode cX7_bestSwap 32 = .ok (.aload_n 0, 1) := by decide +kernel
theorem dX7_bestSwap_33 : decode cX7_bestSwap 33 = .ok (.getfield 10, 3) := by decide +kernel
theorem dX7_bestSwap_36 : decode cX7_bestSwap 36 = .ok (.iload_n 3, 1) := by decide +kernel
theorem dX7_bestSwap_37 : decode cX7_bestSwap 37 = .ok (.iload 4, 2) := by decide +kernel
theorem dX7_bestSwap_39 : decode cX7_bestSwap 39 = .ok (.invokevirtual 109, 3) := by decide +kernel
theorem dX7_bestSwap_42 : decode cX7_bestSwap 42 = .ok (.aload_n 0, 1) := by decide +kernel
theorem dX7_bestSwap_43 : decode cX7_bestSwap 43 = .ok (.invokevirtual 105, 3) := by decide +kernel
theorem dX7_bestSwap_46 : decode cX7_bestSwap 46 = .ok (.istore 5, 2) := by decide +kernel
theorem dX7_bestSwap_48 : decode cX7_bestSwap 48 = .ok (.aload_n 0, 1) := by decide +kernel
theorem dX7_bestSwap_49 : decode cX7_bestSwap 49 = .ok (.getfield 10, 3) := by decide +kernel
theorem dX7_bestSwap_52 : decode cX7_bestSwap 52 = .ok (.iload_n 3, 1) := by decide +kernel
theorem dX7_bestSwap_53 : decode cX7_bestSwap 53 = .ok (.iload 4, 2) := by decide +kernel
theorem dX7_bestSwap_55 : decode cX7_bestSwap 55 = .ok (.invokevirtual 109, 3) := by decide +kernel
theorem dX7_bestSwap_58 : decode cX7_bestSwap 58 = .ok (.iload 5, 2) := by decide +kernel
theorem dX7_bestSwap_60 : decode cX7_bestSwap 60 = .ok (.iload_n 1, 1) := by decide +kernel
theorem dX7_bestSwap_61 : decode cX7_bestSwap 61 = .ok (.if_icmp .ge 14, 3) := by decide +kernel
theorem dX7_bestSwap_64 : decode cX7_bestSwap 64 = .ok (.iload 5, 2) := by decide +kernel
theorem dX7_bestSwap_66 : decode cX7_bestSwap 66 = .ok (.istore_n 1, 1) := by decide +kernel
theorem dX7_bestSwap_67 : decode cX7_bestSwap 67 = .ok (.bipush 10, 2) := by decide +kernel
theorem dX7_bestSwap_69 : decode cX7_bestSwap 69 = .ok (.iload_n 3, 1) := by decide +kernel
theorem dX7_bestSwap_70 : decode cX7_bestSwap 70 = .ok (.imul, 1) := by decide +kernel
theorem dX7_bestSwap_71 : decode cX7_bestSwap 71 = .ok (.iload 4, 2) := by decide +kernel
theorem dX7_bestSwap_73 : decode cX7_bestSwap 73 = .ok (.iadd, 1) := by decide +kernel
theorem dX7_bestSwap_74 : decode cX7_bestSwap 74 = .ok (.istore_n 2, 1) := by decide +kernel
theorem dX7_bestSwap_75 : decode cX7_bestSwap 75 = .ok (.iinc 4 1, 3) := by decide +kernel
theorem dX7_bestSwap_78 : decode cX7_bestSwap 78 = .ok (.goto (-61), 3) := by decide +kernel
theorem dX7_bestSwap_81 : decode cX7_bestSwap 81 = .ok (.iinc 3 1, 3) := by decide +kernel
theorem dX7_bestSwap_84 : decode cX7_bestSwap 84 = .ok (.goto (-75), 3) := by decide +kernel
theorem dX7_bestSwap_87 : decode cX7_bestSwap 87 = .ok (.iload_n 2, 1) := by decide +kernel
theorem dX7_bestSwap_88 : decode cX7_bestSwap 88 = .ok (.ireturn, 1) := by decide +kernel
set_option maxRecDepth 20000 in
theorem ggX7_nearness_X5_isPerson : GoodIn wsX7_nearness wsX5_isPerson := goodIn_r _ [8, 9, 58, 59, 60, 61, 62, 63, 64, 65, 66, 67] (by decide +kernel) (by decide +kernel)
set_option maxRecDepth 20000 in
theorem gX7_nearness_X5_isPerson : GoodIn wsX7_nearness (wsV RX7 78 RX5 yX5_isPerson wsX5_isPerson) := goodIn_app (goodIn_of _ (by decide +kernel)) ggX7_nearness_X5_isPerson
set_option maxRecDepth 20000 in
theorem ggX7_nearness_X0_fewestLines : GoodIn wsX7_nearness wsX0_fewestLines := goodIn_r _ [13, 14, 15, 12, 16, 17, 18, 19, 20, 21, 22, 7, 23, 24, 25, 5, 6, 8, 9, 26, 27, 28, 29, 30, 31, 32, 33, 34, 35, 36, 37, 38, 39, 40, 41, 42, 43, 44, 45, 46, 47, 48, 49, 58, 59, 60, 61, 62, 63, 64, 65, 66, 67] (by decide +kernel) (by decide +kernel)
set_option maxRecDepth 20000 in
theorem gX7_nearness_X0_fewestLines : GoodIn wsX7_nearness (va_wsS RX7 268 yX0_fewestLines wsX0_fewestLines) := goodIn_app (goodIn_of _ (by decide +kernel)) ggX7_nearness_X0_fewestLines
theorem dX7_nearness_0 : decode cX7_nearness 0 = .ok (.aload_n 0, 1) := by decide +kernel
theorem dX7_nearness_1 : decode cX7_nearness 1 = .ok (.getfield 10, 3) := by decide +kernel
theorem dX7_nearness_4 : decode cX7_nearness 4 = .ok (.iload_n 1, 1) := by decide +kernel
theorem dX7_nearness_5 : decode cX7_nearness 5 = .ok (.invokevirtual 78, 3) := by decide +kernel
theorem dX7_nearness_8 : decode cX7_nearness 8 = .ok (.ifCond .eq 14, 3) := by decide +kernel
theorem dX7_nearness_11 : decode cX7_nearness 11 = .ok (.aload_n 0, 1) := by decide +kernel
theorem dX7_nearness_12 : decode cX7_nearness 12 = .ok (.getfield 10, 3) := by decide +kernel
theorem dX7_nearness_15 : decode cX7_nearness 15 = .ok (.iload_n 2, 1) := by decide +kernel
theorem dX7_nearness_16 : decode cX7_nearness 16 = .ok (.invokevirtual 78, 3) := by decide +kernel
theorem dX7_nearness_19 : decode cX7_nearness 19 = .ok (.ifCond .ne 13, 3) := by decide +kernel
theorem dX7_nearness_22 : decode cX7_nearness 22 = .ok (.new 63, 3) := by decide +kernel
theorem dX7_nearness_25 : decode cX7_nearness 25 = .ok (.dup, 1) := by decide +kernel
theorem dX7_nearness_26 : decode cX7_nearness 26 = .ok (.ldc 81, 2) := by decide +kernel
theorem dX7_nearness_28 : decode cX7_nearness 28 = .ok (.invokespecial 67, 3) := by decide +kernel
theorem dX7_nearness_31 : decode cX7_nearness 31 = .ok (.athrow, 1) := by decide +kernel
theorem dX7_nearness_32 : decode cX7_nearness 32 = .ok (.aload_n 0, 1) := by decide +kernel
theorem dX7_nearness_33 : decode cX7_nearness 33 = .ok (.getfield 10, 3) := by decide +kernel
theorem dX7_nearness_36 : decode cX7_nearness 36 = .ok (.iload_n 1, 1) := by decide +kernel
theorem dX7_nearness_37 : decode cX7_nearness 37 = .ok (.iload_n 2, 1) := by decide +kernel
theorem dX7_nearness_38 : decode cX7_nearness 38 = .ok (.invokestatic 268, 3) := by decide +kernel
theorem dX7_nearness_41 : decode cX7_nearness 41 = .ok (.ireturn, 1) := by decide +kernel
set_option maxRecDepth 20000 in
theorem ggX7_straightShare_X5_lines : GoodIn wsX7_straightShare wsX5_lines := goodIn_r _ [6, 7, 8, 9, 10, 5, 11, 12, 53, 54, 55, 56, 57, 58, 59, 60, 61, 62] (by decide +kernel) (by decide +kernel)
set_option maxRecDepth 20000 in
theorem gX7_straightShare_X5_lines : GoodIn wsX7_straightShare (wsV RX7 248 RX5 yX5_lines wsX5_lines) := goodIn_app (goodIn_of _ (by decide +kernel)) ggX7_straightShare_X5_lines
set_option maxRecDepth 20000 in
theorem ggX7_straightShare_X5_bentLines : GoodIn wsX7_straightShare wsX5_bentLines := goodIn_r _ [16, 7, 12, 17, 18, 19, 20, 5, 21, 22, 23, 24, 25, 26, 27, 28, 29, 30, 31, 32, 33, 34, 35, 36, 37, 38, 39, 40, 41, 42, 43, 44, 53, 54, 55, 56, 57, 58, 59, 60, 61, 62] (by decide +kernel) (by decide +kernel)
set_option maxRecDepth 20000 in
theorem gX7_straightShare_X5_bentLines : GoodIn wsX7_straightShare (wsV RX7 250 RX5 yX5_bentLines wsX5_bentLines) := goodIn_app (goodIn_of _ (by decide +kernel)) ggX7_straightShare_X5_bentLines
theorem dX7_straightShare_0 : decode cX7_straightShare 0 = .ok (.aload_n 0, 1) := by decide +kernel
theorem dX7_straightShare_1 : decode cX7_straightShare 1 = .ok (.getfield 10, 3) := by decide +kernel
theorem dX7_straightShare_4 : decode cX7_straightShare 4 = .ok (.invokevirtual 248, 3) := by decide +kernel
theorem dX7_straightShare_7 : decode cX7_straightShare 7 = .ok (.istore_n 1, 1) := by decide +kernel
theorem dX7_straightShare_8 : decode cX7_straightShare 8 = .ok (.iload_n 1, 1) := by decide +kernel
theorem dX7_straightShare_9 : decode cX7_straightShare 9 = .ok (.ifCond .ne 5, 3) := by decide +kernel
theorem dX7_straightShare_12 : decode cX7_straightShare 12 = .ok (.dconst 1, 1) := by decide +kernel
theorem dX7_straightShare_13 : decode cX7_straightShare 13 = .ok (.dreturn, 1) := by decide +kernel
theorem dX7_straightShare_14 : decode cX7_straightShare 14 = .ok (.iload_n 1, 1) := by decide +kernel
theorem dX7_straightShare_15 : decode cX7_straightShare 15 = .ok (.aload_n 0, 1) := by decide +kernel
theorem dX7_straightShare_16 : decode cX7_straightShare 16 = .ok (.getfield 10, 3) := by decide +kernel
theorem dX7_straightShare_19 : decode cX7_straightShare 19 = .ok (.invokevirtual 250, 3) := by decide +kernel
theorem dX7_straightShare_22 : decode cX7_straightShare 22 = .ok (.isub, 1) := by decide +kernel
theorem dX7_straightShare_23 : decode cX7_straightShare 23 = .ok (.i2d, 1) := by decide +kernel
theorem dX7_straightShare_24 : decode cX7_straightShare 24 = .ok (.iload_n 1, 1) := by decide +kernel
theorem dX7_straightShare_25 : decode cX7_straightShare 25 = .ok (.i2d, 1) := by decide +kernel
theorem dX7_straightShare_26 : decode cX7_straightShare 26 = .ok (.ddiv, 1) := by decide +kernel
theorem dX7_straightShare_27 : decode cX7_straightShare 27 = .ok (.dreturn, 1) := by decide +kernel
theorem dX7_isRow_0 : decode cX7_isRow 0 = .ok (.iload_n 0, 1) := by decide +kernel
theorem dX7_isRow_1 : decode cX7_isRow 1 = .ok (.ifCond .lt 12, 3) := by decide +kernel
theorem dX7_isRow_4 : decode cX7_isRow 4 = .ok (.iload_n 0, 1) := by decide +kernel
theorem dX7_isRow_5 : decode cX7_isRow 5 = .ok (.iconst 4, 1) := by decide +kernel
theorem dX7_isRow_6 : decode cX7_isRow 6 = .ok (.if_icmp .ge 7, 3) := by decide +kernel
theorem dX7_isRow_9 : decode cX7_isRow 9 = .ok (.iconst 1, 1) := by decide +kernel
theorem dX7_isRow_10 : decode cX7_isRow 10 = .ok (.goto 4, 3) := by decide +kernel
theorem dX7_isRow_13 : decode cX7_isRow 13 = .ok (.iconst 0, 1) := by decide +kernel
theorem dX7_isRow_14 : decode cX7_isRow 14 = .ok (.ireturn, 1) := by decide +kernel
set_option maxRecDepth 20000 in
theorem ggX7_allCrossings_X2_collect : GoodIn wsX7_allCrossings wsX2_collect := goodIn_r _ [7, 8, 9, 10, 11, 12, 13, 14, 15, 16, 17, 18, 19, 20, 21, 22, 23, 24, 25, 26, 27, 28, 29, 30, 31, 32, 33, 34, 35, 36, 37, 38, 39, 40, 41, 42, 43, 44, 45, 46, 47, 48, 49, 50, 51, 52, 65, 66, 67, 68, 69, 70, 71, 72, 73, 74, 75, 76, 77] (by decide +kernel) (by decide +kernel)
set_option maxRecDepth 20000 in
theorem gX7_allCrossings_X2_collect : GoodIn wsX7_allCrossings (wsV RX7 236 RX2 yX2_collect wsX2_collect) := goodIn_app (goodIn_of _ (by decide +kernel)) ggX7_allCrossings_X2_collect
set_option maxRecDepth 20000 in
theorem ggX7_allCrossings_X2_crossedPairs : GoodIn wsX7_allCrossings wsX2_crossedPairs := goodIn_r _ [56, 8, 9, 65, 66, 67] (by decide +kernel) (by decide +kernel)
set_option maxRecDepth 20000 in
theorem gX7_allCrossings_X2_crossedPairs : GoodIn wsX7_allCrossings (wsV RX7 239 RX2 yX2_crossedPairs wsX2_crossedPairs) := goodIn_app (goodIn_of _ (by decide +kernel)) ggX7_allCrossings_X2_crossedPairs
theorem dX7_allCrossings_0 : decode cX7_allCrossings 0 = .ok (.iconst 0, 1) := by decide +kernel
theorem dX7_allCrossings_1 : decode cX7_allCrossings 1 = .ok (.istore_n 1, 1) := by decide +kernel
theorem dX7_allCrossings_2 : decode cX7_allCrossings 2 = .ok (.iconst 0, 1) := by decide +kernel
theorem dX7_allCrossings_3 : decode cX7_allCrossings 3 = .ok (.istore_n 2, 1) := by decide +kernel
theorem dX7_allCrossings_4 : decode cX7_allCrossings 4 = .ok (.iload_n 2, 1) := by decide +kernel
theorem dX7_allCrossings_5 : decode cX7_allCrossings 5 = .ok (.iconst 4, 1) := by decide +kernel
theorem dX7_allCrossings_6 : decode cX7_allCrossings 6 = .ok (.if_icmp .ge 31, 3) := by decide +kernel
theorem dX7_allCrossings_9 : decode cX7_allCrossings 9 = .ok (.aload_n 0, 1) := by decide +kernel
theorem dX7_allCrossings_10 : decode cX7_allCrossings 10 = .ok (.getfield 41, 3) := by decide +kernel
theorem dX7_allCrossings_13 : decode cX7_allCrossings 13 = .ok (.aload_n 0, 1) := by decide +kernel
theorem dX7_allCrossings_14 : decode cX7_allCrossings 14 = .ok (.getfield 10, 3) := by decide +kernel
theorem dX7_allCrossings_17 : decode cX7_allCrossings 17 = .ok (.iload_n 2, 1) := by decide +kernel
theorem dX7_allCrossings_18 : decode cX7_allCrossings 18 = .ok (.invokevirtual 236, 3) := by decide +kernel
theorem dX7_allCrossings_21 : decode cX7_allCrossings 21 = .ok (.iload_n 1, 1) := by decide +kernel
theorem dX7_allCrossings_22 : decode cX7_allCrossings 22 = .ok (.aload_n 0, 1) := by decide +kernel
theorem dX7_allCrossings_23 : decode cX7_allCrossings 23 = .ok (.getfield 41, 3) := by decide +kernel
theorem dX7_allCrossings_26 : decode cX7_allCrossings 26 = .ok (.invokevirtual 239, 3) := by decide +kernel
theorem dX7_allCrossings_29 : decode cX7_allCrossings 29 = .ok (.iadd, 1) := by decide +kernel
theorem dX7_allCrossings_30 : decode cX7_allCrossings 30 = .ok (.istore_n 1, 1) := by decide +kernel
theorem dX7_allCrossings_31 : decode cX7_allCrossings 31 = .ok (.iinc 2 1, 3) := by decide +kernel
theorem dX7_allCrossings_34 : decode cX7_allCrossings 34 = .ok (.goto (-30), 3) := by decide +kernel
theorem dX7_allCrossings_37 : decode cX7_allCrossings 37 = .ok (.iload_n 1, 1) := by decide +kernel
theorem dX7_allCrossings_38 : decode cX7_allCrossings 38 = .ok (.ireturn, 1) := by decide +kernel
theorem dJ6_bitCount_0f7a4_0 : decode cJ6_bitCount_0f7a4 0 = .ok (.iload_n 0, 1) := by decide +kernel
theorem dJ6_bitCount_0f7a4_1 : decode cJ6_bitCount_0f7a4 1 = .ok (.iload_n 0, 1) := by decide +kernel
theorem dJ6_bitCount_0f7a4_2 : decode cJ6_bitCount_0f7a4 2 = .ok (.iconst 1, 1) := by decide +kernel
theorem dJ6_bitCount_0f7a4_3 : decode cJ6_bitCount_0f7a4 3 = .ok (.iushr, 1) := by decide +kernel
theorem dJ6_bitCount_0f7a4_4 : decode cJ6_bitCount_0f7a4 4 = .ok (.ldc_w 265, 3) := by decide +kernel
theorem dJ6_bitCount_0f7a4_7 : decode cJ6_bitCount_0f7a4 7 = .ok (.iand, 1) := by decide +kernel
theorem dJ6_bitCount_0f7a4_8 : decode cJ6_bitCount_0f7a4 8 = .ok (.isub, 1) := by decide +kernel
theorem dJ6_bitCount_0f7a4_9 : decode cJ6_bitCount_0f7a4 9 = .ok (.istore_n 0, 1) := by decide +kernel
theorem dJ6_bitCount_0f7a4_10 : decode cJ6_bitCount_0f7a4 10 = .ok (.iload_n 0, 1) := by decide +kernel
theorem dJ6_bitCount_0f7a4_11 : decode cJ6_bitCount_0f7a4 11 = .ok (.ldc_w 266, 3) := by decide +kernel
theorem dJ6_bitCount_0f7a4_14 : decode cJ6_bitCount_0f7a4 14 = .ok (.iand, 1) := by decide +kernel
theorem dJ6_bitCount_0f7a4_15 : decode cJ6_bitCount_0f7a4 15 = .ok (.iload_n 0, 1) := by decide +kernel
theorem dJ6_bitCount_0f7a4_16 : decode cJ6_bitCount_0f7a4 16 = .ok (.iconst 2, 1) := by decide +kernel
theorem dJ6_bitCount_0f7a4_17 : decode cJ6_bitCount_0f7a4 17 = .ok (.iushr, 1) := by decide +kernel
theorem dJ6_bitCount_0f7a4_18 : decode cJ6_bitCount_0f7a4 18 = .ok (.ldc_w 266, 3) := by decide +kernel
theorem dJ6_bitCount_0f7a4_21 : decode cJ6_bitCount_0f7a4 21 = .ok (.iand, 1) := by decide +kernel
theorem dJ6_bitCount_0f7a4_22 : decode cJ6_bitCount_0f7a4 22 = .ok (.iadd, 1) := by decide +kernel
theorem dJ6_bitCount_0f7a4_23 : decode cJ6_bitCount_0f7a4 23 = .ok (.istore_n 0, 1) := by decide +kernel
theorem dJ6_bitCount_0f7a4_24 : decode cJ6_bitCount_0f7a4 24 = .ok (.iload_n 0, 1) := by decide +kernel
theorem dJ6_bitCount_0f7a4_25 : decode cJ6_bitCount_0f7a4 25 = .ok (.iload_n 0, 1) := by decide +kernel
theorem dJ6_bitCount_0f7a4_26 : decode cJ6_bitCount_0f7a4 26 = .ok (.iconst 4, 1) := by decide +kernel
theorem dJ6_bitCount_0f7a4_27 : decode cJ6_bitCount_0f7a4 27 = .ok (.iushr, 1) := by decide +kernel
theorem dJ6_bitCount_0f7a4_28 : decode cJ6_bitCount_0f7a4 28 = .ok (.iadd, 1) := by decide +kernel
theorem dJ6_bitCount_0f7a4_29 : decode cJ6_bitCount_0f7a4 29 = .ok (.ldc_w 267, 3) := by decide +kernel
theorem dJ6_bitCount_0f7a4_32 : decode cJ6_bitCount_0f7a4 32 = .ok (.iand, 1) := by decide +kernel
theorem dJ6_bitCount_0f7a4_33 : decode cJ6_bitCount_0f7a4 33 = .ok (.istore_n 0, 1) := by decide +kernel
theorem dJ6_bitCount_0f7a4_34 : decode cJ6_bitCount_0f7a4 34 = .ok (.iload_n 0, 1) := by decide +kernel
theorem dJ6_bitCount_0f7a4_35 : decode cJ6_bitCount_0f7a4 35 = .ok (.iload_n 0, 1) := by decide +kernel
theorem dJ6_bitCount_0f7a4_36 : decode cJ6_bitCount_0f7a4 36 = .ok (.bipush 8, 2) := by decide +kernel
theorem dJ6_bitCount_0f7a4_38 : decode cJ6_bitCount_0f7a4 38 = .ok (.iushr, 1) := by decide +kernel
theorem dJ6_bitCount_0f7a4_39 : decode cJ6_bitCount_0f7a4 39 = .ok (.iadd, 1) := by decide +kernel
theorem dJ6_bitCount_0f7a4_40 : decode cJ6_bitCount_0f7a4 40 = .ok (.istore_n 0, 1) := by decide +kernel
theorem dJ6_bitCount_0f7a4_41 : decode cJ6_bitCount_0f7a4 41 = .ok (.iload_n 0, 1) := by decide +kernel
theorem dJ6_bitCount_0f7a4_42 : decode cJ6_bitCount_0f7a4 42 = .ok (.iload_n 0, 1) := by decide +kernel
theorem dJ6_bitCount_0f7a4_43 : decode cJ6_bitCount_0f7a4 43 = .ok (.bipush 16, 2) := by decide +kernel
theorem dJ6_bitCount_0f7a4_45 : decode cJ6_bitCount_0f7a4 45 = .ok (.iushr, 1) := by decide +kernel
theorem dJ6_bitCount_0f7a4_46 : decode cJ6_bitCount_0f7a4 46 = .ok (.iadd, 1) := by decide +kernel
theorem dJ6_bitCount_0f7a4_47 : decode cJ6_bitCount_0f7a4 47 = .ok (.istore_n 0, 1) := by decide +kernel
theorem dJ6_bitCount_0f7a4_48 : decode cJ6_bitCount_0f7a4 48 = .ok (.iload_n 0, 1) := by decide +kernel
theorem dJ6_bitCount_0f7a4_49 : decode cJ6_bitCount_0f7a4 49 = .ok (.bipush 63, 2) := by decide +kernel
theorem dJ6_bitCount_0f7a4_51 : decode cJ6_bitCount_0f7a4 51 = .ok (.iand, 1) := by decide +kernel
theorem dJ6_bitCount_0f7a4_52 : decode cJ6_bitCount_0f7a4 52 = .ok (.ireturn, 1) := by decide +kernel
theorem dJ9_max_7cf53_0 : decode cJ9_max_7cf53 0 = .ok (.iload_n 0, 1) := by decide +kernel
theorem dJ9_max_7cf53_1 : decode cJ9_max_7cf53 1 = .ok (.iload_n 1, 1) := by decide +kernel
theorem dJ9_max_7cf53_2 : decode cJ9_max_7cf53 2 = .ok (.if_icmp .lt 7, 3) := by decide +kernel
theorem dJ9_max_7cf53_5 : decode cJ9_max_7cf53 5 = .ok (.iload_n 0, 1) := by decide +kernel
theorem dJ9_max_7cf53_6 : decode cJ9_max_7cf53 6 = .ok (.goto 4, 3) := by decide +kernel
theorem dJ9_max_7cf53_9 : decode cJ9_max_7cf53 9 = .ok (.iload_n 1, 1) := by decide +kernel
theorem dJ9_max_7cf53_10 : decode cJ9_max_7cf53 10 = .ok (.ireturn, 1) := by decide +kernel
theorem dJ9_min_7cf53_0 : decode cJ9_min_7cf53 0 = .ok (.iload_n 0, 1) := by decide +kernel
theorem dJ9_min_7cf53_1 : decode cJ9_min_7cf53 1 = .ok (.iload_n 1, 1) := by decide +kernel
theorem dJ9_min_7cf53_2 : decode cJ9_min_7cf53 2 = .ok (.if_icmp .gt 7, 3) := by decide +kernel
theorem dJ9_min_7cf53_5 : decode cJ9_min_7cf53 5 = .ok (.iload_n 0, 1) := by decide +kernel
theorem dJ9_min_7cf53_6 : decode cJ9_min_7cf53 6 = .ok (.goto 4, 3) := by decide +kernel
theorem dJ9_min_7cf53_9 : decode cJ9_min_7cf53 9 = .ok (.iload_n 1, 1) := by decide +kernel
theorem dJ9_min_7cf53_10 : decode cJ9_min_7cf53 10 = .ok (.ireturn, 1) := by decide +kernel
theorem dL_cell_0 : decode cL_cell 0 = .ok (.iload_n 1, 1) := by decide +kernel
theorem dL_cell_1 : decode cL_cell 1 = .ok (.aload_n 0, 1) := by decide +kernel
theorem dL_cell_2 : decode cL_cell 2 = .ok (.arraylength, 1) := by decide +kernel
theorem dL_cell_3 : decode cL_cell 3 = .ok (.if_icmp .ge 9, 3) := by decide +kernel
theorem dL_cell_6 : decode cL_cell 6 = .ok (.aload_n 0, 1) := by decide +kernel
theorem dL_cell_7 : decode cL_cell 7 = .ok (.iload_n 1, 1) := by decide +kernel
theorem dL_cell_8 : decode cL_cell 8 = .ok (.iaload, 1) := by decide +kernel
theorem dL_cell_9 : decode cL_cell 9 = .ok (.goto 9, 3) := by decide +kernel
theorem dL_cell_12 : decode cL_cell 12 = .ok (.ldc 7, 2) := by decide +kernel
theorem dL_cell_14 : decode cL_cell 14 = .ok (.iload_n 1, 1) := by decide +kernel
theorem dL_cell_15 : decode cL_cell 15 = .ok (.iconst 1, 1) := by decide +kernel
theorem dL_cell_16 : decode cL_cell 16 = .ok (.iadd, 1) := by decide +kernel
theorem dL_cell_17 : decode cL_cell 17 = .ok (.imul, 1) := by decide +kernel
theorem dL_cell_18 : decode cL_cell 18 = .ok (.ireturn, 1) := by decide +kernel
theorem dL_low_0 : decode cL_low 0 = .ok (.iload_n 0, 1) := by decide +kernel
theorem dL_low_1 : decode cL_low 1 = .ok (.ldc 8, 2) := by decide +kernel
theorem dL_low_3 : decode cL_low 3 = .ok (.iand, 1) := by decide +kernel
theorem dL_low_4 : decode cL_low 4 = .ok (.iload_n 1, 1) := by decide +kernel
theorem dL_low_5 : decode cL_low 5 = .ok (.irem, 1) := by decide +kernel
theorem dL_low_6 : decode cL_low 6 = .ok (.ireturn, 1) := by decide +kernel
theorem dL_place_0 : decode cL_place 0 = .ok (.bipush 6, 2) := by decide +kernel
theorem dL_place_2 : decode cL_place 2 = .ok (.aload_n 0, 1) := by decide +kernel
theorem dL_place_3 : decode cL_place 3 = .ok (.iconst 2, 1) := by decide +kernel
theorem dL_place_4 : decode cL_place 4 = .ok (.iload_n 2, 1) := by decide +kernel
theorem dL_place_5 : decode cL_place 5 = .ok (.imul, 1) := by decide +kernel
theorem dL_place_6 : decode cL_place 6 = .ok (.iaload, 1) := by decide +kernel
theorem dL_place_7 : decode cL_place 7 = .ok (.imul, 1) := by decide +kernel
theorem dL_place_8 : decode cL_place 8 = .ok (.istore_n 3, 1) := by decide +kernel
theorem dL_place_9 : decode cL_place 9 = .ok (.aload_n 1, 1) := by decide +kernel
theorem dL_place_10 : decode cL_place 10 = .ok (.iload_n 3, 1) := by decide +kernel
theorem dL_place_11 : decode cL_place 11 = .ok (.iaload, 1) := by decide +kernel
theorem dL_place_12 : decode cL_place 12 = .ok (.iload_n 2, 1) := by decide +kernel
theorem dL_place_13 : decode cL_place 13 = .ok (.if_icmp .eq 9, 3) := by decide +kernel
theorem dL_place_16 : decode cL_place 16 = .ok (.iinc 3 1, 3) := by decide +kernel
theorem dL_place_19 : decode cL_place 19 = .ok (.goto (-10), 3) := by decide +kernel
theorem dL_place_22 : decode cL_place 22 = .ok (.iload_n 3, 1) := by decide +kernel
theorem dL_place_23 : decode cL_place 23 = .ok (.bipush 6, 2) := by decide +kernel
theorem dL_place_25 : decode cL_place 25 = .ok (.irem, 1) := by decide +kernel
theorem dL_place_26 : decode cL_place 26 = .ok (.ireturn, 1) := by decide +kernel
set_option maxRecDepth 20000 in
theorem ggL_middle_L_place : GoodIn wsL_middle wsL_place := goodIn_r _ [4] (by decide +kernel) (by decide +kernel)
set_option maxRecDepth 20000 in
theorem gL_middle_L_place : GoodIn wsL_middle (va_wsS RL 9 yL_place wsL_place) := goodIn_app (goodIn_of _ (by decide +kernel)) ggL_middle_L_place
theorem dL_middle_0 : decode cL_middle 0 = .ok (.aload_n 0, 1) := by decide +kernel
theorem dL_middle_1 : decode cL_middle 1 = .ok (.aload_n 2, 1) := by decide +kernel
theorem dL_middle_2 : decode cL_middle 2 = .ok (.aload_n 1, 1) := by decide +kernel
theorem dL_middle_3 : decode cL_middle 3 = .ok (.iconst 2, 1) := by decide +kernel
theorem dL_middle_4 : decode cL_middle 4 = .ok (.iload_n 3, 1) := by decide +kernel
theorem dL_middle_5 : decode cL_middle 5 = .ok (.imul, 1) := by decide +kernel
theorem dL_middle_6 : decode cL_middle 6 = .ok (.iaload, 1) := by decide +kernel
theorem dL_middle_7 : decode cL_middle 7 = .ok (.invokestatic 9, 3) := by decide +kernel
theorem dL_middle_10 : decode cL_middle 10 = .ok (.aload_n 0, 1) := by decide +kernel
theorem dL_middle_11 : decode cL_middle 11 = .ok (.aload_n 2, 1) := by decide +kernel
theorem dL_middle_12 : decode cL_middle 12 = .ok (.aload_n 1, 1) := by decide +kernel
theorem dL_middle_13 : decode cL_middle 13 = .ok (.iconst 2, 1) := by decide +kernel
theorem dL_middle_14 : decode cL_middle 14 = .ok (.iload_n 3, 1) := by decide +kernel
theorem dL_middle_15 : decode cL_middle 15 = .ok (.imul, 1) := by decide +kernel
theorem dL_middle_16 : decode cL_middle 16 = .ok (.iconst 1, 1) := by decide +kernel
theorem dL_middle_17 : decode cL_middle 17 = .ok (.iadd, 1) := by decide +kernel
theorem dL_middle_18 : decode cL_middle 18 = .ok (.iaload, 1) := by decide +kernel
theorem dL_middle_19 : decode cL_middle 19 = .ok (.invokestatic 9, 3) := by decide +kernel
theorem dL_middle_22 : decode cL_middle 22 = .ok (.iadd, 1) := by decide +kernel
theorem dL_middle_23 : decode cL_middle 23 = .ok (.ireturn, 1) := by decide +kernel
set_option maxRecDepth 20000 in
theorem ggL_crosses_L_middle : GoodIn wsL_crosses wsL_middle := goodIn_r _ [4, 5, 6, 3, 7] (by decide +kernel) (by decide +kernel)
set_option maxRecDepth 20000 in
theorem gL_crosses_L_middle : GoodIn wsL_crosses (va_wsS RL 15 yL_middle wsL_middle) := goodIn_app (goodIn_of _ (by decide +kernel)) ggL_crosses_L_middle
theorem dL_crosses_0 : decode cL_crosses 0 = .ok (.iconst 0, 1) := by decide +kernel
theorem dL_crosses_1 : decode cL_crosses 1 = .ok (.istore 5, 2) := by decide +kernel
theorem dL_crosses_3 : decode cL_crosses 3 = .ok (.iconst 0, 1) := by decide +kernel
theorem dL_crosses_4 : decode cL_crosses 4 = .ok (.istore 6, 2) := by decide +kernel
theorem dL_crosses_6 : decode cL_crosses 6 = .ok (.iload 6, 2) := by decide +kernel
theorem dL_crosses_8 : decode cL_crosses 8 = .ok (.aload_n 3, 1) := by decide +kernel
theorem dL_crosses_9 : decode cL_crosses 9 = .ok (.iconst 3, 1) := by decide +kernel
theorem dL_crosses_10 : decode cL_crosses 10 = .ok (.iload 4, 2) := by decide +kernel
theorem dL_crosses_12 : decode cL_crosses 12 = .ok (.iadd, 1) := by decide +kernel
theorem dL_crosses_13 : decode cL_crosses 13 = .ok (.iaload, 1) := by decide +kernel
theorem dL_crosses_14 : decode cL_crosses 14 = .ok (.if_icmp .ge 107, 3) := by decide +kernel
theorem dL_crosses_17 : decode cL_crosses 17 = .ok (.iload 6, 2) := by decide +kernel
theorem dL_crosses_19 : decode cL_crosses 19 = .ok (.iconst 1, 1) := by decide +kernel
theorem dL_crosses_20 : decode cL_crosses 20 = .ok (.iadd, 1) := by decide +kernel
theorem dL_crosses_21 : decode cL_crosses 21 = .ok (.istore 7, 2) := by decide +kernel
theorem dL_crosses_23 : decode cL_crosses 23 = .ok (.iload 7, 2) := by decide +kernel
theorem dL_crosses_25 : decode cL_crosses 25 = .ok (.aload_n 3, 1) := by decide +kernel
theorem dL_crosses_26 : decode cL_crosses 26 = .ok (.iconst 3, 1) := by decide +kernel
theorem dL_crosses_27 : decode cL_crosses 27 = .ok (.iload 4, 2) := by decide +kernel
theorem dL_crosses_29 : decode cL_crosses 29 = .ok (.iadd, 1) := by decide +kernel
theorem dL_crosses_30 : decode cL_crosses 30 = .ok (.iaload, 1) := by decide +kernel
theorem dL_crosses_31 : decode cL_crosses 31 = .ok (.if_icmp .ge 84, 3) := by decide +kernel
theorem dL_crosses_34 : decode cL_crosses 34 = .ok (.aload_n 0, 1) := by decide +kernel
theorem dL_crosses_35 : decode cL_crosses 35 = .ok (.iconst 2, 1) := by decide +kernel
theorem dL_crosses_36 : decode cL_crosses 36 = .ok (.aload_n 2, 1) := by decide +kernel
theorem dL_crosses_37 : decode cL_crosses 37 = .ok (.bipush 6, 2) := by decide +kernel
theorem dL_crosses_39 : decode cL_crosses 39 = .ok (.iload 4, 2) := by decide +kernel
theorem dL_crosses_41 : decode cL_crosses 41 = .ok (.imul, 1) := by decide +kernel
theorem dL_crosses_42 : decode cL_crosses 42 = .ok (.iload 6, 2) := by decide +kernel
theorem dL_crosses_44 : decode cL_crosses 44 = .ok (.iadd, 1) := by decide +kernel
theorem dL_crosses_45 : decode cL_crosses 45 = .ok (.iaload, 1) := by decide +kernel
theorem dL_crosses_46 : decode cL_crosses 46 = .ok (.imul, 1) := by decide +kernel
theorem dL_crosses_47 : decode cL_crosses 47 = .ok (.iconst 1, 1) := by decide +kernel
theorem dL_crosses_48 : decode cL_crosses 48 = .ok (.iadd, 1) := by decide +kernel
theorem dL_crosses_49 : decode cL_crosses 49 = .ok (.iaload, 1) := by decide +kernel
theorem dL_crosses_50 : decode cL_crosses 50 = .ok (.istore 8, 2) := by decide +kernel
theorem dL_crosses_52 : decode cL_crosses 52 = .ok (.aload_n 0, 1) := by decide +kernel
theorem dL_crosses_53 : decode cL_crosses 53 = .ok (.iconst 2, 1) := by decide +kernel
theorem dL_crosses_54 : decode cL_crosses 54 = .ok (.aload_n 2, 1) := by decide +kernel
theorem dL_crosses_55 : decode cL_crosses 55 = .ok (.bipush 6, 2) := by decide +kernel
theorem dL_crosses_57 : decode cL_crosses 57 = .ok (.iload 4, 2) := by decide +kernel
theorem dL_crosses_59 : decode cL_crosses 59 = .ok (.imul, 1) := by decide +kernel
theorem dL_crosses_60 : decode cL_crosses 60 = .ok (.iload 7, 2) := by decide +kernel
theorem dL_crosses_62 : decode cL_crosses 62 = .ok (.iadd, 1) := by decide +kernel
theorem dL_crosses_63 : decode cL_crosses 63 = .ok (.iaload, 1) := by decide +kernel
theorem dL_crosses_64 : decode cL_crosses 64 = .ok (.imul, 1) := by decide +kernel
theorem dL_crosses_65 : decode cL_crosses 65 = .ok (.iconst 1, 1) := by decide +kernel
theorem dL_crosses_66 : decode cL_crosses 66 = .ok (.iadd, 1) := by decide +kernel
theorem dL_crosses_67 : decode cL_crosses 67 = .ok (.iaload, 1) := by decide +kernel
theorem dL_crosses_68 : decode cL_crosses 68 = .ok (.istore 9, 2) := by decide +kernel
theorem dL_crosses_70 : decode cL_crosses 70 = .ok (.iload 5, 2) := by decide +kernel
theorem dL_crosses_72 : decode cL_crosses 72 = .ok (.iload 8, 2) := by decide +kernel
theorem dL_crosses_74 : decode cL_crosses 74 = .ok (.ifCond .lt 31, 3) := by decide +kernel
theorem dL_crosses_77 : decode cL_crosses 77 = .ok (.iload 9, 2) := by decide +kernel
theorem dL_crosses_79 : decode cL_crosses 79 = .ok (.ifCond .lt 26, 3) := by decide +kernel
theorem dL_crosses_82 : decode cL_crosses 82 = .ok (.aload_n 0, 1) := by decide +kernel
theorem dL_crosses_83 : decode cL_crosses 83 = .ok (.aload_n 1, 1) := by decide +kernel
theorem dL_crosses_84 : decode cL_crosses 84 = .ok (.aload_n 2, 1) := by decide +kernel
theorem dL_crosses_85 : decode cL_crosses 85 = .ok (.iload 8, 2) := by decide +kernel
theorem dL_crosses_87 : decode cL_crosses 87 = .ok (.invokestatic 15, 3) := by decide +kernel
theorem dL_crosses_90 : decode cL_crosses 90 = .ok (.aload_n 0, 1) := by decide +kernel
theorem dL_crosses_91 : decode cL_crosses 91 = .ok (.aload_n 1, 1) := by decide +kernel
theorem dL_crosses_92 : decode cL_crosses 92 = .ok (.aload_n 2, 1) := by decide +kernel
theorem dL_crosses_93 : decode cL_crosses 93 = .ok (.iload 9, 2) := by decide +kernel
theorem dL_crosses_95 : decode cL_crosses 95 = .ok (.invokestatic 15, 3) := by decide +kernel
theorem dL_crosses_98 : decode cL_crosses 98 = .ok (.if_icmp .le 7, 3) := by decide +kernel
theorem dL_crosses_101 : decode cL_crosses 101 = .ok (.iconst 1, 1) := by decide +kernel
theorem dL_crosses_102 : decode cL_crosses 102 = .ok (.goto 4, 3) := by decide +kernel
theorem dL_crosses_105 : decode cL_crosses 105 = .ok (.iconst 0, 1) := by decide +kernel
theorem dL_crosses_106 : decode cL_crosses 106 = .ok (.iadd, 1) := by decide +kernel
theorem dL_crosses_107 : decode cL_crosses 107 = .ok (.istore 5, 2) := by decide +kernel
theorem dL_crosses_109 : decode cL_crosses 109 = .ok (.iinc 7 1, 3) := by decide +kernel
theorem dL_crosses_112 : decode cL_crosses 112 = .ok (.goto (-89), 3) := by decide +kernel
theorem dL_crosses_115 : decode cL_crosses 115 = .ok (.iinc 6 1, 3) := by decide +kernel
theorem dL_crosses_118 : decode cL_crosses 118 = .ok (.goto (-112), 3) := by decide +kernel
theorem dL_crosses_121 : decode cL_crosses 121 = .ok (.iload 5, 2) := by decide +kernel
theorem dL_crosses_123 : decode cL_crosses 123 = .ok (.ireturn, 1) := by decide +kernel
set_option maxRecDepth 20000 in
theorem ggL_all_L_crosses : GoodIn wsL_all wsL_crosses := goodIn_r _ [4, 5, 6, 3, 7, 8, 9, 10] (by decide +kernel) (by decide +kernel)
set_option maxRecDepth 20000 in
theorem gL_all_L_crosses : GoodIn wsL_all (va_wsS RL 19 yL_crosses wsL_crosses) := goodIn_app (goodIn_of _ (by decide +kernel)) ggL_all_L_crosses
theorem dL_all_0 : decode cL_all 0 = .ok (.aload_n 0, 1) := by decide +kernel
theorem dL_all_1 : decode cL_all 1 = .ok (.aload_n 1, 1) := by decide +kernel
theorem dL_all_2 : decode cL_all 2 = .ok (.aload_n 2, 1) := by decide +kernel
theorem dL_all_3 : decode cL_all 3 = .ok (.aload_n 3, 1) := by decide +kernel
theorem dL_all_4 : decode cL_all 4 = .ok (.iconst 1, 1) := by decide +kernel
theorem dL_all_5 : decode cL_all 5 = .ok (.invokestatic 19, 3) := by decide +kernel
theorem dL_all_8 : decode cL_all 8 = .ok (.aload_n 0, 1) := by decide +kernel
theorem dL_all_9 : decode cL_all 9 = .ok (.aload_n 1, 1) := by decide +kernel
theorem dL_all_10 : decode cL_all 10 = .ok (.aload_n 2, 1) := by decide +kernel
theorem dL_all_11 : decode cL_all 11 = .ok (.aload_n 3, 1) := by decide +kernel
theorem dL_all_12 : decode cL_all 12 = .ok (.iconst 2, 1) := by decide +kernel
theorem dL_all_13 : decode cL_all 13 = .ok (.invokestatic 19, 3) := by decide +kernel
theorem dL_all_16 : decode cL_all 16 = .ok (.iadd, 1) := by decide +kernel
theorem dL_all_17 : decode cL_all 17 = .ok (.aload_n 0, 1) := by decide +kernel
theorem dL_all_18 : decode cL_all 18 = .ok (.aload_n 1, 1) := by decide +kernel
theorem dL_all_19 : decode cL_all 19 = .ok (.aload_n 2, 1) := by decide +kernel
theorem dL_all_20 : decode cL_all 20 = .ok (.aload_n 3, 1) := by decide +kernel
theorem dL_all_21 : decode cL_all 21 = .ok (.iconst 3, 1) := by decide +kernel
theorem dL_all_22 : decode cL_all 22 = .ok (.invokestatic 19, 3) := by decide +kernel
theorem dL_all_25 : decode cL_all 25 = .ok (.iadd, 1) := by decide +kernel
theorem dL_all_26 : decode cL_all 26 = .ok (.ireturn, 1) := by decide +kernel
set_option maxRecDepth 20000 in
theorem ggL_ofTwo_L_crosses : GoodIn wsL_ofTwo wsL_crosses := goodIn_r _ [4, 5, 6, 3, 7, 8, 9, 10] (by decide +kernel) (by decide +kernel)
set_option maxRecDepth 20000 in
theorem gL_ofTwo_L_crosses : GoodIn wsL_ofTwo (va_wsS RL 19 yL_crosses wsL_crosses) := goodIn_app (goodIn_of _ (by decide +kernel)) ggL_ofTwo_L_crosses
theorem dL_ofTwo_0 : decode cL_ofTwo 0 = .ok (.aload_n 0, 1) := by decide +kernel
theorem dL_ofTwo_1 : decode cL_ofTwo 1 = .ok (.aload_n 1, 1) := by decide +kernel
theorem dL_ofTwo_2 : decode cL_ofTwo 2 = .ok (.aload_n 2, 1) := by decide +kernel
theorem dL_ofTwo_3 : decode cL_ofTwo 3 = .ok (.aload_n 3, 1) := by decide +kernel
theorem dL_ofTwo_4 : decode cL_ofTwo 4 = .ok (.iload 4, 2) := by decide +kernel
theorem dL_ofTwo_6 : decode cL_ofTwo 6 = .ok (.invokestatic 19, 3) := by decide +kernel
theorem dL_ofTwo_9 : decode cL_ofTwo 9 = .ok (.iload 4, 2) := by decide +kernel
theorem dL_ofTwo_11 : decode cL_ofTwo 11 = .ok (.iconst 3, 1) := by decide +kernel
theorem dL_ofTwo_12 : decode cL_ofTwo 12 = .ok (.if_icmp .ne 7, 3) := by decide +kernel
theorem dL_ofTwo_15 : decode cL_ofTwo 15 = .ok (.iconst 0, 1) := by decide +kernel
theorem dL_ofTwo_16 : decode cL_ofTwo 16 = .ok (.goto 14, 3) := by decide +kernel
theorem dL_ofTwo_19 : decode cL_ofTwo 19 = .ok (.aload_n 0, 1) := by decide +kernel
theorem dL_ofTwo_20 : decode cL_ofTwo 20 = .ok (.aload_n 1, 1) := by decide +kernel
theorem dL_ofTwo_21 : decode cL_ofTwo 21 = .ok (.aload_n 2, 1) := by decide +kernel
theorem dL_ofTwo_22 : decode cL_ofTwo 22 = .ok (.aload_n 3, 1) := by decide +kernel
theorem dL_ofTwo_23 : decode cL_ofTwo 23 = .ok (.iload 4, 2) := by decide +kernel
theorem dL_ofTwo_25 : decode cL_ofTwo 25 = .ok (.iconst 1, 1) := by decide +kernel
theorem dL_ofTwo_26 : decode cL_ofTwo 26 = .ok (.iadd, 1) := by decide +kernel
theorem dL_ofTwo_27 : decode cL_ofTwo 27 = .ok (.invokestatic 19, 3) := by decide +kernel
theorem dL_ofTwo_30 : decode cL_ofTwo 30 = .ok (.iadd, 1) := by decide +kernel
theorem dL_ofTwo_31 : decode cL_ofTwo 31 = .ok (.ireturn, 1) := by decide +kernel
theorem dL_couples_0 : decode cL_couples 0 = .ok (.iconst 0, 1) := by decide +kernel
theorem dL_couples_1 : decode cL_couples 1 = .ok (.istore_n 3, 1) := by decide +kernel
theorem dL_couples_2 : decode cL_couples 2 = .ok (.iconst 0, 1) := by decide +kernel
theorem dL_couples_3 : decode cL_couples 3 = .ok (.istore 4, 2) := by decide +kernel
theorem dL_couples_5 : decode cL_couples 5 = .ok (.iload 4, 2) := by decide +kernel
theorem dL_couples_7 : decode cL_couples 7 = .ok (.iconst 2, 1) := by decide +kernel
theorem dL_couples_8 : decode cL_couples 8 = .ok (.aload_n 1, 1) := by decide +kernel
theorem dL_couples_9 : decode cL_couples 9 = .ok (.iconst 1, 1) := by decide +kernel
theorem dL_couples_10 : decode cL_couples 10 = .ok (.iaload, 1) := by decide +kernel
theorem dL_couples_11 : decode cL_couples 11 = .ok (.imul, 1) := by decide +kernel
theorem dL_couples_12 : decode cL_couples 12 = .ok (.if_icmp .ge 25, 3) := by decide +kernel
theorem dL_couples_15 : decode cL_couples 15 = .ok (.iload_n 3, 1) := by decide +kernel
theorem dL_couples_16 : decode cL_couples 16 = .ok (.aload_n 0, 1) := by decide +kernel
theorem dL_couples_17 : decode cL_couples 17 = .ok (.iload 4, 2) := by decide +kernel
theorem dL_couples_19 : decode cL_couples 19 = .ok (.iaload, 1) := by decide +kernel
theorem dL_couples_20 : decode cL_couples 20 = .ok (.iload_n 2, 1) := by decide +kernel
theorem dL_couples_21 : decode cL_couples 21 = .ok (.if_icmp .ne 7, 3) := by decide +kernel
theorem dL_couples_24 : decode cL_couples 24 = .ok (.iconst 1, 1) := by decide +kernel
theorem dL_couples_25 : decode cL_couples 25 = .ok (.goto 4, 3) := by decide +kernel
theorem dL_couples_28 : decode cL_couples 28 = .ok (.iconst 0, 1) := by decide +kernel
theorem dL_couples_29 : decode cL_couples 29 = .ok (.iadd, 1) := by decide +kernel
theorem dL_couples_30 : decode cL_couples 30 = .ok (.istore_n 3, 1) := by decide +kernel
theorem dL_couples_31 : decode cL_couples 31 = .ok (.iinc 4 1, 3) := by decide +kernel
theorem dL_couples_34 : decode cL_couples 34 = .ok (.goto (-29), 3) := by decide +kernel
theorem dL_couples_37 : decode cL_couples 37 = .ok (.iload_n 3, 1) := by decide +kernel
theorem dL_couples_38 : decode cL_couples 38 = .ok (.ireturn, 1) := by decide +kernel
theorem dL_ancestors_0 : decode cL_ancestors 0 = .ok (.iconst 1, 1) := by decide +kernel
theorem dL_ancestors_1 : decode cL_ancestors 1 = .ok (.iload_n 3, 1) := by decide +kernel
theorem dL_ancestors_2 : decode cL_ancestors 2 = .ok (.ishl, 1) := by decide +kernel
theorem dL_ancestors_3 : decode cL_ancestors 3 = .ok (.istore 4, 2) := by decide +kernel
theorem dL_ancestors_5 : decode cL_ancestors 5 = .ok (.aload_n 0, 1) := by decide +kernel
theorem dL_ancestors_6 : decode cL_ancestors 6 = .ok (.iconst 2, 1) := by decide +kernel
theorem dL_ancestors_7 : decode cL_ancestors 7 = .ok (.iload_n 3, 1) := by decide +kernel
theorem dL_ancestors_8 : decode cL_ancestors 8 = .ok (.imul, 1) := by decide +kernel
theorem dL_ancestors_9 : decode cL_ancestors 9 = .ok (.iaload, 1) := by decide +kernel
theorem dL_ancestors_10 : decode cL_ancestors 10 = .ok (.istore 5, 2) := by decide +kernel
theorem dL_ancestors_12 : decode cL_ancestors 12 = .ok (.iload 5, 2) := by decide +kernel
theorem dL_ancestors_14 : decode cL_ancestors 14 = .ok (.ifCond .le 111, 3) := by decide +kernel
theorem dL_ancestors_17 : decode cL_ancestors 17 = .ok (.iconst 0, 1) := by decide +kernel
theorem dL_ancestors_18 : decode cL_ancestors 18 = .ok (.istore 6, 2) := by decide +kernel
theorem dL_ancestors_20 : decode cL_ancestors 20 = .ok (.iload 6, 2) := by decide +kernel
theorem dL_ancestors_22 : decode cL_ancestors 22 = .ok (.aload_n 2, 1) := by decide +kernel
theorem dL_ancestors_23 : decode cL_ancestors 23 = .ok (.iconst 0, 1) := by decide +kernel
theorem dL_ancestors_24 : decode cL_ancestors 24 = .ok (.iaload, 1) := by decide +kernel
theorem dL_ancestors_25 : decode cL_ancestors 25 = .ok (.if_icmp .ge 94, 3) := by decide +kernel
theorem dL_ancestors_28 : decode cL_ancestors 28 = .ok (.aload_n 0, 1) := by decide +kernel
theorem dL_ancestors_29 : decode cL_ancestors 29 = .ok (.iconst 2, 1) := by decide +kernel
theorem dL_ancestors_30 : decode cL_ancestors 30 = .ok (.iload 6, 2) := by decide +kernel
theorem dL_ancestors_32 : decode cL_ancestors 32 = .ok (.imul, 1) := by decide +kernel
theorem dL_ancestors_33 : decode cL_ancestors 33 = .ok (.iaload, 1) := by decide +kernel
theorem dL_ancestors_34 : decode cL_ancestors 34 = .ok (.iload 5, 2) := by decide +kernel
theorem dL_ancestors_36 : decode cL_ancestors 36 = .ok (.if_icmp .ne 29, 3) := by decide +kernel
theorem dL_ancestors_39 : decode cL_ancestors 39 = .ok (.iload 4, 2) := by decide +kernel
theorem dL_ancestors_41 : decode cL_ancestors 41 = .ok (.iload 6, 2) := by decide +kernel
theorem dL_ancestors_43 : decode cL_ancestors 43 = .ok (.ishr, 1) := by decide +kernel
theorem dL_ancestors_44 : decode cL_ancestors 44 = .ok (.iconst 1, 1) := by decide +kernel
theorem dL_ancestors_45 : decode cL_ancestors 45 = .ok (.iand, 1) := by decide +kernel
theorem dL_ancestors_46 : decode cL_ancestors 46 = .ok (.iconst 1, 1) := by decide +kernel
theorem dL_ancestors_47 : decode cL_ancestors 47 = .ok (.if_icmp .ne 18, 3) := by decide +kernel
theorem dL_ancestors_50 : decode cL_ancestors 50 = .ok (.aload_n 0, 1) := by decide +kernel
theorem dL_ancestors_51 : decode cL_ancestors 51 = .ok (.iconst 2, 1) := by decide +kernel
theorem dL_ancestors_52 : decode cL_ancestors 52 = .ok (.iload 6, 2) := by decide +kernel
theorem dL_ancestors_54 : decode cL_ancestors 54 = .ok (.imul, 1) := by decide +kernel
theorem dL_ancestors_55 : decode cL_ancestors 55 = .ok (.iconst 1, 1) := by decide +kernel
theorem dL_ancestors_56 : decode cL_ancestors 56 = .ok (.iadd, 1) := by decide +kernel
theorem dL_ancestors_57 : decode cL_ancestors 57 = .ok (.iaload, 1) := by decide +kernel
theorem dL_ancestors_58 : decode cL_ancestors 58 = .ok (.ifCond .lt 7, 3) := by decide +kernel
theorem dL_ancestors_61 : decode cL_ancestors 61 = .ok (.iconst 1, 1) := by decide +kernel
theorem dL_ancestors_62 : decode cL_ancestors 62 = .ok (.goto 4, 3) := by decide +kernel
theorem dL_ancestors_65 : decode cL_ancestors 65 = .ok (.iconst 0, 1) := by decide +kernel
theorem dL_ancestors_66 : decode cL_ancestors 66 = .ok (.istore 7, 2) := by decide +kernel
theorem dL_ancestors_68 : decode cL_ancestors 68 = .ok (.iload 4, 2) := by decide +kernel
theorem dL_ancestors_70 : decode cL_ancestors 70 = .ok (.iload 7, 2) := by decide +kernel
theorem dL_ancestors_72 : decode cL_ancestors 72 = .ok (.ifCond .eq 37, 3) := by decide +kernel
theorem dL_ancestors_75 : decode cL_ancestors 75 = .ok (.iconst 1, 1) := by decide +kernel
theorem dL_ancestors_76 : decode cL_ancestors 76 = .ok (.aload_n 1, 1) := by decide +kernel
theorem dL_ancestors_77 : decode cL_ancestors 77 = .ok (.iconst 2, 1) := by decide +kernel
theorem dL_ancestors_78 : decode cL_ancestors 78 = .ok (.aload_n 0, 1) := by decide +kernel
theorem dL_ancestors_79 : decode cL_ancestors 79 = .ok (.iconst 2, 1) := by decide +kernel
theorem dL_ancestors_80 : decode cL_ancestors 80 = .ok (.iload 6, 2) := by decide +kernel
theorem dL_ancestors_82 : decode cL_ancestors 82 = .ok (.imul, 1) := by decide +kernel
theorem dL_ancestors_83 : decode cL_ancestors 83 = .ok (.iconst 1, 1) := by decide +kernel
theorem dL_ancestors_84 : decode cL_ancestors 84 = .ok (.iadd, 1) := by decide +kernel
theorem dL_ancestors_85 : decode cL_ancestors 85 = .ok (.iaload, 1) := by decide +kernel
theorem dL_ancestors_86 : decode cL_ancestors 86 = .ok (.imul, 1) := by decide +kernel
theorem dL_ancestors_87 : decode cL_ancestors 87 = .ok (.iaload, 1) := by decide +kernel
theorem dL_ancestors_88 : decode cL_ancestors 88 = .ok (.ishl, 1) := by decide +kernel
theorem dL_ancestors_89 : decode cL_ancestors 89 = .ok (.iconst 1, 1) := by decide +kernel
theorem dL_ancestors_90 : decode cL_ancestors 90 = .ok (.aload_n 1, 1) := by decide +kernel
theorem dL_ancestors_91 : decode cL_ancestors 91 = .ok (.iconst 2, 1) := by decide +kernel
theorem dL_ancestors_92 : decode cL_ancestors 92 = .ok (.aload_n 0, 1) := by decide +kernel
theorem dL_ancestors_93 : decode cL_ancestors 93 = .ok (.iconst 2, 1) := by decide +kernel
theorem dL_ancestors_94 : decode cL_ancestors 94 = .ok (.iload 6, 2) := by decide +kernel
theorem dL_ancestors_96 : decode cL_ancestors 96 = .ok (.imul, 1) := by decide +kernel
theorem dL_ancestors_97 : decode cL_ancestors 97 = .ok (.iconst 1, 1) := by decide +kernel
theorem dL_ancestors_98 : decode cL_ancestors 98 = .ok (.iadd, 1) := by decide +kernel
theorem dL_ancestors_99 : decode cL_ancestors 99 = .ok (.iaload, 1) := by decide +kernel
theorem dL_ancestors_100 : decode cL_ancestors 100 = .ok (.imul, 1) := by decide +kernel
theorem dL_ancestors_101 : decode cL_ancestors 101 = .ok (.iconst 1, 1) := by decide +kernel
theorem dL_ancestors_102 : decode cL_ancestors 102 = .ok (.iadd, 1) := by decide +kernel
theorem dL_ancestors_103 : decode cL_ancestors 103 = .ok (.iaload, 1) := by decide +kernel
theorem dL_ancestors_104 : decode cL_ancestors 104 = .ok (.ishl, 1) := by decide +kernel
theorem dL_ancestors_105 : decode cL_ancestors 105 = .ok (.ior, 1) := by decide +kernel
theorem dL_ancestors_106 : decode cL_ancestors 106 = .ok (.goto 4, 3) := by decide +kernel
theorem dL_ancestors_109 : decode cL_ancestors 109 = .ok (.iconst 0, 1) := by decide +kernel
theorem dL_ancestors_110 : decode cL_ancestors 110 = .ok (.ior, 1) := by decide +kernel
theorem dL_ancestors_111 : decode cL_ancestors 111 = .ok (.istore 4, 2) := by decide +kernel
