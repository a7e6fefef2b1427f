set_option maxRecDepth 20000 in
theorem gX8_count0_X8_bent : GoodIn wsX8_count0 (wsV RX8 228 RX8 yX8_bent wsX8_bent) := goodIn_app (goodIn_of _ (by decide +kernel)) ggX8_count0_X8_bent
set_option maxRecDepth 20000 in
theorem ggX8_count0_X8_doubles : GoodIn wsX8_count0 wsX8_doubles := goodIn_r _ [58, 1, 59, 60, 61, 6, 62, 35, 36, 37, 38, 47, 48, 49, 50, 82, 83, 84, 85, 86, 87, 88, 89, 90, 91, 92, 93, 94, 95, 96, 97, 98, 99, 100, 101, 102] (by decide +kernel) (by decide +kernel)
set_option maxRecDepth 20000 in
theorem gX8_count0_X8_doubles : GoodIn wsX8_count0 (wsV RX8 231 RX8 yX8_doubles wsX8_doubles) := goodIn_app (goodIn_of _ (by decide +kernel)) ggX8_count0_X8_doubles
set_option maxRecDepth 20000 in
theorem ggX8_count0_X8_akin : GoodIn wsX8_count0 wsX8_akin := goodIn_r _ [66, 1, 67, 68, 69, 6, 70, 35, 36, 37, 38, 71, 72, 73, 74, 75, 76, 77, 78, 8, 9, 10, 11, 47, 48, 49, 50, 79, 80, 81, 82, 83, 84, 85, 86, 87, 88, 89, 90, 91, 92, 93, 94, 95, 96, 97, 98, 99, 100, 101, 102] (by decide +kernel) (by decide +kernel)
set_option maxRecDepth 20000 in
theorem gX8_count0_X8_akin : GoodIn wsX8_count0 (wsV RX8 234 RX8 yX8_akin wsX8_akin) := goodIn_app (goodIn_of _ (by decide +kernel)) ggX8_count0_X8_akin
theorem dX8_count0_0 : decode cX8_count0 0 = .ok (.iload_n 1, 1) := by decide +kernel
theorem dX8_count0_1 : decode cX8_count0 1 = .ok (.tableswitch 93 0 7 #[47, 54, 61, 66, 71, 76, 81, 86], 47) := by decide +kernel
theorem dX8_count0_48 : decode cX8_count0 48 = .ok (.aload_n 0, 1) := by decide +kernel
theorem dX8_count0_49 : decode cX8_count0 49 = .ok (.getfield 7, 3) := by decide +kernel
theorem dX8_count0_52 : decode cX8_count0 52 = .ok (.iconst 0, 1) := by decide +kernel
theorem dX8_count0_53 : decode cX8_count0 53 = .ok (.iaload, 1) := by decide +kernel
theorem dX8_count0_54 : decode cX8_count0 54 = .ok (.ireturn, 1) := by decide +kernel
theorem dX8_count0_55 : decode cX8_count0 55 = .ok (.aload_n 0, 1) := by decide +kernel
theorem dX8_count0_56 : decode cX8_count0 56 = .ok (.getfield 7, 3) := by decide +kernel
theorem dX8_count0_59 : decode cX8_count0 59 = .ok (.iconst 1, 1) := by decide +kernel
theorem dX8_count0_60 : decode cX8_count0 60 = .ok (.iaload, 1) := by decide +kernel
theorem dX8_count0_61 : decode cX8_count0 61 = .ok (.ireturn, 1) := by decide +kernel
theorem dX8_count0_62 : decode cX8_count0 62 = .ok (.aload_n 0, 1) := by decide +kernel
theorem dX8_count0_63 : decode cX8_count0 63 = .ok (.invokevirtual 225, 3) := by decide +kernel
theorem dX8_count0_66 : decode cX8_count0 66 = .ok (.ireturn, 1) := by decide +kernel
theorem dX8_count0_67 : decode cX8_count0 67 = .ok (.aload_n 0, 1) := by decide +kernel
theorem dX8_count0_68 : decode cX8_count0 68 = .ok (.invokevirtual 129, 3) := by decide +kernel
theorem dX8_count0_71 : decode cX8_count0 71 = .ok (.ireturn, 1) := by decide +kernel
theorem dX8_count0_72 : decode cX8_count0 72 = .ok (.aload_n 0, 1) := by decide +kernel
theorem dX8_count0_73 : decode cX8_count0 73 = .ok (.invokevirtual 228, 3) := by decide +kernel
theorem dX8_count0_76 : decode cX8_count0 76 = .ok (.ireturn, 1) := by decide +kernel
theorem dX8_count0_77 : decode cX8_count0 77 = .ok (.aload_n 0, 1) := by decide +kernel
theorem dX8_count0_78 : decode cX8_count0 78 = .ok (.invokevirtual 231, 3) := by decide +kernel
theorem dX8_count0_81 : decode cX8_count0 81 = .ok (.ireturn, 1) := by decide +kernel
theorem dX8_count0_82 : decode cX8_count0 82 = .ok (.aload_n 0, 1) := by decide +kernel
theorem dX8_count0_83 : decode cX8_count0 83 = .ok (.invokevirtual 234, 3) := by decide +kernel
theorem dX8_count0_86 : decode cX8_count0 86 = .ok (.ireturn, 1) := by decide +kernel
theorem dX8_count0_87 : decode cX8_count0 87 = .ok (.aload_n 0, 1) := by decide +kernel
theorem dX8_count0_88 : decode cX8_count0 88 = .ok (.getfield 7, 3) := by decide +kernel
theorem dX8_count0_91 : decode cX8_count0 91 = .ok (.iconst 2, 1) := by decide +kernel
theorem dX8_count0_92 : decode cX8_count0 92 = .ok (.iaload, 1) := by decide +kernel
theorem dX8_count0_93 : decode cX8_count0 93 = .ok (.ireturn, 1) := by decide +kernel
theorem dX8_count0_94 : decode cX8_count0 94 = .ok (.aload_n 0, 1) := by decide +kernel
theorem dX8_count0_95 : decode cX8_count0 95 = .ok (.getfield 66, 3) := by decide +kernel
theorem dX8_count0_98 : decode cX8_count0 98 = .ok (.ireturn, 1) := by decide +kernel
set_option maxRecDepth 20000 in
theorem ggX8_count_X8_in : GoodIn wsX8_count wsX8_in := goodIn_r _ [5] (by decide +kernel) (by decide +kernel)
set_option maxRecDepth 20000 in
theorem gX8_count_X8_in : GoodIn wsX8_count (va_wsS RX8 54 yX8_in wsX8_in) := goodIn_app (goodIn_of _ (by decide +kernel)) ggX8_count_X8_in
set_option maxRecDepth 20000 in
theorem ggX8_count_X8_count0 : GoodIn wsX8_count wsX8_count0 := goodIn_r _ [9, 10, 11, 12, 13, 14, 4, 15, 16, 17, 18, 19, 20, 21, 22, 23, 24, 25, 26, 27, 28, 29, 30, 31, 32, 33, 34, 35, 36, 37, 38, 39, 40, 41, 42, 43, 44, 45, 46, 47, 48, 49, 50, 51, 52, 53, 54, 55, 56, 57, 58, 59, 60, 61, 62, 63, 64, 65, 66, 67, 68, 69, 70, 71, 72, 73, 74, 75, 76, 77, 78, 79, 80, 81, 82, 83, 84, 85, 86, 87, 88, 89, 94, 95, 96, 97, 98, 99, 100, 101, 102, 103, 104, 105, 106, 107, 108, 109, 110, 111, 112, 113, 114] (by decide +kernel) (by decide +kernel)
set_option maxRecDepth 20000 in
theorem gX8_count_X8_count0 : GoodIn wsX8_count (wsV RX8 237 RX8 yX8_count0 wsX8_count0) := goodIn_app (goodIn_of _ (by decide +kernel)) ggX8_count_X8_count0
set_option maxRecDepth 20000 in
theorem ggX8_count_X8_fails : GoodIn wsX8_count wsX8_fails := goodIn_r _ [93, 1, 94, 95, 96, 97, 98, 99, 100, 101, 102, 103, 104, 105, 106, 107, 108, 109, 110, 111, 112, 113, 114] (by decide +kernel) (by decide +kernel)
set_option maxRecDepth 20000 in
theorem gX8_count_X8_fails : GoodIn wsX8_count (wsV RX8 69 RX8 yX8_fails wsX8_fails) := goodIn_app (goodIn_of _ (by decide +kernel)) ggX8_count_X8_fails
theorem dX8_count_0 : decode cX8_count 0 = .ok (.aload_n 0, 1) := by decide +kernel
theorem dX8_count_1 : decode cX8_count 1 = .ok (.iconst 0, 1) := by decide +kernel
theorem dX8_count_2 : decode cX8_count 2 = .ok (.putfield 50, 3) := by decide +kernel
theorem dX8_count_5 : decode cX8_count 5 = .ok (.iload_n 1, 1) := by decide +kernel
theorem dX8_count_6 : decode cX8_count 6 = .ok (.iconst 0, 1) := by decide +kernel
theorem dX8_count_7 : decode cX8_count 7 = .ok (.bipush 8, 2) := by decide +kernel
theorem dX8_count_9 : decode cX8_count 9 = .ok (.invokestatic 54, 3) := by decide +kernel
theorem dX8_count_12 : decode cX8_count 12 = .ok (.ifCond .eq 11, 3) := by decide +kernel
theorem dX8_count_15 : decode cX8_count 15 = .ok (.aload_n 0, 1) := by decide +kernel
theorem dX8_count_16 : decode cX8_count 16 = .ok (.iload_n 1, 1) := by decide +kernel
theorem dX8_count_17 : decode cX8_count 17 = .ok (.invokevirtual 237, 3) := by decide +kernel
theorem dX8_count_20 : decode cX8_count 20 = .ok (.goto 8, 3) := by decide +kernel
theorem dX8_count_23 : decode cX8_count 23 = .ok (.aload_n 0, 1) := by decide +kernel
theorem dX8_count_24 : decode cX8_count 24 = .ok (.iconst 1, 1) := by decide +kernel
theorem dX8_count_25 : decode cX8_count 25 = .ok (.invokevirtual 69, 3) := by decide +kernel
theorem dX8_count_28 : decode cX8_count 28 = .ok (.ireturn, 1) := by decide +kernel
set_option maxRecDepth 20000 in
theorem ggX8_least_X8_isRow : GoodIn wsX8_least wsX8_isRow := goodIn_r _ [5, 6, 7, 4, 8] (by decide +kernel) (by decide +kernel)
set_option maxRecDepth 20000 in
theorem gX8_least_X8_isRow : GoodIn wsX8_least (va_wsS RX8 94 yX8_isRow wsX8_isRow) := goodIn_app (goodIn_of _ (by decide +kernel)) ggX8_least_X8_isRow
set_option maxRecDepth 20000 in
theorem ggX8_least_X8_fails : GoodIn wsX8_least wsX8_fails := goodIn_r _ [12, 1, 83, 84, 85, 86, 87, 88, 89, 90, 91, 92, 93, 94, 95, 96, 97, 98, 99, 100, 101, 102, 103] (by decide +kernel) (by decide +kernel)
set_option maxRecDepth 20000 in
theorem gX8_least_X8_fails : GoodIn wsX8_least (wsV RX8 69 RX8 yX8_fails wsX8_fails) := goodIn_app (goodIn_of _ (by decide +kernel)) ggX8_least_X8_fails
set_option maxRecDepth 20000 in
theorem ggX8_least_X8_in : GoodIn wsX8_least wsX8_in := goodIn_r _ [8] (by decide +kernel) (by decide +kernel)
set_option maxRecDepth 20000 in
theorem gX8_least_X8_in : GoodIn wsX8_least (va_wsS RX8 54 yX8_in wsX8_in) := goodIn_app (goodIn_of _ (by decide +kernel)) ggX8_least_X8_in
set_option maxRecDepth 20000 in
theorem ggX8_least_X8_leastOf : GoodIn wsX8_least wsX8_leastOf := goodIn_r _ [16, 17, 18, 19, 20, 4, 21, 22, 23, 24, 25, 26, 27, 28, 29, 30, 31, 32, 33, 34, 35, 36, 37, 38, 39, 40, 41, 42, 43, 44, 45, 46, 47, 48, 49, 50, 51, 52, 53, 54, 55, 56, 57, 58, 59, 60, 61, 62, 63, 64, 65, 66, 67, 68, 69, 70, 71, 72, 73, 74, 75, 76, 77, 78, 79, 80, 81, 82, 83, 84, 85, 86, 87, 88, 89, 90, 91, 92, 93, 94, 95, 96, 97, 98, 99, 100, 101, 102, 103] (by decide +kernel) (by decide +kernel)
set_option maxRecDepth 20000 in
theorem gX8_least_X8_leastOf : GoodIn wsX8_least (wsV RX8 158 RX8 yX8_leastOf wsX8_leastOf) := goodIn_app (goodIn_of _ (by decide +kernel)) ggX8_least_X8_leastOf
theorem dX8_least_0 : decode cX8_least 0 = .ok (.aload_n 0, 1) := by decide +kernel
theorem dX8_least_1 : decode cX8_least 1 = .ok (.iconst 0, 1) := by decide +kernel
theorem dX8_least_2 : decode cX8_least 2 = .ok (.putfield 50, 3) := by decide +kernel
theorem dX8_least_5 : decode cX8_least 5 = .ok (.iload_n 1, 1) := by decide +kernel
theorem dX8_least_6 : decode cX8_least 6 = .ok (.invokestatic 94, 3) := by decide +kernel
theorem dX8_least_9 : decode cX8_least 9 = .ok (.ifCond .ne 9, 3) := by decide +kernel
theorem dX8_least_12 : decode cX8_least 12 = .ok (.aload_n 0, 1) := by decide +kernel
theorem dX8_least_13 : decode cX8_least 13 = .ok (.iconst 1, 1) := by decide +kernel
theorem dX8_least_14 : decode cX8_least 14 = .ok (.invokevirtual 69, 3) := by decide +kernel
theorem dX8_least_17 : decode cX8_least 17 = .ok (.ireturn, 1) := by decide +kernel
theorem dX8_least_18 : decode cX8_least 18 = .ok (.iload_n 2, 1) := by decide +kernel
theorem dX8_least_19 : decode cX8_least 19 = .ok (.iconst 0, 1) := by decide +kernel
theorem dX8_least_20 : decode cX8_least 20 = .ok (.iconst 1, 1) := by decide +kernel
theorem dX8_least_21 : decode cX8_least 21 = .ok (.invokestatic 54, 3) := by decide +kernel
theorem dX8_least_24 : decode cX8_least 24 = .ok (.ifCond .eq 11, 3) := by decide +kernel
theorem dX8_least_27 : decode cX8_least 27 = .ok (.aload_n 0, 1) := by decide +kernel
theorem dX8_least_28 : decode cX8_least 28 = .ok (.iload_n 1, 1) := by decide +kernel
theorem dX8_least_29 : decode cX8_least 29 = .ok (.invokevirtual 158, 3) := by decide +kernel
theorem dX8_least_32 : decode cX8_least 32 = .ok (.goto 8, 3) := by decide +kernel
theorem dX8_least_35 : decode cX8_least 35 = .ok (.aload_n 0, 1) := by decide +kernel
theorem dX8_least_36 : decode cX8_least 36 = .ok (.iconst 2, 1) := by decide +kernel
theorem dX8_least_37 : decode cX8_least 37 = .ok (.invokevirtual 69, 3) := by decide +kernel
theorem dX8_least_40 : decode cX8_least 40 = .ok (.ireturn, 1) := by decide +kernel
set_option maxRecDepth 20000 in
theorem ggX8_bestOfAll_X8_allCrossings : GoodIn wsX8_bestOfAll wsX8_allCrossings := goodIn_r _ [6, 7, 8, 9, 5, 10, 11, 12, 13, 14, 15, 16, 17, 1, 18, 19, 20, 21, 22, 23, 24, 25, 26, 27, 28, 29, 30, 31, 32, 33, 34, 35, 36, 37, 38, 39, 40, 41, 42, 43, 44, 45, 50, 51, 52, 53, 54, 55, 56, 57, 58, 59, 60, 61, 62, 63, 64, 65, 66, 67, 68, 69, 70] (by decide +kernel) (by decide +kernel)
set_option maxRecDepth 20000 in
theorem gX8_bestOfAll_X8_allCrossings : GoodIn wsX8_bestOfAll (wsV RX8 129 RX8 yX8_allCrossings wsX8_allCrossings) := goodIn_app (goodIn_of _ (by decide +kernel)) ggX8_bestOfAll_X8_allCrossings
set_option maxRecDepth 20000 in
theorem ggX8_bestOfAll_X8_exchange : GoodIn wsX8_bestOfAll wsX8_exchange := goodIn_r _ [49, 1, 50, 51, 52, 53, 54, 55, 56, 57, 58, 59, 60, 61, 62, 63, 64, 65, 66, 67, 68, 69, 70] (by decide +kernel) (by decide +kernel)
set_option maxRecDepth 20000 in
theorem gX8_bestOfAll_X8_exchange : GoodIn wsX8_bestOfAll (wsV RX8 133 RX8 yX8_exchange wsX8_exchange) := goodIn_app (goodIn_of _ (by decide +kernel)) ggX8_bestOfAll_X8_exchange
theorem dX8_bestOfAll_0 : decode cX8_bestOfAll 0 = .ok (.aload_n 0, 1) := by decide +kernel
theorem dX8_bestOfAll_1 : decode cX8_bestOfAll 1 = .ok (.invokevirtual 129, 3) := by decide +kernel
theorem dX8_bestOfAll_4 : decode cX8_bestOfAll 4 = .ok (.istore_n 1, 1) := by decide +kernel
theorem dX8_bestOfAll_5 : decode cX8_bestOfAll 5 = .ok (.iconst (-1), 1) := by decide +kernel
theorem dX8_bestOfAll_6 : decode cX8_bestOfAll 6 = .ok (.istore_n 2, 1) := by decide +kernel
theorem dX8_bestOfAll_7 : decode cX8_bestOfAll 7 = .ok (.iconst 0, 1) := by decide +kernel
theorem dX8_bestOfAll_8 : decode cX8_bestOfAll 8 = .ok (.istore_n 3, 1) := by decide +kernel
theorem dX8_bestOfAll_9 : decode cX8_bestOfAll 9 = .ok (.iload_n 3, 1) := by decide +kernel
theorem dX8_bestOfAll_10 : decode cX8_bestOfAll 10 = .ok (.iconst 4, 1) := by decide +kernel
theorem dX8_bestOfAll_11 : decode cX8_bestOfAll 11 = .ok (.if_icmp .ge 93, 3) := by decide +kernel
theorem dX8_bestOfAll_14 : decode cX8_bestOfAll 14 = .ok (.iconst 0, 1) := by decide +kernel
theorem dX8_bestOfAll_15 : decode cX8_bestOfAll 15 = .ok (.istore 4, 2) := by decide +kernel
theorem dX8_bestOfAll_17 : decode cX8_bestOfAll 17 = .ok (.iload 4, 2) := by decide +kernel
theorem dX8_bestOfAll_19 : decode cX8_bestOfAll 19 = .ok (.aload_n 0, 1) := by decide +kernel
theorem dX8_bestOfAll_20 : decode cX8_bestOfAll 20 = .ok (.getfield 7, 3) := by decide +kernel
theorem dX8_bestOfAll_23 : decode cX8_bestOfAll 23 = .ok (.bipush 63, 2) := by decide +kernel
theorem dX8_bestOfAll_25 : decode cX8_bestOfAll 25 = .ok (.iload_n 3, 1) := by decide +kernel
theorem dX8_bestOfAll_26 : decode cX8_bestOfAll 26 = .ok (.iadd, 1) := by decide +kernel
theorem dX8_bestOfAll_27 : decode cX8_bestOfAll 27 = .ok (.iaload, 1) := by decide +kernel
theorem dX8_bestOfAll_28 : decode cX8_bestOfAll 28 = .ok (.iconst 1, 1) := by decide +kernel
theorem dX8_bestOfAll_29 : decode cX8_bestOfAll 29 = .ok (.isub, 1) := by decide +kernel
theorem dX8_bestOfAll_30 : decode cX8_bestOfAll 30 = .ok (.if_icmp .ge 68, 3) := by decide +kernel
theorem dX8_bestOfAll_33 : decode cX8_bestOfAll 33 = .ok (.aload_n 0, 1) := by decide +kernel
theorem dX8_bestOfAll_34 : decode cX8_bestOfAll 34 = .ok (.iload_n 3, 1) := by decide +kernel
theorem dX8_bestOfAll_35 : decode cX8_bestOfAll 35 = .ok (.iload 4, 2) := by decide +kernel
theorem dX8_bestOfAll_37 : decode cX8_bestOfAll 37 = .ok (.iload 4, 2) := by decide +kernel
theorem dX8_bestOfAll_39 : decode cX8_bestOfAll 39 = .ok (.iconst 1, 1) := by decide +kernel
theorem dX8_bestOfAll_40 : decode cX8_bestOfAll 40 = .ok (.iadd, 1) := by decide +kernel
theorem dX8_bestOfAll_41 : decode cX8_bestOfAll 41 = .ok (.invokevirtual 133, 3) := by decide +kernel
theorem dX8_bestOfAll_44 : decode cX8_bestOfAll 44 = .ok (.aload_n 0, 1) := by decide +kernel
theorem dX8_bestOfAll_45 : decode cX8_bestOfAll 45 = .ok (.invokevirtual 129, 3) := by decide +kernel
theorem dX8_bestOfAll_48 : decode cX8_bestOfAll 48 = .ok (.istore 5, 2) := by decide +kernel
theorem dX8_bestOfAll_50 : decode cX8_bestOfAll 50 = .ok (.aload_n 0, 1) := by decide +kernel
theorem dX8_bestOfAll_51 : decode cX8_bestOfAll 51 = .ok (.iload_n 3, 1) := by decide +kernel
theorem dX8_bestOfAll_52 : decode cX8_bestOfAll 52 = .ok (.iload 4, 2) := by decide +kernel
theorem dX8_bestOfAll_54 : decode cX8_bestOfAll 54 = .ok (.iload 4, 2) := by decide +kernel
theorem dX8_bestOfAll_56 : decode cX8_bestOfAll 56 = .ok (.iconst 1, 1) := by decide +kernel
theorem dX8_bestOfAll_57 : decode cX8_bestOfAll 57 = .ok (.iadd, 1) := by decide +kernel
theorem dX8_bestOfAll_58 : decode cX8_bestOfAll 58 = .ok (.invokevirtual 133, 3) := by decide +kernel
theorem dX8_bestOfAll_61 : decode cX8_bestOfAll 61 = .ok (.iload 5, 2) := by decide +kernel
theorem dX8_bestOfAll_63 : decode cX8_bestOfAll 63 = .ok (.iload_n 1, 1) := by decide +kernel
theorem dX8_bestOfAll_64 : decode cX8_bestOfAll 64 = .ok (.if_icmp .ge 13, 3) := by decide +kernel
theorem dX8_bestOfAll_67 : decode cX8_bestOfAll 67 = .ok (.bipush 10, 2) := by decide +kernel
theorem dX8_bestOfAll_69 : decode cX8_bestOfAll 69 = .ok (.iload_n 3, 1) := by decide +kernel
theorem dX8_bestOfAll_70 : decode cX8_bestOfAll 70 = .ok (.imul, 1) := by decide +kernel
theorem dX8_bestOfAll_71 : decode cX8_bestOfAll 71 = .ok (.iload 4, 2) := by decide +kernel
theorem dX8_bestOfAll_73 : decode cX8_bestOfAll 73 = .ok (.iadd, 1) := by decide +kernel
theorem dX8_bestOfAll_74 : decode cX8_bestOfAll 74 = .ok (.goto 4, 3) := by decide +kernel
theorem dX8_bestOfAll_77 : decode cX8_bestOfAll 77 = .ok (.iload_n 2, 1) := by decide +kernel
theorem dX8_bestOfAll_78 : decode cX8_bestOfAll 78 = .ok (.istore_n 2, 1) := by decide +kernel
theorem dX8_bestOfAll_79 : decode cX8_bestOfAll 79 = .ok (.iload 5, 2) := by decide +kernel
theorem dX8_bestOfAll_81 : decode cX8_bestOfAll 81 = .ok (.iload_n 1, 1) := by decide +kernel
theorem dX8_bestOfAll_82 : decode cX8_bestOfAll 82 = .ok (.if_icmp .ge 8, 3) := by decide +kernel
theorem dX8_bestOfAll_85 : decode cX8_bestOfAll 85 = .ok (.iload 5, 2) := by decide +kernel
theorem dX8_bestOfAll_87 : decode cX8_bestOfAll 87 = .ok (.goto 4, 3) := by decide +kernel
theorem dX8_bestOfAll_90 : decode cX8_bestOfAll 90 = .ok (.iload_n 1, 1) := by decide +kernel
theorem dX8_bestOfAll_91 : decode cX8_bestOfAll 91 = .ok (.istore_n 1, 1) := by decide +kernel
theorem dX8_bestOfAll_92 : decode cX8_bestOfAll 92 = .ok (.iinc 4 1, 3) := by decide +kernel
theorem dX8_bestOfAll_95 : decode cX8_bestOfAll 95 = .ok (.goto (-78), 3) := by decide +kernel
theorem dX8_bestOfAll_98 : decode cX8_bestOfAll 98 = .ok (.iinc 3 1, 3) := by decide +kernel
theorem dX8_bestOfAll_101 : decode cX8_bestOfAll 101 = .ok (.goto (-92), 3) := by decide +kernel
theorem dX8_bestOfAll_104 : decode cX8_bestOfAll 104 = .ok (.iload_n 2, 1) := by decide +kernel
theorem dX8_bestOfAll_105 : decode cX8_bestOfAll 105 = .ok (.ireturn, 1) := by decide +kernel
set_option maxRecDepth 20000 in
theorem ggX8_bestSwap_X8_bestOfAll : GoodIn wsX8_bestSwap wsX8_bestOfAll := goodIn_r _ [6, 7, 8, 9, 10, 5, 11, 12, 13, 14, 15, 16, 17, 18, 19, 20, 21, 22, 23, 24, 25, 26, 27, 28, 29, 30, 31, 32, 33, 34, 35, 36, 37, 38, 39, 40, 41, 42, 43, 44, 45, 46, 47, 48, 49, 50, 51, 52, 53, 54, 55, 56, 57, 58, 59, 60, 61, 62, 63, 64, 65, 66, 67, 68, 69, 70, 71, 72, 73, 74, 75] (by decide +kernel) (by decide +kernel)
set_option maxRecDepth 20000 in
theorem gX8_bestSwap_X8_bestOfAll : GoodIn wsX8_bestSwap (wsV RX8 240 RX8 yX8_bestOfAll wsX8_bestOfAll) := goodIn_app (goodIn_of _ (by decide +kernel)) ggX8_bestSwap_X8_bestOfAll
theorem dX8_bestSwap_0 : decode cX8_bestSwap 0 = .ok (.aload_n 0, 1) := by decide +kernel
theorem dX8_bestSwap_1 : decode cX8_bestSwap 1 = .ok (.iconst 0, 1) := by decide +kernel
theorem dX8_bestSwap_2 : decode cX8_bestSwap 2 = .ok (.putfield 50, 3) := by decide +kernel
theorem dX8_bestSwap_5 : decode cX8_bestSwap 5 = .ok (.aload_n 0, 1) := by decide +kernel
theorem dX8_bestSwap_6 : decode cX8_bestSwap 6 = .ok (.invokevirtual 240, 3) := by decide +kernel
theorem dX8_bestSwap_9 : decode cX8_bestSwap 9 = .ok (.ireturn, 1) := by decide +kernel
set_option maxRecDepth 20000 in
theorem ggX8_near_X8_ancestors : GoodIn wsX8_near wsX8_ancestors := goodIn_r _ [6, 7, 8, 9, 5, 10, 1, 11, 12, 13, 14, 15, 16, 17, 18, 19, 20, 21, 22, 27, 28, 29, 30, 31, 32, 33, 34, 35, 36, 37, 38, 39, 40, 41, 42, 43, 44, 45, 46, 47] (by decide +kernel) (by decide +kernel)
set_option maxRecDepth 20000 in
theorem gX8_near_X8_ancestors : GoodIn wsX8_near (wsV RX8 198 RX8 yX8_ancestors wsX8_ancestors) := goodIn_app (goodIn_of _ (by decide +kernel)) ggX8_near_X8_ancestors
set_option maxRecDepth 20000 in
theorem ggX8_near_X8_rowOf : GoodIn wsX8_near wsX8_rowOf := goodIn_r _ [26, 1, 27, 28, 29, 30, 31, 32, 33, 34, 35, 36, 37, 38, 39, 40, 41, 42, 43, 44, 45, 46, 47] (by decide +kernel) (by decide +kernel)
set_option maxRecDepth 20000 in
theorem gX8_near_X8_rowOf : GoodIn wsX8_near (wsV RX8 58 RX8 yX8_rowOf wsX8_rowOf) := goodIn_app (goodIn_of _ (by decide +kernel)) ggX8_near_X8_rowOf
theorem dX8_near_0 : decode cX8_near 0 = .ok (.aload_n 0, 1) := by decide +kernel
theorem dX8_near_1 : decode cX8_near 1 = .ok (.iload_n 1, 1) := by decide +kernel
theorem dX8_near_2 : decode cX8_near 2 = .ok (.invokevirtual 198, 3) := by decide +kernel
theorem dX8_near_5 : decode cX8_near 5 = .ok (.iconst 1, 1) := by decide +kernel
theorem dX8_near_6 : decode cX8_near 6 = .ok (.iload_n 1, 1) := by decide +kernel
theorem dX8_near_7 : decode cX8_near 7 = .ok (.ishl, 1) := by decide +kernel
theorem dX8_near_8 : decode cX8_near 8 = .ok (.ior, 1) := by decide +kernel
theorem dX8_near_9 : decode cX8_near 9 = .ok (.aload_n 0, 1) := by decide +kernel
theorem dX8_near_10 : decode cX8_near 10 = .ok (.iload_n 2, 1) := by decide +kernel
theorem dX8_near_11 : decode cX8_near 11 = .ok (.invokevirtual 198, 3) := by decide +kernel
theorem dX8_near_14 : decode cX8_near 14 = .ok (.iconst 1, 1) := by decide +kernel
theorem dX8_near_15 : decode cX8_near 15 = .ok (.iload_n 2, 1) := by decide +kernel
theorem dX8_near_16 : decode cX8_near 16 = .ok (.ishl, 1) := by decide +kernel
theorem dX8_near_17 : decode cX8_near 17 = .ok (.ior, 1) := by decide +kernel
theorem dX8_near_18 : decode cX8_near 18 = .ok (.iand, 1) := by decide +kernel
theorem dX8_near_19 : decode cX8_near 19 = .ok (.istore_n 3, 1) := by decide +kernel
theorem dX8_near_20 : decode cX8_near 20 = .ok (.iconst (-1), 1) := by decide +kernel
theorem dX8_near_21 : decode cX8_near 21 = .ok (.istore 4, 2) := by decide +kernel
theorem dX8_near_23 : decode cX8_near 23 = .ok (.iconst 0, 1) := by decide +kernel
theorem dX8_near_24 : decode cX8_near 24 = .ok (.istore 5, 2) := by decide +kernel
theorem dX8_near_26 : decode cX8_near 26 = .ok (.iload 5, 2) := by decide +kernel
theorem dX8_near_28 : decode cX8_near 28 = .ok (.aload_n 0, 1) := by decide +kernel
theorem dX8_near_29 : decode cX8_near 29 = .ok (.getfield 7, 3) := by decide +kernel
theorem dX8_near_32 : decode cX8_near 32 = .ok (.iconst 0, 1) := by decide +kernel
theorem dX8_near_33 : decode cX8_near 33 = .ok (.iaload, 1) := by decide +kernel
theorem dX8_near_34 : decode cX8_near 34 = .ok (.if_icmp .ge 63, 3) := by decide +kernel
theorem dX8_near_37 : decode cX8_near 37 = .ok (.aload_n 0, 1) := by decide +kernel
theorem dX8_near_38 : decode cX8_near 38 = .ok (.iload_n 1, 1) := by decide +kernel
theorem dX8_near_39 : decode cX8_near 39 = .ok (.invokevirtual 58, 3) := by decide +kernel
theorem dX8_near_42 : decode cX8_near 42 = .ok (.aload_n 0, 1) := by decide +kernel
theorem dX8_near_43 : decode cX8_near 43 = .ok (.iload_n 2, 1) := by decide +kernel
theorem dX8_near_44 : decode cX8_near 44 = .ok (.invokevirtual 58, 3) := by decide +kernel
theorem dX8_near_47 : decode cX8_near 47 = .ok (.iadd, 1) := by decide +kernel
theorem dX8_near_48 : decode cX8_near 48 = .ok (.iconst 2, 1) := by decide +kernel
theorem dX8_near_49 : decode cX8_near 49 = .ok (.aload_n 0, 1) := by decide +kernel
theorem dX8_near_50 : decode cX8_near 50 = .ok (.iload 5, 2) := by decide +kernel
theorem dX8_near_52 : decode cX8_near 52 = .ok (.invokevirtual 58, 3) := by decide +kernel
theorem dX8_near_55 : decode cX8_near 55 = .ok (.imul, 1) := by decide +kernel
theorem dX8_near_56 : decode cX8_near 56 = .ok (.isub, 1) := by decide +kernel
theorem dX8_near_57 : decode cX8_near 57 = .ok (.istore 6, 2) := by decide +kernel
theorem dX8_near_59 : decode cX8_near 59 = .ok (.iload_n 3, 1) := by decide +kernel
theorem dX8_near_60 : decode cX8_near 60 = .ok (.iload 5, 2) := by decide +kernel
theorem dX8_near_62 : decode cX8_near 62 = .ok (.ishr, 1) := by decide +kernel
theorem dX8_near_63 : decode cX8_near 63 = .ok (.iconst 1, 1) := by decide +kernel
theorem dX8_near_64 : decode cX8_near 64 = .ok (.iand, 1) := by decide +kernel
theorem dX8_near_65 : decode cX8_near 65 = .ok (.iconst 1, 1) := by decide +kernel
theorem dX8_near_66 : decode cX8_near 66 = .ok (.if_icmp .ne 21, 3) := by decide +kernel
theorem dX8_near_69 : decode cX8_near 69 = .ok (.iload 4, 2) := by decide +kernel
theorem dX8_near_71 : decode cX8_near 71 = .ok (.iconst (-1), 1) := by decide +kernel
theorem dX8_near_72 : decode cX8_near 72 = .ok (.if_icmp .eq 10, 3) := by decide +kernel
theorem dX8_near_75 : decode cX8_near 75 = .ok (.iload 6, 2) := by decide +kernel
theorem dX8_near_77 : decode cX8_near 77 = .ok (.iload 4, 2) := by decide +kernel
theorem dX8_near_79 : decode cX8_near 79 = .ok (.if_icmp .ge 8, 3) := by decide +kernel
theorem dX8_near_82 : decode cX8_near 82 = .ok (.iload 6, 2) := by decide +kernel
theorem dX8_near_84 : decode cX8_near 84 = .ok (.goto 5, 3) := by decide +kernel
theorem dX8_near_87 : decode cX8_near 87 = .ok (.iload 4, 2) := by decide +kernel
theorem dX8_near_89 : decode cX8_near 89 = .ok (.istore 4, 2) := by decide +kernel
theorem dX8_near_91 : decode cX8_near 91 = .ok (.iinc 5 1, 3) := by decide +kernel
theorem dX8_near_94 : decode cX8_near 94 = .ok (.goto (-68), 3) := by decide +kernel
theorem dX8_near_97 : decode cX8_near 97 = .ok (.iload 4, 2) := by decide +kernel
theorem dX8_near_99 : decode cX8_near 99 = .ok (.ireturn, 1) := by decide +kernel
set_option maxRecDepth 20000 in
theorem ggX8_nearness_X8_isPerson : GoodIn wsX8_nearness wsX8_isPerson := goodIn_r _ [6, 7, 8, 9, 5, 10, 43, 44, 45, 46, 47, 48, 49, 50, 51, 52, 53, 54, 55, 56, 57, 58, 59, 60, 61, 62, 63] (by decide +kernel) (by decide +kernel)
set_option maxRecDepth 20000 in
theorem gX8_nearness_X8_isPerson : GoodIn wsX8_nearness (wsV RX8 98 RX8 yX8_isPerson wsX8_isPerson) := goodIn_app (goodIn_of _ (by decide +kernel)) ggX8_nearness_X8_isPerson
set_option maxRecDepth 20000 in
theorem ggX8_nearness_X8_near : GoodIn wsX8_nearness wsX8_near := goodIn_r _ [14, 7, 15, 16, 17, 5, 18, 19, 20, 21, 22, 23, 24, 25, 26, 27, 28, 29, 30, 31, 32, 33, 34, 35, 36, 37, 38, 43, 44, 45, 46, 47, 48, 49, 50, 51, 52, 53, 54, 55, 56, 57, 58, 59, 60, 61, 62, 63] (by decide +kernel) (by decide +kernel)
set_option maxRecDepth 20000 in
theorem gX8_nearness_X8_near : GoodIn wsX8_nearness (wsV RX8 243 RX8 yX8_near wsX8_near) := goodIn_app (goodIn_of _ (by decide +kernel)) ggX8_nearness_X8_near
set_option maxRecDepth 20000 in
theorem ggX8_nearness_X8_fails : GoodIn wsX8_nearness wsX8_fails := goodIn_r _ [42, 1, 43, 44, 45, 46, 47, 48, 49, 50, 51, 52, 53, 54, 55, 56, 57, 58, 59, 60, 61, 62, 63] (by decide +kernel) (by decide +kernel)
set_option maxRecDepth 20000 in
theorem gX8_nearness_X8_fails : GoodIn wsX8_nearness (wsV RX8 69 RX8 yX8_fails wsX8_fails) := goodIn_app (goodIn_of _ (by decide +kernel)) ggX8_nearness_X8_fails
theorem dX8_nearness_0 : decode cX8_nearness 0 = .ok (.aload_n 0, 1) := by decide +kernel
theorem dX8_nearness_1 : decode cX8_nearness 1 = .ok (.iconst 0, 1) := by decide +kernel
theorem dX8_nearness_2 : decode cX8_nearness 2 = .ok (.putfield 50, 3) := by decide +kernel
theorem dX8_nearness_5 : decode cX8_nearness 5 = .ok (.aload_n 0, 1) := by decide +kernel
theorem dX8_nearness_6 : decode cX8_nearness 6 = .ok (.iload_n 1, 1) := by decide +kernel
theorem dX8_nearness_7 : decode cX8_nearness 7 = .ok (.invokevirtual 98, 3) := by decide +kernel
theorem dX8_nearness_10 : decode cX8_nearness 10 = .ok (.ifCond .eq 20, 3) := by decide +kernel
theorem dX8_nearness_13 : decode cX8_nearness 13 = .ok (.aload_n 0, 1) := by decide +kernel
theorem dX8_nearness_14 : decode cX8_nearness 14 = .ok (.iload_n 2, 1) := by decide +kernel
theorem dX8_nearness_15 : decode cX8_nearness 15 = .ok (.invokevirtual 98, 3) := by decide +kernel
theorem dX8_nearness_18 : decode cX8_nearness 18 = .ok (.ifCond .eq 12, 3) := by decide +kernel
theorem dX8_nearness_21 : decode cX8_nearness 21 = .ok (.aload_n 0, 1) := by decide +kernel
theorem dX8_nearness_22 : decode cX8_nearness 22 = .ok (.iload_n 1, 1) := by decide +kernel
theorem dX8_nearness_23 : decode cX8_nearness 23 = .ok (.iload_n 2, 1) := by decide +kernel
theorem dX8_nearness_24 : decode cX8_nearness 24 = .ok (.invokevirtual 243, 3) := by decide +kernel
theorem dX8_nearness_27 : decode cX8_nearness 27 = .ok (.goto 8, 3) := by decide +kernel
theorem dX8_nearness_30 : decode cX8_nearness 30 = .ok (.aload_n 0, 1) := by decide +kernel
theorem dX8_nearness_31 : decode cX8_nearness 31 = .ok (.iconst 1, 1) := by decide +kernel
theorem dX8_nearness_32 : decode cX8_nearness 32 = .ok (.invokevirtual 69, 3) := by decide +kernel
theorem dX8_nearness_35 : decode cX8_nearness 35 = .ok (.ireturn, 1) := by decide +kernel
set_option maxRecDepth 20000 in
theorem ggX8_share_X8_allLines : GoodIn wsX8_share wsX8_allLines := goodIn_r _ [5, 6, 7, 8, 9, 4, 10, 46, 47, 48, 49, 50, 51, 52, 53, 54, 55, 56, 57, 58, 59, 60, 61, 62, 63, 64, 65, 66] (by decide +kernel) (by decide +kernel)
set_option maxRecDepth 20000 in
theorem gX8_share_X8_allLines : GoodIn wsX8_share (wsV RX8 225 RX8 yX8_allLines wsX8_allLines) := goodIn_app (goodIn_of _ (by decide +kernel)) ggX8_share_X8_allLines
set_option maxRecDepth 20000 in
theorem ggX8_share_X8_bent : GoodIn wsX8_share wsX8_bent := goodIn_r _ [14, 15, 16, 17, 18, 19, 20, 4, 21, 6, 22, 23, 24, 25, 7, 8, 9, 10, 26, 27, 28, 29, 30, 31, 32, 33, 34, 35, 36, 37, 38, 39, 40, 41, 42, 43, 44, 45, 46, 47, 48, 49, 50, 51, 52, 53, 54, 55, 56, 57, 58, 59, 60, 61, 62, 63, 64, 65, 66] (by decide +kernel) (by decide +kernel)
set_option maxRecDepth 20000 in
theorem gX8_share_X8_bent : GoodIn wsX8_share (wsV RX8 228 RX8 yX8_bent wsX8_bent) := goodIn_app (goodIn_of _ (by decide +kernel)) ggX8_share_X8_bent
theorem dX8_share_0 : decode cX8_share 0 = .ok (.aload_n 0, 1) := by decide +kernel
theorem dX8_share_1 : decode cX8_share 1 = .ok (.invokevirtual 225, 3) := by decide +kernel
theorem dX8_share_4 : decode cX8_share 4 = .ok (.ifCond .ne 7, 3) := by decide +kernel
theorem dX8_share_7 : decode cX8_share 7 = .ok (.dconst 1, 1) := by decide +kernel
theorem dX8_share_8 : decode cX8_share 8 = .ok (.goto 19, 3) := by decide +kernel
theorem dX8_share_11 : decode cX8_share 11 = .ok (.aload_n 0, 1) := by decide +kernel
theorem dX8_share_12 : decode cX8_share 12 = .ok (.invokevirtual 225, 3) := by decide +kernel
theorem dX8_share_15 : decode cX8_share 15 = .ok (.aload_n 0, 1) := by decide +kernel
theorem dX8_share_16 : decode cX8_share 16 = .ok (.invokevirtual 228, 3) := by decide +kernel
theorem dX8_share_19 : decode cX8_share 19 = .ok (.isub, 1) := by decide +kernel
theorem dX8_share_20 : decode cX8_share 20 = .ok (.i2d, 1) := by decide +kernel
theorem dX8_share_21 : decode cX8_share 21 = .ok (.aload_n 0, 1) := by decide +kernel
theorem dX8_share_22 : decode cX8_share 22 = .ok (.invokevirtual 225, 3) := by decide +kernel
theorem dX8_share_25 : decode cX8_share 25 = .ok (.i2d, 1) := by decide +kernel
theorem dX8_share_26 : decode cX8_share 26 = .ok (.ddiv, 1) := by decide +kernel
theorem dX8_share_27 : decode cX8_share 27 = .ok (.dreturn, 1) := by decide +kernel
set_option maxRecDepth 20000 in
theorem ggX8_straightShare_X8_share : GoodIn wsX8_straightShare wsX8_share := goodIn_r _ [6, 7, 8, 9, 5, 10, 11, 12, 13, 14, 15, 16, 17, 18, 19, 20, 21, 22, 23, 24, 25, 26, 27, 28, 29, 30, 31, 32, 33, 34, 35, 36, 37, 38, 39, 40, 41, 42, 43, 44, 45, 46, 47, 48, 49, 50, 51, 52, 53, 54, 55, 56, 57, 58, 59, 60, 61, 62, 63, 64, 65, 66, 67, 68, 69, 70, 71] (by decide +kernel) (by decide +kernel)
set_option maxRecDepth 20000 in
theorem gX8_straightShare_X8_share : GoodIn wsX8_straightShare (wsV RX8 246 RX8 yX8_share wsX8_share) := goodIn_app (goodIn_of _ (by decide +kernel)) ggX8_straightShare_X8_share
theorem dX8_straightShare_0 : decode cX8_straightShare 0 = .ok (.aload_n 0, 1) := by decide +kernel
theorem dX8_straightShare_1 : decode cX8_straightShare 1 = .ok (.iconst 0, 1) := by decide +kernel
theorem dX8_straightShare_2 : decode cX8_straightShare 2 = .ok (.putfield 50, 3) := by decide +kernel
theorem dX8_straightShare_5 : decode cX8_straightShare 5 = .ok (.aload_n 0, 1) := by decide +kernel
theorem dX8_straightShare_6 : decode cX8_straightShare 6 = .ok (.invokevirtual 246, 3) := by decide +kernel
theorem dX8_straightShare_9 : decode cX8_straightShare 9 = .ok (.dreturn, 1) := by decide +kernel
theorem dX8_mix_0 : decode cX8_mix 0 = .ok (.aload_n 0, 1) := by decide +kernel
theorem dX8_mix_1 : decode cX8_mix 1 = .ok (.ldc2_w 250, 3) := by decide +kernel
theorem dX8_mix_4 : decode cX8_mix 4 = .ok (.aload_n 0, 1) := by decide +kernel
theorem dX8_mix_5 : decode cX8_mix 5 = .ok (.getfield 252, 3) := by decide +kernel
theorem dX8_mix_8 : decode cX8_mix 8 = .ok (.lmul, 1) := by decide +kernel
theorem dX8_mix_9 : decode cX8_mix 9 = .ok (.lload_n 1, 1) := by decide +kernel
theorem dX8_mix_10 : decode cX8_mix 10 = .ok (.ladd, 1) := by decide +kernel
theorem dX8_mix_11 : decode cX8_mix 11 = .ok (.putfield 252, 3) := by decide +kernel
theorem dX8_mix_14 : decode cX8_mix 14 = .ok (.return_, 1) := by decide +kernel
set_option maxRecDepth 20000 in
theorem ggX8_mixRows_X8_personAt : GoodIn wsX8_mixRows wsX8_personAt := goodIn_r _ [5, 6, 7, 8, 9, 4, 10, 82, 83, 84, 85, 86, 87, 88, 89, 90, 91, 92, 93, 94, 95, 96, 97, 98, 99, 100, 101, 102] (by decide +kernel) (by decide +kernel)
set_option maxRecDepth 20000 in
theorem gX8_mixRows_X8_personAt : GoodIn wsX8_mixRows (wsV RX8 222 RX8 yX8_personAt wsX8_personAt) := goodIn_app (goodIn_of _ (by decide +kernel)) ggX8_mixRows_X8_personAt
set_option maxRecDepth 20000 in
theorem ggX8_mixRows_X8_mix : GoodIn wsX8_mixRows wsX8_mix := goodIn_r _ [14, 15, 16, 82, 83, 84, 85, 86, 87, 88, 89, 90, 91, 92, 93, 94, 95, 96, 97, 98, 99, 100, 101, 102] (by decide +kernel) (by decide +kernel)
set_option maxRecDepth 20000 in
theorem gX8_mixRows_X8_mix : GoodIn wsX8_mixRows (wsV RX8 256 RX8 yX8_mix wsX8_mix) := goodIn_app (goodIn_of _ (by decide +kernel)) ggX8_mixRows_X8_mix
set_option maxRecDepth 20000 in
theorem ggX8_mixRows_X8_crossingsTo : GoodIn wsX8_mixRows wsX8_crossingsTo := goodIn_r _ [20, 21, 22, 23, 24, 25, 26, 4, 27, 6, 7, 8, 9, 10, 28, 29, 30, 31, 32, 33, 34, 35, 36, 37, 38, 39, 40, 41, 42, 43, 44, 45, 46, 47, 48, 49, 50, 51, 82, 83, 84, 85, 86, 87, 88, 89, 90, 91, 92, 93, 94, 95, 96, 97, 98, 99, 100, 101, 102] (by decide +kernel) (by decide +kernel)
set_option maxRecDepth 20000 in
theorem gX8_mixRows_X8_crossingsTo : GoodIn wsX8_mixRows (wsV RX8 126 RX8 yX8_crossingsTo wsX8_crossingsTo) := goodIn_app (goodIn_of _ (by decide +kernel)) ggX8_mixRows_X8_crossingsTo
set_option maxRecDepth 20000 in
theorem ggX8_mixRows_X8_leastOf : GoodIn wsX8_mixRows wsX8_leastOf := goodIn_r _ [55, 56, 57, 58, 59, 4, 60, 61, 7, 8, 9, 10, 6, 62, 63, 64, 65, 66, 67, 68, 69, 70, 71, 72, 73, 17, 18, 19, 20, 21, 22, 23, 24, 25, 26, 27, 28, 29, 30, 31, 32, 33, 34, 35, 36, 37, 38, 39, 40, 41, 42, 43, 44, 45, 46, 47, 48, 49, 50, 51, 74, 75, 76, 77, 78, 79, 80, 81, 82, 83, 84, 85, 86, 87, 88, 89, 90, 91, 92, 93, 94, 95, 96, 97, 98, 99, 100, 101, 102] (by decide +kernel) (by decide +kernel)
set_option maxRecDepth 20000 in
theorem gX8_mixRows_X8_leastOf : GoodIn wsX8_mixRows (wsV RX8 158 RX8 yX8_leastOf wsX8_leastOf) := goodIn_app (goodIn_of _ (by decide +kernel)) ggX8_mixRows_X8_leastOf
theorem dX8_mixRows_0 : decode cX8_mixRows 0 = .ok (.iconst 0, 1) := by decide +kernel
theorem dX8_mixRows_1 : decode cX8_mixRows 1 = .ok (.istore_n 1, 1) := by decide +kernel
theorem dX8_mixRows_2 : decode cX8_mixRows 2 = .ok (.iload_n 1, 1) := by decide +kernel
theorem dX8_mixRows_3 : decode cX8_mixRows 3 = .ok (.iconst 4, 1) := by decide +kernel
theorem dX8_mixRows_4 : decode cX8_mixRows 4 = .ok (.if_icmp .ge 54, 3) := by decide +kernel
theorem dX8_mixRows_7 : decode cX8_mixRows 7 = .ok (.iconst 0, 1) := by decide +kernel
theorem dX8_mixRows_8 : decode cX8_mixRows 8 = .ok (.istore_n 2, 1) := by decide +kernel
theorem dX8_mixRows_9 : decode cX8_mixRows 9 = .ok (.iload_n 2, 1) := by decide +kernel
theorem dX8_mixRows_10 : decode cX8_mixRows 10 = .ok (.bipush 6, 2) := by decide +kernel
theorem dX8_mixRows_12 : decode cX8_mixRows 12 = .ok (.if_icmp .ge 20, 3) := by decide +kernel
theorem dX8_mixRows_15 : decode cX8_mixRows 15 = .ok (.aload_n 0, 1) := by decide +kernel
theorem dX8_mixRows_16 : decode cX8_mixRows 16 = .ok (.aload_n 0, 1) := by decide +kernel
theorem dX8_mixRows_17 : decode cX8_mixRows 17 = .ok (.iload_n 1, 1) := by decide +kernel
theorem dX8_mixRows_18 : decode cX8_mixRows 18 = .ok (.iload_n 2, 1) := by decide +kernel
theorem dX8_mixRows_19 : decode cX8_mixRows 19 = .ok (.invokevirtual 222, 3) := by decide +kernel
theorem dX8_mixRows_22 : decode cX8_mixRows 22 = .ok (.i2l, 1) := by decide +kernel
theorem dX8_mixRows_23 : decode cX8_mixRows 23 = .ok (.invokevirtual 256, 3) := by decide +kernel
theorem dX8_mixRows_26 : decode cX8_mixRows 26 = .ok (.iinc 2 1, 3) := by decide +kernel
theorem dX8_mixRows_29 : decode cX8_mixRows 29 = .ok (.goto (-20), 3) := by decide +kernel
theorem dX8_mixRows_32 : decode cX8_mixRows 32 = .ok (.aload_n 0, 1) := by decide +kernel
theorem dX8_mixRows_33 : decode cX8_mixRows 33 = .ok (.aload_n 0, 1) := by decide +kernel
theorem dX8_mixRows_34 : decode cX8_mixRows 34 = .ok (.iload_n 1, 1) := by decide +kernel
theorem dX8_mixRows_35 : decode cX8_mixRows 35 = .ok (.invokevirtual 126, 3) := by decide +kernel
theorem dX8_mixRows_38 : decode cX8_mixRows 38 = .ok (.i2l, 1) := by decide +kernel
theorem dX8_mixRows_39 : decode cX8_mixRows 39 = .ok (.invokevirtual 256, 3) := by decide +kernel
theorem dX8_mixRows_42 : decode cX8_mixRows 42 = .ok (.aload_n 0, 1) := by decide +kernel
theorem dX8_mixRows_43 : decode cX8_mixRows 43 = .ok (.aload_n 0, 1) := by decide +kernel
theorem dX8_mixRows_44 : decode cX8_mixRows 44 = .ok (.iload_n 1, 1) := by decide +kernel
theorem dX8_mixRows_45 : decode cX8_mixRows 45 = .ok (.invokevirtual 126, 3) := by decide +kernel
theorem dX8_mixRows_48 : decode cX8_mixRows 48 = .ok (.i2l, 1) := by decide +kernel
theorem dX8_mixRows_49 : decode cX8_mixRows 49 = .ok (.invokevirtual 256, 3) := by decide +kernel
theorem dX8_mixRows_52 : decode cX8_mixRows 52 = .ok (.iinc 1 1, 3) := by decide +kernel
theorem dX8_mixRows_55 : decode cX8_mixRows 55 = .ok (.goto (-53), 3) := by decide +kernel
theorem dX8_mixRows_58 : decode cX8_mixRows 58 = .ok (.iconst 0, 1) := by decide +kernel
theorem dX8_mixRows_59 : decode cX8_mixRows 59 = .ok (.istore_n 1, 1) := by decide +kernel
theorem dX8_mixRows_60 : decode cX8_mixRows 60 = .ok (.iload_n 1, 1) := by decide +kernel
theorem dX8_mixRows_61 : decode cX8_mixRows 61 = .ok (.iconst 4, 1) := by decide +kernel
theorem dX8_mixRows_62 : decode cX8_mixRows 62 = .ok (.if_icmp .ge 29, 3) := by decide +kernel
theorem dX8_mixRows_65 : decode cX8_mixRows 65 = .ok (.aload_n 0, 1) := by decide +kernel
theorem dX8_mixRows_66 : decode cX8_mixRows 66 = .ok (.aload_n 0, 1) := by decide +kernel
theorem dX8_mixRows_67 : decode cX8_mixRows 67 = .ok (.iload_n 1, 1) := by decide +kernel
theorem dX8_mixRows_68 : decode cX8_mixRows 68 = .ok (.invokevirtual 158, 3) := by decide +kernel
theorem dX8_mixRows_71 : decode cX8_mixRows 71 = .ok (.i2l, 1) := by decide +kernel
theorem dX8_mixRows_72 : decode cX8_mixRows 72 = .ok (.invokevirtual 256, 3) := by decide +kernel
theorem dX8_mixRows_75 : decode cX8_mixRows 75 = .ok (.aload_n 0, 1) := by decide +kernel
theorem dX8_mixRows_76 : decode cX8_mixRows 76 = .ok (.aload_n 0, 1) := by decide +kernel
theorem dX8_mixRows_77 : decode cX8_mixRows 77 = .ok (.iload_n 1, 1) := by decide +kernel
theorem dX8_mixRows_78 : decode cX8_mixRows 78 = .ok (.invokevirtual 158, 3) := by decide +kernel
theorem dX8_mixRows_81 : decode cX8_mixRows 81 = .ok (.i2l, 1) := by decide +kernel
theorem dX8_mixRows_82 : decode cX8_mixRows 82 = .ok (.invokevirtual 256, 3) := by decide +kernel
theorem dX8_mixRows_85 : decode cX8_mixRows 85 = .ok (.iinc 1 1, 3) := by decide +kernel
theorem dX8_mixRows_88 : decode cX8_mixRows 88 = .ok (.goto (-28), 3) := by decide +kernel
theorem dX8_mixRows_91 : decode cX8_mixRows 91 = .ok (.return_, 1) := by decide +kernel
set_option maxRecDepth 20000 in
theorem ggX8_digest_X8_count0 : GoodIn wsX8_digest wsX8_count0 := goodIn_r _ [12, 4, 13, 14, 15, 16, 11, 17, 18, 19, 20, 21, 22, 23, 24, 25, 26, 27, 28, 29, 30, 31, 32, 33, 34, 35, 36, 37, 38, 39, 40, 41, 42, 43, 44, 45, 46, 47, 48, 49, 50, 51, 52, 53, 54, 55, 56, 57, 58, 59, 60, 61, 62, 63, 64, 65, 66, 67, 68, 69, 70, 71, 72, 73, 74, 75, 76, 77, 78, 79, 80, 81, 82, 83, 84, 85, 86, 87, 88, 89, 90, 91, 179, 180, 181, 182, 183, 184, 185, 186, 187, 188, 189, 190, 191, 192, 193, 194, 195, 196, 197, 198, 199] (by decide +kernel) (by decide +kernel)
set_option maxRecDepth 20000 in
theorem gX8_digest_X8_count0 : GoodIn wsX8_digest (wsV RX8 237 RX8 yX8_count0 wsX8_count0) := goodIn_app (goodIn_of _ (by decide +kernel)) ggX8_digest_X8_count0
set_option maxRecDepth 20000 in
theorem ggX8_digest_X8_mix : GoodIn wsX8_digest wsX8_mix := goodIn_r _ [95, 96, 3, 179, 180, 181, 182, 183, 184, 185, 186, 187, 188, 189, 190, 191, 192, 193, 194, 195, 196, 197, 198, 199] (by decide +kernel) (by decide +kernel)
set_option maxRecDepth 20000 in
theorem gX8_digest_X8_mix : GoodIn wsX8_digest (wsV RX8 256 RX8 yX8_mix wsX8_mix) := goodIn_app (goodIn_of _ (by decide +kernel)) ggX8_digest_X8_mix
set_option maxRecDepth 20000 in
theorem ggX8_digest_X8_ofPerson : GoodIn wsX8_digest wsX8_ofPerson := goodIn_r _ [100, 53, 54, 55, 11, 56, 4, 49, 50, 51, 52, 37, 38, 39, 40, 18, 19, 20, 21, 69, 70, 71, 72, 45, 46, 47, 48, 57, 58, 59, 60, 101, 102, 103, 104, 105, 106, 107, 108, 109, 110, 111, 112, 81, 82, 83, 84, 85, 86, 87, 88, 89, 90, 91, 179, 180, 181, 182, 183, 184, 185, 186, 187, 188, 189, 190, 191, 192, 193, 194, 195, 196, 197, 198, 199] (by decide +kernel) (by decide +kernel)
set_option maxRecDepth 20000 in
theorem gX8_digest_X8_ofPerson : GoodIn wsX8_digest (wsV RX8 213 RX8 yX8_ofPerson wsX8_ofPerson) := goodIn_app (goodIn_of _ (by decide +kernel)) ggX8_digest_X8_ofPerson
set_option maxRecDepth 20000 in
theorem ggX8_digest_X8_ofCouple : GoodIn wsX8_digest wsX8_ofCouple := goodIn_r _ [116, 45, 46, 47, 11, 48, 4, 57, 58, 59, 60, 53, 54, 55, 56, 41, 42, 43, 44, 49, 50, 51, 52, 37, 38, 39, 40, 105, 106, 107, 108, 18, 19, 20, 21, 77, 78, 79, 80, 81, 82, 83, 84, 85, 86, 87, 88, 89, 90, 91, 179, 180, 181, 182, 183, 184, 185, 186, 187, 188, 189, 190, 191, 192, 193, 194, 195, 196, 197, 198, 199] (by decide +kernel) (by decide +kernel)
set_option maxRecDepth 20000 in
theorem gX8_digest_X8_ofCouple : GoodIn wsX8_digest (wsV RX8 219 RX8 yX8_ofCouple wsX8_ofCouple) := goodIn_app (goodIn_of _ (by decide +kernel)) ggX8_digest_X8_ofCouple
set_option maxRecDepth 20000 in
theorem ggX8_digest_X8_mixRows : GoodIn wsX8_digest wsX8_mixRows := goodIn_r _ [120, 121, 122, 123, 11, 124, 4, 37, 38, 39, 40, 92, 93, 94, 95, 96, 3, 26, 27, 28, 29, 30, 31, 32, 33, 34, 35, 36, 18, 19, 20, 21, 41, 42, 43, 44, 45, 46, 47, 48, 49, 50, 51, 52, 53, 54, 55, 56, 57, 58, 59, 60, 125, 126, 127, 128, 129, 130, 131, 132, 133, 134, 135, 136, 137, 138, 139, 140, 141, 142, 143, 144, 145, 146, 147, 148, 149, 150, 151, 152, 153, 154, 179, 180, 181, 182, 183, 184, 185, 186, 187, 188, 189, 190, 191, 192, 193, 194, 195, 196, 197, 198, 199] (by decide +kernel) (by decide +kernel)
set_option maxRecDepth 20000 in
theorem gX8_digest_X8_mixRows : GoodIn wsX8_digest (wsV RX8 262 RX8 yX8_mixRows wsX8_mixRows) := goodIn_app (goodIn_of _ (by decide +kernel)) ggX8_digest_X8_mixRows
set_option maxRecDepth 20000 in
theorem ggX8_digest_X8_bestOfAll : GoodIn wsX8_digest wsX8_bestOfAll := goodIn_r _ [158, 4, 22, 23, 24, 11, 25, 26, 27, 28, 29, 30, 31, 32, 33, 34, 35, 36, 37, 38, 39, 40, 18, 19, 20, 21, 41, 42, 43, 44, 45, 46, 47, 48, 49, 50, 51, 52, 53, 54, 55, 56, 57, 58, 59, 60, 139, 140, 141, 142, 179, 180, 181, 182, 183, 184, 185, 186, 187, 188, 189, 190, 191, 192, 193, 194, 195, 196, 197, 198, 199] (by decide +kernel) (by decide +kernel)
set_option maxRecDepth 20000 in
theorem gX8_digest_X8_bestOfAll : GoodIn wsX8_digest (wsV RX8 240 RX8 yX8_bestOfAll wsX8_bestOfAll) := goodIn_app (goodIn_of _ (by decide +kernel)) ggX8_digest_X8_bestOfAll
set_option maxRecDepth 20000 in
theorem ggX8_digest_X8_near : GoodIn wsX8_digest wsX8_near := goodIn_r _ [162, 4, 81, 82, 83, 11, 84, 85, 86, 87, 88, 18, 19, 20, 21, 45, 46, 47, 48, 57, 58, 59, 60, 53, 54, 55, 56, 179, 180, 181, 182, 183, 184, 185, 186, 187, 188, 189, 190, 191, 192, 193, 194, 195, 196, 197, 198, 199] (by decide +kernel) (by decide +kernel)
set_option maxRecDepth 20000 in
theorem gX8_digest_X8_near : GoodIn wsX8_digest (wsV RX8 243 RX8 yX8_near wsX8_near) := goodIn_app (goodIn_of _ (by decide +kernel)) ggX8_digest_X8_near
set_option maxRecDepth 20000 in
theorem ggX8_digest_X8_share : GoodIn wsX8_digest wsX8_share := goodIn_r _ [166, 14, 15, 16, 11, 17, 4, 18, 19, 20, 21, 61, 62, 63, 64, 30, 31, 32, 33, 34, 35, 36, 37, 38, 39, 40, 41, 42, 43, 44, 45, 46, 47, 48, 49, 50, 51, 52, 53, 54, 55, 56, 57, 58, 59, 60, 179, 180, 181, 182, 183, 184, 185, 186, 187, 188, 189, 190, 191, 192, 193, 194, 195, 196, 197, 198, 199] (by decide +kernel) (by decide +kernel)
set_option maxRecDepth 20000 in
theorem gX8_digest_X8_share : GoodIn wsX8_digest (wsV RX8 246 RX8 yX8_share wsX8_share) := goodIn_app (goodIn_of _ (by decide +kernel)) ggX8_digest_X8_share
set_option maxRecDepth 20000 in
theorem ggX8_digest_Jxe99ae_doubleToLongBits_ccdee : GoodIn wsX8_digest wsJxe99ae_doubleToLongBits_ccdee := goodIn_r _ [170, 171, 172, 173, 174, 175, 176, 177, 169, 178] (by decide +kernel) (by decide +kernel)
set_option maxRecDepth 20000 in
theorem gX8_digest_Jxe99ae_doubleToLongBits_ccdee : GoodIn wsX8_digest (va_wsS RX8 265 yJxe99ae_doubleToLongBits_ccdee wsJxe99ae_doubleToLongBits_ccdee) := goodIn_app (goodIn_of _ (by decide +kernel)) ggX8_digest_Jxe99ae_doubleToLongBits_ccdee
theorem dX8_digest_0 : decode cX8_digest 0 = .ok (.aload_n 0, 1) := by decide +kernel
theorem dX8_digest_1 : decode cX8_digest 1 = .ok (.iconst 0, 1) := by decide +kernel
theorem dX8_digest_2 : decode cX8_digest 2 = .ok (.putfield 50, 3) := by decide +kernel
theorem dX8_digest_5 : decode cX8_digest 5 = .ok (.aload_n 0, 1) := by decide +kernel
theorem dX8_digest_6 : decode cX8_digest 6 = .ok (.ldc2_w 260, 3) := by decide +kernel
theorem dX8_digest_9 : decode cX8_digest 9 = .ok (.putfield 252, 3) := by decide +kernel
theorem dX8_digest_12 : decode cX8_digest 12 = .ok (.iconst 0, 1) := by decide +kernel
theorem dX8_digest_13 : decode cX8_digest 13 = .ok (.istore_n 1, 1) := by decide +kernel
theorem dX8_digest_14 : decode cX8_digest 14 = .ok (.iload_n 1, 1) := by decide +kernel
theorem dX8_digest_15 : decode cX8_digest 15 = .ok (.bipush 9, 2) := by decide +kernel
theorem dX8_digest_17 : decode cX8_digest 17 = .ok (.if_icmp .ge 19, 3) := by decide +kernel
theorem dX8_digest_20 : decode cX8_digest 20 = .ok (.aload_n 0, 1) := by decide +kernel
theorem dX8_digest_21 : decode cX8_digest 21 = .ok (.aload_n 0, 1) := by decide +kernel
theorem dX8_digest_22 : decode cX8_digest 22 = .ok (.iload_n 1, 1) := by decide +kernel
theorem dX8_digest_23 : decode cX8_digest 23 = .ok (.invokevirtual 237, 3) := by decide +kernel
theorem dX8_digest_26 : decode cX8_digest 26 = .ok (.i2l, 1) := by decide +kernel
theorem dX8_digest_27 : decode cX8_digest 27 = .ok (.invokevirtual 256, 3) := by decide +kernel
theorem dX8_digest_30 : decode cX8_digest 30 = .ok (.iinc 1 1, 3) := by decide +kernel
theorem dX8_digest_33 : decode cX8_digest 33 = .ok (.goto (-19), 3) := by decide +kernel
theorem dX8_digest_36 : decode cX8_digest 36 = .ok (.iconst 0, 1) := by decide +kernel
theorem dX8_digest_37 : decode cX8_digest 37 = .ok (.istore_n 1, 1) := by decide +kernel
theorem dX8_digest_38 : decode cX8_digest 38 = .ok (.iload_n 1, 1) := by decide +kernel
theorem dX8_digest_39 : decode cX8_digest 39 = .ok (.bipush 7, 2) := by decide +kernel
theorem dX8_digest_41 : decode cX8_digest 41 = .ok (.aload_n 0, 1) := by decide +kernel
theorem dX8_digest_42 : decode cX8_digest 42 = .ok (.getfield 7, 3) := by decide +kernel
theorem dX8_digest_45 : decode cX8_digest 45 = .ok (.iconst 0, 1) := by decide +kernel
theorem dX8_digest_46 : decode cX8_digest 46 = .ok (.iaload, 1) := by decide +kernel
theorem dX8_digest_47 : decode cX8_digest 47 = .ok (.imul, 1) := by decide +kernel
theorem dX8_digest_48 : decode cX8_digest 48 = .ok (.if_icmp .ge 26, 3) := by decide +kernel
theorem dX8_digest_51 : decode cX8_digest 51 = .ok (.aload_n 0, 1) := by decide +kernel
theorem dX8_digest_52 : decode cX8_digest 52 = .ok (.aload_n 0, 1) := by decide +kernel
theorem dX8_digest_53 : decode cX8_digest 53 = .ok (.iload_n 1, 1) := by decide +kernel
theorem dX8_digest_54 : decode cX8_digest 54 = .ok (.bipush 7, 2) := by decide +kernel
theorem dX8_digest_56 : decode cX8_digest 56 = .ok (.idiv, 1) := by decide +kernel
theorem dX8_digest_57 : decode cX8_digest 57 = .ok (.iload_n 1, 1) := by decide +kernel
theorem dX8_digest_58 : decode cX8_digest 58 = .ok (.bipush 7, 2) := by decide +kernel
theorem dX8_digest_60 : decode cX8_digest 60 = .ok (.irem, 1) := by decide +kernel
theorem dX8_digest_61 : decode cX8_digest 61 = .ok (.invokevirtual 213, 3) := by decide +kernel
theorem dX8_digest_64 : decode cX8_digest 64 = .ok (.i2l, 1) := by decide +kernel
theorem dX8_digest_65 : decode cX8_digest 65 = .ok (.invokevirtual 256, 3) := by decide +kernel
theorem dX8_digest_68 : decode cX8_digest 68 = .ok (.iinc 1 1, 3) := by decide +kernel
theorem dX8_digest_71 : decode cX8_digest 71 = .ok (.goto (-33), 3) := by decide +kernel
theorem dX8_digest_74 : decode cX8_digest 74 = .ok (.iconst 0, 1) := by decide +kernel
theorem dX8_digest_75 : decode cX8_digest 75 = .ok (.istore_n 1, 1) := by decide +kernel
theorem dX8_digest_76 : decode cX8_digest 76 = .ok (.iload_n 1, 1) := by decide +kernel
theorem dX8_digest_77 : decode cX8_digest 77 = .ok (.bipush 6, 2) := by decide +kernel
theorem dX8_digest_79 : decode cX8_digest 79 = .ok (.aload_n 0, 1) := by decide +kernel
theorem dX8_digest_80 : decode cX8_digest 80 = .ok (.getfield 7, 3) := by decide +kernel
theorem dX8_digest_83 : decode cX8_digest 83 = .ok (.iconst 1, 1) := by decide +kernel
theorem dX8_digest_84 : decode cX8_digest 84 = .ok (.iaload, 1) := by decide +kernel
theorem dX8_digest_85 : decode cX8_digest 85 = .ok (.imul, 1) := by decide +kernel
theorem dX8_digest_86 : decode cX8_digest 86 = .ok (.if_icmp .ge 26, 3) := by decide +kernel
theorem dX8_digest_89 : decode cX8_digest 89 = .ok (.aload_n 0, 1) := by decide +kernel
theorem dX8_digest_90 : decode cX8_digest 90 = .ok (.aload_n 0, 1) := by decide +kernel
theorem dX8_digest_91 : decode cX8_digest 91 = .ok (.iload_n 1, 1) := by decide +kernel
theorem dX8_digest_92 : decode cX8_digest 92 = .ok (.bipush 6, 2) := by decide +kernel
theorem dX8_digest_94 : decode cX8_digest 94 = .ok (.idiv, 1) := by decide +kernel
theorem dX8_digest_95 : decode cX8_digest 95 = .ok (.iload_n 1, 1) := by decide +kernel
theorem dX8_digest_96 : decode cX8_digest 96 = .ok (.bipush 6, 2) := by decide +kernel
theorem dX8_digest_98 : decode cX8_digest 98 = .ok (.irem, 1) := by decide +kernel
theorem dX8_digest_99 : decode cX8_digest 99 = .ok (.invokevirtual 219, 3) := by decide +kernel
theorem dX8_digest_102 : decode cX8_digest 102 = .ok (.i2l, 1) := by decide +kernel
theorem dX8_digest_103 : decode cX8_digest 103 = .ok (.invokevirtual 256, 3) := by decide +kernel
theorem dX8_digest_106 : decode cX8_digest 106 = .ok (.iinc 1 1, 3) := by decide +kernel
theorem dX8_digest_109 : decode cX8_digest 109 = .ok (.goto (-33), 3) := by decide +kernel
theorem dX8_digest_112 : decode cX8_digest 112 = .ok (.aload_n 0, 1) := by decide +kernel
theorem dX8_digest_113 : decode cX8_digest 113 = .ok (.invokevirtual 262, 3) := by decide +kernel
theorem dX8_digest_116 : decode cX8_digest 116 = .ok (.aload_n 0, 1) := by decide +kernel
theorem dX8_digest_117 : decode cX8_digest 117 = .ok (.aload_n 0, 1) := by decide +kernel
theorem dX8_digest_118 : decode cX8_digest 118 = .ok (.invokevirtual 240, 3) := by decide +kernel
theorem dX8_digest_121 : decode cX8_digest 121 = .ok (.i2l, 1) := by decide +kernel
theorem dX8_digest_122 : decode cX8_digest 122 = .ok (.invokevirtual 256, 3) := by decide +kernel
theorem dX8_digest_125 : decode cX8_digest 125 = .ok (.iconst 0, 1) := by decide +kernel
theorem dX8_digest_126 : decode cX8_digest 126 = .ok (.istore_n 1, 1) := by decide +kernel
theorem dX8_digest_127 : decode cX8_digest 127 = .ok (.iload_n 1, 1) := by decide +kernel
theorem dX8_digest_128 : decode cX8_digest 128 = .ok (.aload_n 0, 1) := by decide +kernel
theorem dX8_digest_129 : decode cX8_digest 129 = .ok (.getfield 7, 3) := by decide +kernel
theorem dX8_digest_132 : decode cX8_digest 132 = .ok (.iconst 0, 1) := by decide +kernel
theorem dX8_digest_133 : decode cX8_digest 133 = .ok (.iaload, 1) := by decide +kernel
theorem dX8_digest_134 : decode cX8_digest 134 = .ok (.if_icmp .ge 20, 3) := by decide +kernel
theorem dX8_digest_137 : decode cX8_digest 137 = .ok (.aload_n 0, 1) := by decide +kernel
theorem dX8_digest_138 : decode cX8_digest 138 = .ok (.aload_n 0, 1) := by decide +kernel
theorem dX8_digest_139 : decode cX8_digest 139 = .ok (.iconst 0, 1) := by decide +kernel
theorem dX8_digest_140 : decode cX8_digest 140 = .ok (.iload_n 1, 1) := by decide +kernel
theorem dX8_digest_141 : decode cX8_digest 141 = .ok (.invokevirtual 243, 3) := by decide +kernel
theorem dX8_digest_144 : decode cX8_digest 144 = .ok (.i2l, 1) := by decide +kernel
theorem dX8_digest_145 : decode cX8_digest 145 = .ok (.invokevirtual 256, 3) := by decide +kernel
theorem dX8_digest_148 : decode cX8_digest 148 = .ok (.iinc 1 1, 3) := by decide +kernel
theorem dX8_digest_151 : decode cX8_digest 151 = .ok (.goto (-24), 3) := by decide +kernel
theorem dX8_digest_154 : decode cX8_digest 154 = .ok (.aload_n 0, 1) := by decide +kernel
theorem dX8_digest_155 : decode cX8_digest 155 = .ok (.aload_n 0, 1) := by decide +kernel
theorem dX8_digest_156 : decode cX8_digest 156 = .ok (.invokevirtual 246, 3) := by decide +kernel
theorem dX8_digest_159 : decode cX8_digest 159 = .ok (.invokestatic 265, 3) := by decide +kernel
theorem dX8_digest_162 : decode cX8_digest 162 = .ok (.invokevirtual 256, 3) := by decide +kernel
theorem dX8_digest_165 : decode cX8_digest 165 = .ok (.aload_n 0, 1) := by decide +kernel
theorem dX8_digest_166 : decode cX8_digest 166 = .ok (.aload_n 0, 1) := by decide +kernel
theorem dX8_digest_167 : decode cX8_digest 167 = .ok (.getfield 19, 3) := by decide +kernel
theorem dX8_digest_170 : decode cX8_digest 170 = .ok (.iconst 0, 1) := by decide +kernel
theorem dX8_digest_171 : decode cX8_digest 171 = .ok (.baload, 1) := by decide +kernel
theorem dX8_digest_172 : decode cX8_digest 172 = .ok (.ifCond .eq 7, 3) := by decide +kernel
theorem dX8_digest_175 : decode cX8_digest 175 = .ok (.lconst 1, 1) := by decide +kernel
theorem dX8_digest_176 : decode cX8_digest 176 = .ok (.goto 4, 3) := by decide +kernel
theorem dX8_digest_179 : decode cX8_digest 179 = .ok (.lconst 0, 1) := by decide +kernel
theorem dX8_digest_180 : decode cX8_digest 180 = .ok (.invokevirtual 256, 3) := by decide +kernel
theorem dX8_digest_183 : decode cX8_digest 183 = .ok (.aload_n 0, 1) := by decide +kernel
theorem dX8_digest_184 : decode cX8_digest 184 = .ok (.aload_n 0, 1) := by decide +kernel
theorem dX8_digest_185 : decode cX8_digest 185 = .ok (.getfield 19, 3) := by decide +kernel
theorem dX8_digest_188 : decode cX8_digest 188 = .ok (.iconst 1, 1) := by decide +kernel
theorem dX8_digest_189 : decode cX8_digest 189 = .ok (.baload, 1) := by decide +kernel
theorem dX8_digest_190 : decode cX8_digest 190 = .ok (.ifCond .eq 7, 3) := by decide +kernel
theorem dX8_digest_193 : decode cX8_digest 193 = .ok (.lconst 1, 1) := by decide +kernel
theorem dX8_digest_194 : decode cX8_digest 194 = .ok (.goto 4, 3) := by decide +kernel
theorem dX8_digest_197 : decode cX8_digest 197 = .ok (.lconst 0, 1) := by decide +kernel
theorem dX8_digest_198 : decode cX8_digest 198 = .ok (.invokevirtual 256, 3) := by decide +kernel
theorem dX8_digest_201 : decode cX8_digest 201 = .ok (.aload_n 0, 1) := by decide +kernel
theorem dX8_digest_202 : decode cX8_digest 202 = .ok (.aload_n 0, 1) := by decide +kernel
theorem dX8_digest_203 : decode cX8_digest 203 = .ok (.getfield 161, 3) := by decide +kernel
theorem dX8_digest_206 : decode cX8_digest 206 = .ok (.i2l, 1) := by decide +kernel
theorem dX8_digest_207 : decode cX8_digest 207 = .ok (.invokevirtual 256, 3) := by decide +kernel
theorem dX8_digest_210 : decode cX8_digest 210 = .ok (.iconst 0, 1) := by decide +kernel
theorem dX8_digest_211 : decode cX8_digest 211 = .ok (.istore_n 1, 1) := by decide +kernel
theorem dX8_digest_212 : decode cX8_digest 212 = .ok (.iload_n 1, 1) := by decide +kernel
theorem dX8_digest_213 : decode cX8_digest 213 = .ok (.aload_n 0, 1) := by decide +kernel
theorem dX8_digest_214 : decode cX8_digest 214 = .ok (.getfield 161, 3) := by decide +kernel
theorem dX8_digest_217 : decode cX8_digest 217 = .ok (.if_icmp .ge 20, 3) := by decide +kernel
theorem dX8_digest_220 : decode cX8_digest 220 = .ok (.aload_n 0, 1) := by decide +kernel
theorem dX8_digest_221 : decode cX8_digest 221 = .ok (.aload_n 0, 1) := by decide +kernel
theorem dX8_digest_222 : decode cX8_digest 222 = .ok (.getfield 38, 3) := by decide +kernel
theorem dX8_digest_225 : decode cX8_digest 225 = .ok (.iload_n 1, 1) := by decide +kernel
theorem dX8_digest_226 : decode cX8_digest 226 = .ok (.iaload, 1) := by decide +kernel
theorem dX8_digest_227 : decode cX8_digest 227 = .ok (.i2l, 1) := by decide +kernel
theorem dX8_digest_228 : decode cX8_digest 228 = .ok (.invokevirtual 256, 3) := by decide +kernel
theorem dX8_digest_231 : decode cX8_digest 231 = .ok (.iinc 1 1, 3) := by decide +kernel
theorem dX8_digest_234 : decode cX8_digest 234 = .ok (.goto (-22), 3) := by decide +kernel
theorem dX8_digest_237 : decode cX8_digest 237 = .ok (.aload_n 0, 1) := by decide +kernel
theorem dX8_digest_238 : decode cX8_digest 238 = .ok (.getfield 252, 3) := by decide +kernel
theorem dX8_digest_241 : decode cX8_digest 241 = .ok (.lreturn, 1) := by decide +kernel
theorem dJxe99ae_isNaN_b9ae7_0 : decode cJxe99ae_isNaN_b9ae7 0 = .ok (.dload_n 0, 1) := by decide +kernel
theorem dJxe99ae_isNaN_b9ae7_1 : decode cJxe99ae_isNaN_b9ae7 1 = .ok (.dload_n 0, 1) := by decide +kernel
theorem dJxe99ae_isNaN_b9ae7_2 : decode cJxe99ae_isNaN_b9ae7 2 = .ok (.dcmp .l, 1) := by decide +kernel
theorem dJxe99ae_isNaN_b9ae7_3 : decode cJxe99ae_isNaN_b9ae7 3 = .ok (.ifCond .eq 7, 3) := by decide +kernel
theorem dJxe99ae_isNaN_b9ae7_6 : decode cJxe99ae_isNaN_b9ae7 6 = .ok (.iconst 1, 1) := by decide +kernel
theorem dJxe99ae_isNaN_b9ae7_7 : decode cJxe99ae_isNaN_b9ae7 7 = .ok (.goto 4, 3) := by decide +kernel
theorem dJxe99ae_isNaN_b9ae7_10 : decode cJxe99ae_isNaN_b9ae7 10 = .ok (.iconst 0, 1) := by decide +kernel
theorem dJxe99ae_isNaN_b9ae7_11 : decode cJxe99ae_isNaN_b9ae7 11 = .ok (.ireturn, 1) := by decide +kernel
set_option maxRecDepth 20000 in
theorem ggJxe99ae_doubleToLongBits_ccdee_Jxe99ae_isNaN_b9ae7 : GoodIn wsJxe99ae_doubleToLongBits_ccdee wsJxe99ae_isNaN_b9ae7 := goodIn_r _ [9] (by decide +kernel) (by decide +kernel)
set_option maxRecDepth 20000 in
theorem gJxe99ae_doubleToLongBits_ccdee_Jxe99ae_isNaN_b9ae7 : GoodIn wsJxe99ae_doubleToLongBits_ccdee (va_wsS RJxe99ae 122 yJxe99ae_isNaN_b9ae7 wsJxe99ae_isNaN_b9ae7) := goodIn_app (goodIn_of _ (by decide +kernel)) ggJxe99ae_doubleToLongBits_ccdee_Jxe99ae_isNaN_b9ae7
theorem dJxe99ae_doubleToLongBits_ccdee_0 : decode cJxe99ae_doubleToLongBits_ccdee 0 = .ok (.dload_n 0, 1) := by decide +kernel
theorem dJxe99ae_doubleToLongBits_ccdee_1 : decode cJxe99ae_doubleToLongBits_ccdee 1 = .ok (.invokestatic 122, 3) := by decide +kernel
theorem dJxe99ae_doubleToLongBits_ccdee_4 : decode cJxe99ae_doubleToLongBits_ccdee 4 = .ok (.ifCond .ne 8, 3) := by decide +kernel
theorem dJxe99ae_doubleToLongBits_ccdee_7 : decode cJxe99ae_doubleToLongBits_ccdee 7 = .ok (.dload_n 0, 1) := by decide +kernel
theorem dJxe99ae_doubleToLongBits_ccdee_8 : decode cJxe99ae_doubleToLongBits_ccdee 8 = .ok (.invokestatic 134, 3) := by decide +kernel
theorem dJxe99ae_doubleToLongBits_ccdee_11 : decode cJxe99ae_doubleToLongBits_ccdee 11 = .ok (.lreturn, 1) := by decide +kernel
theorem dJxe99ae_doubleToLongBits_ccdee_12 : decode cJxe99ae_doubleToLongBits_ccdee 12 = .ok (.ldc2_w 137, 3) := by decide +kernel
theorem dJxe99ae_doubleToLongBits_ccdee_15 : decode cJxe99ae_doubleToLongBits_ccdee 15 = .ok (.lreturn, 1) := by decide +kernel
theorem dJ6_bitCount_0f7a4_0 : decode cJ6_bitCount_0f7a4 0 = .ok (.iload_n 0, 1) := by decide +kernel
theorem dJ6_bitCount_0f7a4_1 : decode cJ6_bitCount_0f7a4 1 = .ok (.iload_n 0, 1) := by decide +kernel
theorem dJ6_bitCount_0f7a4_2 : decode cJ6_bitCount_0f7a4 2 = .ok (.iconst 1, 1) := by decide +kernel
theorem dJ6_bitCount_0f7a4_3 : decode cJ6_bitCount_0f7a4 3 = .ok (.iushr, 1) := by decide +kernel
theorem dJ6_bitCount_0f7a4_4 : decode cJ6_bitCount_0f7a4 4 = .ok (.ldc_w 265, 3) := by decide +kernel
theorem dJ6_bitCount_0f7a4_7 : decode cJ6_bitCount_0f7a4 7 = .ok (.iand, 1) := by decide +kernel
theorem dJ6_bitCount_0f7a4_8 : decode cJ6_bitCount_0f7a4 8 = .ok (.isub, 1) := by decide +kernel
theorem dJ6_bitCount_0f7a4_9 : decode cJ6_bitCount_0f7a4 9 = .ok (.istore_n 0, 1) := by decide +kernel
theorem dJ6_bitCount_0f7a4_10 : decode cJ6_bitCount_0f7a4 10 = .ok (.iload_n 0, 1) := by decide +kernel
theorem dJ6_bitCount_0f7a4_11 : decode cJ6_bitCount_0f7a4 11 = .ok (.ldc_w 266, 3) := by decide +kernel
theorem dJ6_bitCount_0f7a4_14 : decode cJ6_bitCount_0f7a4 14 = .ok (.iand, 1) := by decide +kernel
theorem dJ6_bitCount_0f7a4_15 : decode cJ6_bitCount_0f7a4 15 = .ok (.iload_n 0, 1) := by decide +kernel
theorem dJ6_bitCount_0f7a4_16 : decode cJ6_bitCount_0f7a4 16 = .ok (.iconst 2, 1) := by decide +kernel
theorem dJ6_bitCount_0f7a4_17 : decode cJ6_bitCount_0f7a4 17 = .ok (.iushr, 1) := by decide +kernel
theorem dJ6_bitCount_0f7a4_18 : decode cJ6_bitCount_0f7a4 18 = .ok (.ldc_w 266, 3) := by decide +kernel
theorem dJ6_bitCount_0f7a4_21 : decode cJ6_bitCount_0f7a4 21 = .ok (.iand, 1) := by decide +kernel
theorem dJ6_bitCount_0f7a4_22 : decode cJ6_bitCount_0f7a4 22 = .ok (.iadd, 1) := by decide +kernel
theorem dJ6_bitCount_0f7a4_23 : decode cJ6_bitCount_0f7a4 23 = .ok (.istore_n 0, 1) := by decide +kernel
theorem dJ6_bitCount_0f7a4_24 : decode cJ6_bitCount_0f7a4 24 = .ok (.iload_n 0, 1) := by decide +kernel
theorem dJ6_bitCount_0f7a4_25 : decode cJ6_bitCount_0f7a4 25 = .ok (.iload_n 0, 1) := by decide +kernel
theorem dJ6_bitCount_0f7a4_26 : decode cJ6_bitCount_0f7a4 26 = .ok (.iconst 4, 1) := by decide +kernel
theorem dJ6_bitCount_0f7a4_27 : decode cJ6_bitCount_0f7a4 27 = .ok (.iushr, 1) := by decide +kernel
theorem dJ6_bitCount_0f7a4_28 : decode cJ6_bitCount_0f7a4 28 = .ok (.iadd, 1) := by decide +kernel
theorem dJ6_bitCount_0f7a4_29 : decode cJ6_bitCount_0f7a4 29 = .ok (.ldc_w 267, 3) := by decide +kernel
theorem dJ6_bitCount_0f7a4_32 : decode cJ6_bitCount_0f7a4 32 = .ok (.iand, 1) := by decide +kernel
theorem dJ6_bitCount_0f7a4_33 : decode cJ6_bitCount_0f7a4 33 = .ok (.istore_n 0, 1) := by decide +kernel
theorem dJ6_bitCount_0f7a4_34 : decode cJ6_bitCount_0f7a4 34 = .ok (.iload_n 0, 1) := by decide +kernel
theorem dJ6_bitCount_0f7a4_35 : decode cJ6_bitCount_0f7a4 35 = .ok (.iload_n 0, 1) := by decide +kernel
theorem dJ6_bitCount_0f7a4_36 : decode cJ6_bitCount_0f7a4 36 = .ok (.bipush 8, 2) := by decide +kernel
theorem dJ6_bitCount_0f7a4_38 : decode cJ6_bitCount_0f7a4 38 = .ok (.iushr, 1) := by decide +kernel
theorem dJ6_bitCount_0f7a4_39 : decode cJ6_bitCount_0f7a4 39 = .ok (.iadd, 1) := by decide +kernel
theorem dJ6_bitCount_0f7a4_40 : decode cJ6_bitCount_0f7a4 40 = .ok (.istore_n 0, 1) := by decide +kernel
theorem dJ6_bitCount_0f7a4_41 : decode cJ6_bitCount_0f7a4 41 = .ok (.iload_n 0, 1) := by decide +kernel
theorem dJ6_bitCount_0f7a4_42 : decode cJ6_bitCount_0f7a4 42 = .ok (.iload_n 0, 1) := by decide +kernel
theorem dJ6_bitCount_0f7a4_43 : decode cJ6_bitCount_0f7a4 43 = .ok (.bipush 16, 2) := by decide +kernel
theorem dJ6_bitCount_0f7a4_45 : decode cJ6_bitCount_0f7a4 45 = .ok (.iushr, 1) := by decide +kernel
theorem dJ6_bitCount_0f7a4_46 : decode cJ6_bitCount_0f7a4 46 = .ok (.iadd, 1) := by decide +kernel
theorem dJ6_bitCount_0f7a4_47 : decode cJ6_bitCount_0f7a4 47 = .ok (.istore_n 0, 1) := by decide +kernel
theorem dJ6_bitCount_0f7a4_48 : decode cJ6_bitCount_0f7a4 48 = .ok (.iload_n 0, 1) := by decide +kernel
theorem dJ6_bitCount_0f7a4_49 : decode cJ6_bitCount_0f7a4 49 = .ok (.bipush 63, 2) := by decide +kernel
theorem dJ6_bitCount_0f7a4_51 : decode cJ6_bitCount_0f7a4 51 = .ok (.iand, 1) := by decide +kernel
theorem dJ6_bitCount_0f7a4_52 : decode cJ6_bitCount_0f7a4 52 = .ok (.ireturn, 1) := by decide +kernel
theorem dJ9_max_7cf53_0 : decode cJ9_max_7cf53 0 = .ok (.iload_n 0, 1) := by decide +kernel
theorem dJ9_max_7cf53_1 : decode cJ9_max_7cf53 1 = .ok (.iload_n 1, 1) := by decide +kernel
theorem dJ9_max_7cf53_2 : decode cJ9_max_7cf53 2 = .ok (.if_icmp .lt 7, 3) := by decide +kernel
theorem dJ9_max_7cf53_5 : decode cJ9_max_7cf53 5 = .ok (.iload_n 0, 1) := by decide +kernel
theorem dJ9_max_7cf53_6 : decode cJ9_max_7cf53 6 = .ok (.goto 4, 3) := by decide +kernel
theorem dJ9_max_7cf53_9 : decode cJ9_max_7cf53 9 = .ok (.iload_n 1, 1) := by decide +kernel
theorem dJ9_max_7cf53_10 : decode cJ9_max_7cf53 10 = .ok (.ireturn, 1) := by decide +kernel
theorem dJ9_min_7cf53_0 : decode cJ9_min_7cf53 0 = .ok (.iload_n 0, 1) := by decide +kernel
theorem dJ9_min_7cf53_1 : decode cJ9_min_7cf53 1 = .ok (.iload_n 1, 1) := by decide +kernel
theorem dJ9_min_7cf53_2 : decode cJ9_min_7cf53 2 = .ok (.if_icmp .gt 7, 3) := by decide +kernel
theorem dJ9_min_7cf53_5 : decode cJ9_min_7cf53 5 = .ok (.iload_n 0, 1) := by decide +kernel
theorem dJ9_min_7cf53_6 : decode cJ9_min_7cf53 6 = .ok (.goto 4, 3) := by decide +kernel
theorem dJ9_min_7cf53_9 : decode cJ9_min_7cf53 9 = .ok (.iload_n 1, 1) := by decide +kernel
theorem dJ9_min_7cf53_10 : decode cJ9_min_7cf53 10 = .ok (.ireturn, 1) := by decide +kernel
abbrev vwCl : List vw_C := [(RX1, TX1, 2), (RX2, TX2, 3), (RX3, TX3, 13), (RX4, TX4, 3), (RX5, TX5, 10), (RX6, TX6, 6), (RX7, TX7, 8), (RX8, TX8, 21)]
