theorem dX3_leastByAllOrders_4 : decode cX3_leastByAllOrders 4 = .ok (.putfield 99, 3) := by decide +kernel
theorem dX3_leastByAllOrders_7 : decode cX3_leastByAllOrders 7 = .ok (.iconst 1, 1) := by decide +kernel
theorem dX3_leastByAllOrders_8 : decode cX3_leastByAllOrders 8 = .ok (.istore_n 1, 1) := by decide +kernel
theorem dX3_leastByAllOrders_9 : decode cX3_leastByAllOrders 9 = .ok (.iconst 0, 1) := by decide +kernel
theorem dX3_leastByAllOrders_10 : decode cX3_leastByAllOrders 10 = .ok (.istore_n 2, 1) := by decide +kernel
theorem dX3_leastByAllOrders_11 : decode cX3_leastByAllOrders 11 = .ok (.iload_n 2, 1) := by decide +kernel
theorem dX3_leastByAllOrders_12 : decode cX3_leastByAllOrders 12 = .ok (.sipush 720, 3) := by decide +kernel
theorem dX3_leastByAllOrders_15 : decode cX3_leastByAllOrders 15 = .ok (.if_icmp .ge 55, 3) := by decide +kernel
theorem dX3_leastByAllOrders_18 : decode cX3_leastByAllOrders 18 = .ok (.iload_n 1, 1) := by decide +kernel
theorem dX3_leastByAllOrders_19 : decode cX3_leastByAllOrders 19 = .ok (.ifCond .eq 51, 3) := by decide +kernel
theorem dX3_leastByAllOrders_22 : decode cX3_leastByAllOrders 22 = .ok (.aload_n 0, 1) := by decide +kernel
theorem dX3_leastByAllOrders_23 : decode cX3_leastByAllOrders 23 = .ok (.aload_n 0, 1) := by decide +kernel
theorem dX3_leastByAllOrders_24 : decode cX3_leastByAllOrders 24 = .ok (.getfield 65, 3) := by decide +kernel
theorem dX3_leastByAllOrders_27 : decode cX3_leastByAllOrders 27 = .ok (.invokevirtual 102, 3) := by decide +kernel
theorem dX3_leastByAllOrders_30 : decode cX3_leastByAllOrders 30 = .ok (.istore_n 3, 1) := by decide +kernel
theorem dX3_leastByAllOrders_31 : decode cX3_leastByAllOrders 31 = .ok (.iload_n 3, 1) := by decide +kernel
theorem dX3_leastByAllOrders_32 : decode cX3_leastByAllOrders 32 = .ok (.aload_n 0, 1) := by decide +kernel
theorem dX3_leastByAllOrders_33 : decode cX3_leastByAllOrders 33 = .ok (.getfield 99, 3) := by decide +kernel
theorem dX3_leastByAllOrders_36 : decode cX3_leastByAllOrders 36 = .ok (.if_icmp .ge 23, 3) := by decide +kernel
theorem dX3_leastByAllOrders_39 : decode cX3_leastByAllOrders 39 = .ok (.aload_n 0, 1) := by decide +kernel
theorem dX3_leastByAllOrders_40 : decode cX3_leastByAllOrders 40 = .ok (.iload_n 3, 1) := by decide +kernel
theorem dX3_leastByAllOrders_41 : decode cX3_leastByAllOrders 41 = .ok (.putfield 99, 3) := by decide +kernel
theorem dX3_leastByAllOrders_44 : decode cX3_leastByAllOrders 44 = .ok (.aload_n 0, 1) := by decide +kernel
theorem dX3_leastByAllOrders_45 : decode cX3_leastByAllOrders 45 = .ok (.getfield 9, 3) := by decide +kernel
theorem dX3_leastByAllOrders_48 : decode cX3_leastByAllOrders 48 = .ok (.iconst 0, 1) := by decide +kernel
theorem dX3_leastByAllOrders_49 : decode cX3_leastByAllOrders 49 = .ok (.aload_n 0, 1) := by decide +kernel
theorem dX3_leastByAllOrders_50 : decode cX3_leastByAllOrders 50 = .ok (.getfield 15, 3) := by decide +kernel
theorem dX3_leastByAllOrders_53 : decode cX3_leastByAllOrders 53 = .ok (.iconst 0, 1) := by decide +kernel
theorem dX3_leastByAllOrders_54 : decode cX3_leastByAllOrders 54 = .ok (.bipush 6, 2) := by decide +kernel
theorem dX3_leastByAllOrders_56 : decode cX3_leastByAllOrders 56 = .ok (.invokestatic 105, 3) := by decide +kernel
theorem dX3_leastByAllOrders_59 : decode cX3_leastByAllOrders 59 = .ok (.aload_n 0, 1) := by decide +kernel
theorem dX3_leastByAllOrders_60 : decode cX3_leastByAllOrders 60 = .ok (.invokevirtual 111, 3) := by decide +kernel
theorem dX3_leastByAllOrders_63 : decode cX3_leastByAllOrders 63 = .ok (.istore_n 1, 1) := by decide +kernel
theorem dX3_leastByAllOrders_64 : decode cX3_leastByAllOrders 64 = .ok (.iinc 2 1, 3) := by decide +kernel
theorem dX3_leastByAllOrders_67 : decode cX3_leastByAllOrders 67 = .ok (.goto (-56), 3) := by decide +kernel
theorem dX3_leastByAllOrders_70 : decode cX3_leastByAllOrders 70 = .ok (.aload_n 0, 1) := by decide +kernel
theorem dX3_leastByAllOrders_71 : decode cX3_leastByAllOrders 71 = .ok (.getfield 99, 3) := by decide +kernel
theorem dX3_leastByAllOrders_74 : decode cX3_leastByAllOrders 74 = .ok (.ireturn, 1) := by decide +kernel
set_option maxRecDepth 20000 in
theorem ggX3_layBest_X5_lay : GoodIn wsX3_layBest wsX5_lay := goodIn_r _ [7, 8, 9, 10, 11, 12, 6, 13, 14, 15, 16, 17, 18, 19, 33, 34, 35, 36, 37, 38, 39, 40, 41, 42] (by decide +kernel) (by decide +kernel)
set_option maxRecDepth 20000 in
theorem gX3_layBest_X5_lay : GoodIn wsX3_layBest (wsV RX3 115 RX5 yX5_lay wsX5_lay) := goodIn_app (goodIn_of _ (by decide +kernel)) ggX3_layBest_X5_lay
theorem dX3_layBest_0 : decode cX3_layBest 0 = .ok (.iconst 0, 1) := by decide +kernel
theorem dX3_layBest_1 : decode cX3_layBest 1 = .ok (.istore_n 3, 1) := by decide +kernel
theorem dX3_layBest_2 : decode cX3_layBest 2 = .ok (.iload_n 3, 1) := by decide +kernel
theorem dX3_layBest_3 : decode cX3_layBest 3 = .ok (.aload_n 0, 1) := by decide +kernel
theorem dX3_layBest_4 : decode cX3_layBest 4 = .ok (.getfield 65, 3) := by decide +kernel
theorem dX3_layBest_7 : decode cX3_layBest 7 = .ok (.if_icmp .ge 21, 3) := by decide +kernel
theorem dX3_layBest_10 : decode cX3_layBest 10 = .ok (.aload_n 1, 1) := by decide +kernel
theorem dX3_layBest_11 : decode cX3_layBest 11 = .ok (.iload_n 2, 1) := by decide +kernel
theorem dX3_layBest_12 : decode cX3_layBest 12 = .ok (.iload_n 3, 1) := by decide +kernel
theorem dX3_layBest_13 : decode cX3_layBest 13 = .ok (.aload_n 0, 1) := by decide +kernel
theorem dX3_layBest_14 : decode cX3_layBest 14 = .ok (.getfield 15, 3) := by decide +kernel
theorem dX3_layBest_17 : decode cX3_layBest 17 = .ok (.iload_n 3, 1) := by decide +kernel
theorem dX3_layBest_18 : decode cX3_layBest 18 = .ok (.iaload, 1) := by decide +kernel
theorem dX3_layBest_19 : decode cX3_layBest 19 = .ok (.invokevirtual 115, 3) := by decide +kernel
theorem dX3_layBest_22 : decode cX3_layBest 22 = .ok (.iinc 3 1, 3) := by decide +kernel
theorem dX3_layBest_25 : decode cX3_layBest 25 = .ok (.goto (-23), 3) := by decide +kernel
theorem dX3_layBest_28 : decode cX3_layBest 28 = .ok (.return_, 1) := by decide +kernel
set_option maxRecDepth 20000 in
theorem ggX3_goToNextOrder_X3_exchange : GoodIn wsX3_goToNextOrder wsX3_exchange := goodIn_r _ [7, 2, 8, 9, 10, 11, 12, 13, 14, 15, 16, 17, 18, 19, 20] (by decide +kernel) (by decide +kernel)
set_option maxRecDepth 20000 in
theorem gX3_goToNextOrder_X3_exchange : GoodIn wsX3_goToNextOrder (wsV RX3 119 RX3 yX3_exchange wsX3_exchange) := goodIn_app (goodIn_of _ (by decide +kernel)) ggX3_goToNextOrder_X3_exchange
theorem dX3_goToNextOrder_0 : decode cX3_goToNextOrder 0 = .ok (.aload_n 0, 1) := by decide +kernel
theorem dX3_goToNextOrder_1 : decode cX3_goToNextOrder 1 = .ok (.getfield 65, 3) := by decide +kernel
theorem dX3_goToNextOrder_4 : decode cX3_goToNextOrder 4 = .ok (.iconst 2, 1) := by decide +kernel
theorem dX3_goToNextOrder_5 : decode cX3_goToNextOrder 5 = .ok (.isub, 1) := by decide +kernel
theorem dX3_goToNextOrder_6 : decode cX3_goToNextOrder 6 = .ok (.istore_n 1, 1) := by decide +kernel
theorem dX3_goToNextOrder_7 : decode cX3_goToNextOrder 7 = .ok (.iload_n 1, 1) := by decide +kernel
theorem dX3_goToNextOrder_8 : decode cX3_goToNextOrder 8 = .ok (.ifCond .lt 26, 3) := by decide +kernel
theorem dX3_goToNextOrder_11 : decode cX3_goToNextOrder 11 = .ok (.aload_n 0, 1) := by decide +kernel
theorem dX3_goToNextOrder_12 : decode cX3_goToNextOrder 12 = .ok (.getfield 9, 3) := by decide +kernel
theorem dX3_goToNextOrder_15 : decode cX3_goToNextOrder 15 = .ok (.iload_n 1, 1) := by decide +kernel
theorem dX3_goToNextOrder_16 : decode cX3_goToNextOrder 16 = .ok (.iaload, 1) := by decide +kernel
theorem dX3_goToNextOrder_17 : decode cX3_goToNextOrder 17 = .ok (.aload_n 0, 1) := by decide +kernel
theorem dX3_goToNextOrder_18 : decode cX3_goToNextOrder 18 = .ok (.getfield 9, 3) := by decide +kernel
theorem dX3_goToNextOrder_21 : decode cX3_goToNextOrder 21 = .ok (.iload_n 1, 1) := by decide +kernel
theorem dX3_goToNextOrder_22 : decode cX3_goToNextOrder 22 = .ok (.iconst 1, 1) := by decide +kernel
theorem dX3_goToNextOrder_23 : decode cX3_goToNextOrder 23 = .ok (.iadd, 1) := by decide +kernel
theorem dX3_goToNextOrder_24 : decode cX3_goToNextOrder 24 = .ok (.iaload, 1) := by decide +kernel
theorem dX3_goToNextOrder_25 : decode cX3_goToNextOrder 25 = .ok (.if_icmp .le 9, 3) := by decide +kernel
theorem dX3_goToNextOrder_28 : decode cX3_goToNextOrder 28 = .ok (.iinc 1 (-1), 3) := by decide +kernel
theorem dX3_goToNextOrder_31 : decode cX3_goToNextOrder 31 = .ok (.goto (-24), 3) := by decide +kernel
theorem dX3_goToNextOrder_34 : decode cX3_goToNextOrder 34 = .ok (.iload_n 1, 1) := by decide +kernel
theorem dX3_goToNextOrder_35 : decode cX3_goToNextOrder 35 = .ok (.ifCond .ge 5, 3) := by decide +kernel
theorem dX3_goToNextOrder_38 : decode cX3_goToNextOrder 38 = .ok (.iconst 0, 1) := by decide +kernel
theorem dX3_goToNextOrder_39 : decode cX3_goToNextOrder 39 = .ok (.ireturn, 1) := by decide +kernel
theorem dX3_goToNextOrder_40 : decode cX3_goToNextOrder 40 = .ok (.aload_n 0, 1) := by decide +kernel
theorem dX3_goToNextOrder_41 : decode cX3_goToNextOrder 41 = .ok (.getfield 65, 3) := by decide +kernel
theorem dX3_goToNextOrder_44 : decode cX3_goToNextOrder 44 = .ok (.iconst 1, 1) := by decide +kernel
theorem dX3_goToNextOrder_45 : decode cX3_goToNextOrder 45 = .ok (.isub, 1) := by decide +kernel
theorem dX3_goToNextOrder_46 : decode cX3_goToNextOrder 46 = .ok (.istore_n 2, 1) := by decide +kernel
theorem dX3_goToNextOrder_47 : decode cX3_goToNextOrder 47 = .ok (.iload_n 2, 1) := by decide +kernel
theorem dX3_goToNextOrder_48 : decode cX3_goToNextOrder 48 = .ok (.iload_n 1, 1) := by decide +kernel
theorem dX3_goToNextOrder_49 : decode cX3_goToNextOrder 49 = .ok (.iconst 1, 1) := by decide +kernel
theorem dX3_goToNextOrder_50 : decode cX3_goToNextOrder 50 = .ok (.iadd, 1) := by decide +kernel
theorem dX3_goToNextOrder_51 : decode cX3_goToNextOrder 51 = .ok (.if_icmp .le 24, 3) := by decide +kernel
theorem dX3_goToNextOrder_54 : decode cX3_goToNextOrder 54 = .ok (.aload_n 0, 1) := by decide +kernel
theorem dX3_goToNextOrder_55 : decode cX3_goToNextOrder 55 = .ok (.getfield 9, 3) := by decide +kernel
theorem dX3_goToNextOrder_58 : decode cX3_goToNextOrder 58 = .ok (.iload_n 2, 1) := by decide +kernel
theorem dX3_goToNextOrder_59 : decode cX3_goToNextOrder 59 = .ok (.iaload, 1) := by decide +kernel
theorem dX3_goToNextOrder_60 : decode cX3_goToNextOrder 60 = .ok (.aload_n 0, 1) := by decide +kernel
theorem dX3_goToNextOrder_61 : decode cX3_goToNextOrder 61 = .ok (.getfield 9, 3) := by decide +kernel
theorem dX3_goToNextOrder_64 : decode cX3_goToNextOrder 64 = .ok (.iload_n 1, 1) := by decide +kernel
theorem dX3_goToNextOrder_65 : decode cX3_goToNextOrder 65 = .ok (.iaload, 1) := by decide +kernel
theorem dX3_goToNextOrder_66 : decode cX3_goToNextOrder 66 = .ok (.if_icmp .ge 9, 3) := by decide +kernel
theorem dX3_goToNextOrder_69 : decode cX3_goToNextOrder 69 = .ok (.iinc 2 (-1), 3) := by decide +kernel
theorem dX3_goToNextOrder_72 : decode cX3_goToNextOrder 72 = .ok (.goto (-25), 3) := by decide +kernel
theorem dX3_goToNextOrder_75 : decode cX3_goToNextOrder 75 = .ok (.aload_n 0, 1) := by decide +kernel
theorem dX3_goToNextOrder_76 : decode cX3_goToNextOrder 76 = .ok (.iload_n 1, 1) := by decide +kernel
theorem dX3_goToNextOrder_77 : decode cX3_goToNextOrder 77 = .ok (.iload_n 2, 1) := by decide +kernel
theorem dX3_goToNextOrder_78 : decode cX3_goToNextOrder 78 = .ok (.invokevirtual 119, 3) := by decide +kernel
theorem dX3_goToNextOrder_81 : decode cX3_goToNextOrder 81 = .ok (.iload_n 1, 1) := by decide +kernel
theorem dX3_goToNextOrder_82 : decode cX3_goToNextOrder 82 = .ok (.iconst 1, 1) := by decide +kernel
theorem dX3_goToNextOrder_83 : decode cX3_goToNextOrder 83 = .ok (.iadd, 1) := by decide +kernel
theorem dX3_goToNextOrder_84 : decode cX3_goToNextOrder 84 = .ok (.istore_n 3, 1) := by decide +kernel
theorem dX3_goToNextOrder_85 : decode cX3_goToNextOrder 85 = .ok (.aload_n 0, 1) := by decide +kernel
theorem dX3_goToNextOrder_86 : decode cX3_goToNextOrder 86 = .ok (.getfield 65, 3) := by decide +kernel
theorem dX3_goToNextOrder_89 : decode cX3_goToNextOrder 89 = .ok (.iconst 1, 1) := by decide +kernel
theorem dX3_goToNextOrder_90 : decode cX3_goToNextOrder 90 = .ok (.isub, 1) := by decide +kernel
theorem dX3_goToNextOrder_91 : decode cX3_goToNextOrder 91 = .ok (.istore 4, 2) := by decide +kernel
theorem dX3_goToNextOrder_93 : decode cX3_goToNextOrder 93 = .ok (.iload_n 3, 1) := by decide +kernel
theorem dX3_goToNextOrder_94 : decode cX3_goToNextOrder 94 = .ok (.iload 4, 2) := by decide +kernel
theorem dX3_goToNextOrder_96 : decode cX3_goToNextOrder 96 = .ok (.if_icmp .ge 19, 3) := by decide +kernel
theorem dX3_goToNextOrder_99 : decode cX3_goToNextOrder 99 = .ok (.aload_n 0, 1) := by decide +kernel
theorem dX3_goToNextOrder_100 : decode cX3_goToNextOrder 100 = .ok (.iload_n 3, 1) := by decide +kernel
theorem dX3_goToNextOrder_101 : decode cX3_goToNextOrder 101 = .ok (.iload 4, 2) := by decide +kernel
theorem dX3_goToNextOrder_103 : decode cX3_goToNextOrder 103 = .ok (.invokevirtual 119, 3) := by decide +kernel
theorem dX3_goToNextOrder_106 : decode cX3_goToNextOrder 106 = .ok (.iinc 3 1, 3) := by decide +kernel
theorem dX3_goToNextOrder_109 : decode cX3_goToNextOrder 109 = .ok (.iinc 4 (-1), 3) := by decide +kernel
theorem dX3_goToNextOrder_112 : decode cX3_goToNextOrder 112 = .ok (.goto (-19), 3) := by decide +kernel
theorem dX3_goToNextOrder_115 : decode cX3_goToNextOrder 115 = .ok (.iconst 1, 1) := by decide +kernel
theorem dX3_goToNextOrder_116 : decode cX3_goToNextOrder 116 = .ok (.ireturn, 1) := by decide +kernel
set_option maxRecDepth 20000 in
theorem ggX3_leastByLaying_X3_layOn : GoodIn wsX3_leastByLaying wsX3_layOn := goodIn_r _ [5, 1, 6, 7, 8, 9, 4, 10, 11, 12, 13, 14, 15, 16, 17, 18, 19, 20, 21, 22, 23, 24, 25, 26, 27, 28, 29, 30, 31, 32, 33, 2, 3, 34, 35, 36, 37, 38, 39, 40, 41, 42, 43, 44, 45, 46] (by decide +kernel) (by decide +kernel)
set_option maxRecDepth 20000 in
theorem gX3_leastByLaying_X3_layOn : GoodIn wsX3_leastByLaying (va_wsS RX3 123 yX3_layOn wsX3_layOn) := goodIn_app (goodIn_of _ (by decide +kernel)) ggX3_leastByLaying_X3_layOn
theorem dX3_leastByLaying_0 : decode cX3_leastByLaying 0 = .ok (.aload_n 0, 1) := by decide +kernel
theorem dX3_leastByLaying_1 : decode cX3_leastByLaying 1 = .ok (.sipush 1000, 3) := by decide +kernel
theorem dX3_leastByLaying_4 : decode cX3_leastByLaying 4 = .ok (.putfield 99, 3) := by decide +kernel
theorem dX3_leastByLaying_7 : decode cX3_leastByLaying 7 = .ok (.aload_n 0, 1) := by decide +kernel
theorem dX3_leastByLaying_8 : decode cX3_leastByLaying 8 = .ok (.iconst 0, 1) := by decide +kernel
theorem dX3_leastByLaying_9 : decode cX3_leastByLaying 9 = .ok (.invokestatic 123, 3) := by decide +kernel
theorem dX3_leastByLaying_12 : decode cX3_leastByLaying 12 = .ok (.aload_n 0, 1) := by decide +kernel
theorem dX3_leastByLaying_13 : decode cX3_leastByLaying 13 = .ok (.getfield 99, 3) := by decide +kernel
theorem dX3_leastByLaying_16 : decode cX3_leastByLaying 16 = .ok (.ireturn, 1) := by decide +kernel
set_option maxRecDepth 20000 in
theorem ggX3_layOn_X3_crossingsOfFirst : GoodIn wsX3_layOn wsX3_crossingsOfFirst := goodIn_r _ [7, 8, 9, 10, 11, 12, 13, 14, 15, 16, 17, 18, 19, 20, 6, 21, 22, 23, 24, 25, 26, 33, 34, 35, 36, 37, 38, 39, 40, 41, 42, 43, 44, 45] (by decide +kernel) (by decide +kernel)
set_option maxRecDepth 20000 in
theorem gX3_layOn_X3_crossingsOfFirst : GoodIn wsX3_layOn (wsV RX3 102 RX3 yX3_crossingsOfFirst wsX3_crossingsOfFirst) := goodIn_app (goodIn_of _ (by decide +kernel)) ggX3_layOn_X3_crossingsOfFirst
set_option maxRecDepth 20000 in
theorem ggX3_layOn_X3_exchange : GoodIn wsX3_layOn wsX3_exchange := goodIn_r _ [30, 8, 33, 34, 35, 36, 37, 38, 39, 40, 41, 42, 43, 44, 45] (by decide +kernel) (by decide +kernel)
set_option maxRecDepth 20000 in
theorem gX3_layOn_X3_exchange : GoodIn wsX3_layOn (wsV RX3 119 RX3 yX3_exchange wsX3_exchange) := goodIn_app (goodIn_of _ (by decide +kernel)) ggX3_layOn_X3_exchange
set_option maxRecDepth 20000 in
theorem ggX3_layOn_X3_layOn : GoodIn wsX3_layOn wsX3_layOn := goodIn_r _ [0, 1, 2, 3, 4, 5, 6, 7, 8, 9, 10, 11, 12, 13, 14, 15, 16, 17, 18, 19, 20, 21, 22, 23, 24, 25, 26, 27, 28, 29, 30, 31, 32, 33, 34, 35, 36, 37, 38, 39, 40, 41, 42, 43, 44, 45] (by decide +kernel) (by decide +kernel)
set_option maxRecDepth 20000 in
theorem gX3_layOn_X3_layOn : GoodIn wsX3_layOn (va_wsS RX3 123 yX3_layOn wsX3_layOn) := goodIn_app (goodIn_of _ (by decide +kernel)) ggX3_layOn_X3_layOn
theorem dX3_layOn_0 : decode cX3_layOn 0 = .ok (.aload_n 0, 1) := by decide +kernel
theorem dX3_layOn_1 : decode cX3_layOn 1 = .ok (.iload_n 1, 1) := by decide +kernel
theorem dX3_layOn_2 : decode cX3_layOn 2 = .ok (.invokevirtual 102, 3) := by decide +kernel
theorem dX3_layOn_5 : decode cX3_layOn 5 = .ok (.istore_n 2, 1) := by decide +kernel
theorem dX3_layOn_6 : decode cX3_layOn 6 = .ok (.iload_n 2, 1) := by decide +kernel
theorem dX3_layOn_7 : decode cX3_layOn 7 = .ok (.aload_n 0, 1) := by decide +kernel
theorem dX3_layOn_8 : decode cX3_layOn 8 = .ok (.getfield 99, 3) := by decide +kernel
theorem dX3_layOn_11 : decode cX3_layOn 11 = .ok (.if_icmp .lt 4, 3) := by decide +kernel
theorem dX3_layOn_14 : decode cX3_layOn 14 = .ok (.return_, 1) := by decide +kernel
theorem dX3_layOn_15 : decode cX3_layOn 15 = .ok (.iload_n 1, 1) := by decide +kernel
theorem dX3_layOn_16 : decode cX3_layOn 16 = .ok (.aload_n 0, 1) := by decide +kernel
theorem dX3_layOn_17 : decode cX3_layOn 17 = .ok (.getfield 65, 3) := by decide +kernel
theorem dX3_layOn_20 : decode cX3_layOn 20 = .ok (.if_icmp .ge 9, 3) := by decide +kernel
theorem dX3_layOn_23 : decode cX3_layOn 23 = .ok (.iload_n 1, 1) := by decide +kernel
theorem dX3_layOn_24 : decode cX3_layOn 24 = .ok (.bipush 6, 2) := by decide +kernel
theorem dX3_layOn_26 : decode cX3_layOn 26 = .ok (.if_icmp .lt 9, 3) := by decide +kernel
theorem dX3_layOn_29 : decode cX3_layOn 29 = .ok (.aload_n 0, 1) := by decide +kernel
theorem dX3_layOn_30 : decode cX3_layOn 30 = .ok (.iload_n 2, 1) := by decide +kernel
theorem dX3_layOn_31 : decode cX3_layOn 31 = .ok (.putfield 99, 3) := by decide +kernel
theorem dX3_layOn_34 : decode cX3_layOn 34 = .ok (.return_, 1) := by decide +kernel
theorem dX3_layOn_35 : decode cX3_layOn 35 = .ok (.iload_n 1, 1) := by decide +kernel
theorem dX3_layOn_36 : decode cX3_layOn 36 = .ok (.istore_n 3, 1) := by decide +kernel
theorem dX3_layOn_37 : decode cX3_layOn 37 = .ok (.iload_n 3, 1) := by decide +kernel
theorem dX3_layOn_38 : decode cX3_layOn 38 = .ok (.aload_n 0, 1) := by decide +kernel
theorem dX3_layOn_39 : decode cX3_layOn 39 = .ok (.getfield 65, 3) := by decide +kernel
theorem dX3_layOn_42 : decode cX3_layOn 42 = .ok (.if_icmp .ge 28, 3) := by decide +kernel
theorem dX3_layOn_45 : decode cX3_layOn 45 = .ok (.aload_n 0, 1) := by decide +kernel
theorem dX3_layOn_46 : decode cX3_layOn 46 = .ok (.iload_n 1, 1) := by decide +kernel
theorem dX3_layOn_47 : decode cX3_layOn 47 = .ok (.iload_n 3, 1) := by decide +kernel
theorem dX3_layOn_48 : decode cX3_layOn 48 = .ok (.invokevirtual 119, 3) := by decide +kernel
theorem dX3_layOn_51 : decode cX3_layOn 51 = .ok (.aload_n 0, 1) := by decide +kernel
theorem dX3_layOn_52 : decode cX3_layOn 52 = .ok (.iload_n 1, 1) := by decide +kernel
theorem dX3_layOn_53 : decode cX3_layOn 53 = .ok (.iconst 1, 1) := by decide +kernel
theorem dX3_layOn_54 : decode cX3_layOn 54 = .ok (.iadd, 1) := by decide +kernel
theorem dX3_layOn_55 : decode cX3_layOn 55 = .ok (.invokestatic 123, 3) := by decide +kernel
theorem dX3_layOn_58 : decode cX3_layOn 58 = .ok (.aload_n 0, 1) := by decide +kernel
theorem dX3_layOn_59 : decode cX3_layOn 59 = .ok (.iload_n 1, 1) := by decide +kernel
theorem dX3_layOn_60 : decode cX3_layOn 60 = .ok (.iload_n 3, 1) := by decide +kernel
theorem dX3_layOn_61 : decode cX3_layOn 61 = .ok (.invokevirtual 119, 3) := by decide +kernel
theorem dX3_layOn_64 : decode cX3_layOn 64 = .ok (.iinc 3 1, 3) := by decide +kernel
theorem dX3_layOn_67 : decode cX3_layOn 67 = .ok (.goto (-30), 3) := by decide +kernel
theorem dX3_layOn_70 : decode cX3_layOn 70 = .ok (.return_, 1) := by decide +kernel
theorem dX3_exchange_0 : decode cX3_exchange 0 = .ok (.aload_n 0, 1) := by decide +kernel
theorem dX3_exchange_1 : decode cX3_exchange 1 = .ok (.getfield 9, 3) := by decide +kernel
theorem dX3_exchange_4 : decode cX3_exchange 4 = .ok (.iload_n 1, 1) := by decide +kernel
theorem dX3_exchange_5 : decode cX3_exchange 5 = .ok (.iaload, 1) := by decide +kernel
theorem dX3_exchange_6 : decode cX3_exchange 6 = .ok (.istore_n 3, 1) := by decide +kernel
theorem dX3_exchange_7 : decode cX3_exchange 7 = .ok (.aload_n 0, 1) := by decide +kernel
theorem dX3_exchange_8 : decode cX3_exchange 8 = .ok (.getfield 9, 3) := by decide +kernel
theorem dX3_exchange_11 : decode cX3_exchange 11 = .ok (.iload_n 1, 1) := by decide +kernel
theorem dX3_exchange_12 : decode cX3_exchange 12 = .ok (.aload_n 0, 1) := by decide +kernel
theorem dX3_exchange_13 : decode cX3_exchange 13 = .ok (.getfield 9, 3) := by decide +kernel
theorem dX3_exchange_16 : decode cX3_exchange 16 = .ok (.iload_n 2, 1) := by decide +kernel
theorem dX3_exchange_17 : decode cX3_exchange 17 = .ok (.iaload, 1) := by decide +kernel
theorem dX3_exchange_18 : decode cX3_exchange 18 = .ok (.iastore, 1) := by decide +kernel
theorem dX3_exchange_19 : decode cX3_exchange 19 = .ok (.aload_n 0, 1) := by decide +kernel
theorem dX3_exchange_20 : decode cX3_exchange 20 = .ok (.getfield 9, 3) := by decide +kernel
theorem dX3_exchange_23 : decode cX3_exchange 23 = .ok (.iload_n 2, 1) := by decide +kernel
theorem dX3_exchange_24 : decode cX3_exchange 24 = .ok (.iload_n 3, 1) := by decide +kernel
theorem dX3_exchange_25 : decode cX3_exchange 25 = .ok (.iastore, 1) := by decide +kernel
theorem dX3_exchange_26 : decode cX3_exchange 26 = .ok (.return_, 1) := by decide +kernel
set_option maxRecDepth 20000 in
theorem ggX3_crossingsOfFirst_J6_bitCount_0f7a4 : GoodIn wsX3_crossingsOfFirst wsJ6_bitCount_0f7a4 := goodIn_r _ [7, 8, 9, 10] (by decide +kernel) (by decide +kernel)
set_option maxRecDepth 20000 in
theorem gX3_crossingsOfFirst_J6_bitCount_0f7a4 : GoodIn wsX3_crossingsOfFirst (va_wsS RX3 127 yJ6_bitCount_0f7a4 wsJ6_bitCount_0f7a4) := goodIn_app (goodIn_of _ (by decide +kernel)) ggX3_crossingsOfFirst_J6_bitCount_0f7a4
set_option maxRecDepth 20000 in
theorem ggX3_crossingsOfFirst_X3_crossingsFrom : GoodIn wsX3_crossingsOfFirst wsX3_crossingsFrom := goodIn_r _ [15, 16, 17, 18, 19, 3, 20, 21, 22, 23, 24, 25, 26, 27, 28, 29, 30, 31, 32, 33] (by decide +kernel) (by decide +kernel)
set_option maxRecDepth 20000 in
theorem gX3_crossingsOfFirst_X3_crossingsFrom : GoodIn wsX3_crossingsOfFirst (wsV RX3 132 RX3 yX3_crossingsFrom wsX3_crossingsFrom) := goodIn_app (goodIn_of _ (by decide +kernel)) ggX3_crossingsOfFirst_X3_crossingsFrom
theorem dX3_crossingsOfFirst_0 : decode cX3_crossingsOfFirst 0 = .ok (.iconst 0, 1) := by decide +kernel
theorem dX3_crossingsOfFirst_1 : decode cX3_crossingsOfFirst 1 = .ok (.istore_n 2, 1) := by decide +kernel
theorem dX3_crossingsOfFirst_2 : decode cX3_crossingsOfFirst 2 = .ok (.iconst 0, 1) := by decide +kernel
theorem dX3_crossingsOfFirst_3 : decode cX3_crossingsOfFirst 3 = .ok (.istore_n 3, 1) := by decide +kernel
theorem dX3_crossingsOfFirst_4 : decode cX3_crossingsOfFirst 4 = .ok (.iconst 0, 1) := by decide +kernel
theorem dX3_crossingsOfFirst_5 : decode cX3_crossingsOfFirst 5 = .ok (.istore 4, 2) := by decide +kernel
theorem dX3_crossingsOfFirst_7 : decode cX3_crossingsOfFirst 7 = .ok (.iload 4, 2) := by decide +kernel
theorem dX3_crossingsOfFirst_9 : decode cX3_crossingsOfFirst 9 = .ok (.iload_n 1, 1) := by decide +kernel
theorem dX3_crossingsOfFirst_10 : decode cX3_crossingsOfFirst 10 = .ok (.if_icmp .ge 49, 3) := by decide +kernel
theorem dX3_crossingsOfFirst_13 : decode cX3_crossingsOfFirst 13 = .ok (.aload_n 0, 1) := by decide +kernel
theorem dX3_crossingsOfFirst_14 : decode cX3_crossingsOfFirst 14 = .ok (.getfield 9, 3) := by decide +kernel
theorem dX3_crossingsOfFirst_17 : decode cX3_crossingsOfFirst 17 = .ok (.iload 4, 2) := by decide +kernel
theorem dX3_crossingsOfFirst_19 : decode cX3_crossingsOfFirst 19 = .ok (.iaload, 1) := by decide +kernel
theorem dX3_crossingsOfFirst_20 : decode cX3_crossingsOfFirst 20 = .ok (.istore 5, 2) := by decide +kernel
theorem dX3_crossingsOfFirst_22 : decode cX3_crossingsOfFirst 22 = .ok (.iload_n 2, 1) := by decide +kernel
theorem dX3_crossingsOfFirst_23 : decode cX3_crossingsOfFirst 23 = .ok (.iload_n 3, 1) := by decide +kernel
theorem dX3_crossingsOfFirst_24 : decode cX3_crossingsOfFirst 24 = .ok (.aload_n 0, 1) := by decide +kernel
theorem dX3_crossingsOfFirst_25 : decode cX3_crossingsOfFirst 25 = .ok (.getfield 21, 3) := by decide +kernel
theorem dX3_crossingsOfFirst_28 : decode cX3_crossingsOfFirst 28 = .ok (.iload 5, 2) := by decide +kernel
theorem dX3_crossingsOfFirst_30 : decode cX3_crossingsOfFirst 30 = .ok (.iaload, 1) := by decide +kernel
theorem dX3_crossingsOfFirst_31 : decode cX3_crossingsOfFirst 31 = .ok (.iand, 1) := by decide +kernel
theorem dX3_crossingsOfFirst_32 : decode cX3_crossingsOfFirst 32 = .ok (.invokestatic 127, 3) := by decide +kernel
theorem dX3_crossingsOfFirst_35 : decode cX3_crossingsOfFirst 35 = .ok (.iadd, 1) := by decide +kernel
theorem dX3_crossingsOfFirst_36 : decode cX3_crossingsOfFirst 36 = .ok (.istore_n 2, 1) := by decide +kernel
theorem dX3_crossingsOfFirst_37 : decode cX3_crossingsOfFirst 37 = .ok (.iload_n 3, 1) := by decide +kernel
theorem dX3_crossingsOfFirst_38 : decode cX3_crossingsOfFirst 38 = .ok (.iconst 1, 1) := by decide +kernel
theorem dX3_crossingsOfFirst_39 : decode cX3_crossingsOfFirst 39 = .ok (.iload 5, 2) := by decide +kernel
theorem dX3_crossingsOfFirst_41 : decode cX3_crossingsOfFirst 41 = .ok (.ishl, 1) := by decide +kernel
theorem dX3_crossingsOfFirst_42 : decode cX3_crossingsOfFirst 42 = .ok (.ior, 1) := by decide +kernel
theorem dX3_crossingsOfFirst_43 : decode cX3_crossingsOfFirst 43 = .ok (.istore_n 3, 1) := by decide +kernel
theorem dX3_crossingsOfFirst_44 : decode cX3_crossingsOfFirst 44 = .ok (.aload_n 0, 1) := by decide +kernel
theorem dX3_crossingsOfFirst_45 : decode cX3_crossingsOfFirst 45 = .ok (.getfield 18, 3) := by decide +kernel
theorem dX3_crossingsOfFirst_48 : decode cX3_crossingsOfFirst 48 = .ok (.iload 5, 2) := by decide +kernel
theorem dX3_crossingsOfFirst_50 : decode cX3_crossingsOfFirst 50 = .ok (.iload 4, 2) := by decide +kernel
theorem dX3_crossingsOfFirst_52 : decode cX3_crossingsOfFirst 52 = .ok (.iastore, 1) := by decide +kernel
theorem dX3_crossingsOfFirst_53 : decode cX3_crossingsOfFirst 53 = .ok (.iinc 4 1, 3) := by decide +kernel
theorem dX3_crossingsOfFirst_56 : decode cX3_crossingsOfFirst 56 = .ok (.goto (-49), 3) := by decide +kernel
theorem dX3_crossingsOfFirst_59 : decode cX3_crossingsOfFirst 59 = .ok (.iload_n 2, 1) := by decide +kernel
theorem dX3_crossingsOfFirst_60 : decode cX3_crossingsOfFirst 60 = .ok (.aload_n 0, 1) := by decide +kernel
theorem dX3_crossingsOfFirst_61 : decode cX3_crossingsOfFirst 61 = .ok (.iload_n 3, 1) := by decide +kernel
theorem dX3_crossingsOfFirst_62 : decode cX3_crossingsOfFirst 62 = .ok (.invokevirtual 132, 3) := by decide +kernel
theorem dX3_crossingsOfFirst_65 : decode cX3_crossingsOfFirst 65 = .ok (.iadd, 1) := by decide +kernel
theorem dX3_crossingsOfFirst_66 : decode cX3_crossingsOfFirst 66 = .ok (.ireturn, 1) := by decide +kernel
theorem dX3_crossingsFrom_0 : decode cX3_crossingsFrom 0 = .ok (.iconst 0, 1) := by decide +kernel
theorem dX3_crossingsFrom_1 : decode cX3_crossingsFrom 1 = .ok (.istore_n 2, 1) := by decide +kernel
theorem dX3_crossingsFrom_2 : decode cX3_crossingsFrom 2 = .ok (.iconst 0, 1) := by decide +kernel
theorem dX3_crossingsFrom_3 : decode cX3_crossingsFrom 3 = .ok (.istore_n 3, 1) := by decide +kernel
theorem dX3_crossingsFrom_4 : decode cX3_crossingsFrom 4 = .ok (.iload_n 3, 1) := by decide +kernel
theorem dX3_crossingsFrom_5 : decode cX3_crossingsFrom 5 = .ok (.aload_n 0, 1) := by decide +kernel
theorem dX3_crossingsFrom_6 : decode cX3_crossingsFrom 6 = .ok (.getfield 79, 3) := by decide +kernel
theorem dX3_crossingsFrom_9 : decode cX3_crossingsFrom 9 = .ok (.if_icmp .ge 168, 3) := by decide +kernel
theorem dX3_crossingsFrom_12 : decode cX3_crossingsFrom 12 = .ok (.iconst 1, 1) := by decide +kernel
theorem dX3_crossingsFrom_13 : decode cX3_crossingsFrom 13 = .ok (.aload_n 0, 1) := by decide +kernel
theorem dX3_crossingsFrom_14 : decode cX3_crossingsFrom 14 = .ok (.getfield 27, 3) := by decide +kernel
theorem dX3_crossingsFrom_17 : decode cX3_crossingsFrom 17 = .ok (.iload_n 3, 1) := by decide +kernel
theorem dX3_crossingsFrom_18 : decode cX3_crossingsFrom 18 = .ok (.iaload, 1) := by decide +kernel
theorem dX3_crossingsFrom_19 : decode cX3_crossingsFrom 19 = .ok (.ishl, 1) := by decide +kernel
theorem dX3_crossingsFrom_20 : decode cX3_crossingsFrom 20 = .ok (.iconst 1, 1) := by decide +kernel
theorem dX3_crossingsFrom_21 : decode cX3_crossingsFrom 21 = .ok (.aload_n 0, 1) := by decide +kernel
theorem dX3_crossingsFrom_22 : decode cX3_crossingsFrom 22 = .ok (.getfield 30, 3) := by decide +kernel
theorem dX3_crossingsFrom_25 : decode cX3_crossingsFrom 25 = .ok (.iload_n 3, 1) := by decide +kernel
theorem dX3_crossingsFrom_26 : decode cX3_crossingsFrom 26 = .ok (.iaload, 1) := by decide +kernel
theorem dX3_crossingsFrom_27 : decode cX3_crossingsFrom 27 = .ok (.ishl, 1) := by decide +kernel
theorem dX3_crossingsFrom_28 : decode cX3_crossingsFrom 28 = .ok (.ior, 1) := by decide +kernel
theorem dX3_crossingsFrom_29 : decode cX3_crossingsFrom 29 = .ok (.istore 4, 2) := by decide +kernel
theorem dX3_crossingsFrom_31 : decode cX3_crossingsFrom 31 = .ok (.aload_n 0, 1) := by decide +kernel
theorem dX3_crossingsFrom_32 : decode cX3_crossingsFrom 32 = .ok (.getfield 33, 3) := by decide +kernel
theorem dX3_crossingsFrom_35 : decode cX3_crossingsFrom 35 = .ok (.iload_n 3, 1) := by decide +kernel
theorem dX3_crossingsFrom_36 : decode cX3_crossingsFrom 36 = .ok (.iload_n 1, 1) := by decide +kernel
theorem dX3_crossingsFrom_37 : decode cX3_crossingsFrom 37 = .ok (.iload 4, 2) := by decide +kernel
theorem dX3_crossingsFrom_39 : decode cX3_crossingsFrom 39 = .ok (.iand, 1) := by decide +kernel
theorem dX3_crossingsFrom_40 : decode cX3_crossingsFrom 40 = .ok (.iload 4, 2) := by decide +kernel
theorem dX3_crossingsFrom_42 : decode cX3_crossingsFrom 42 = .ok (.if_icmp .ne 29, 3) := by decide +kernel
theorem dX3_crossingsFrom_45 : decode cX3_crossingsFrom 45 = .ok (.aload_n 0, 1) := by decide +kernel
theorem dX3_crossingsFrom_46 : decode cX3_crossingsFrom 46 = .ok (.getfield 18, 3) := by decide +kernel
theorem dX3_crossingsFrom_49 : decode cX3_crossingsFrom 49 = .ok (.aload_n 0, 1) := by decide +kernel
theorem dX3_crossingsFrom_50 : decode cX3_crossingsFrom 50 = .ok (.getfield 27, 3) := by decide +kernel
theorem dX3_crossingsFrom_53 : decode cX3_crossingsFrom 53 = .ok (.iload_n 3, 1) := by decide +kernel
theorem dX3_crossingsFrom_54 : decode cX3_crossingsFrom 54 = .ok (.iaload, 1) := by decide +kernel
theorem dX3_crossingsFrom_55 : decode cX3_crossingsFrom 55 = .ok (.iaload, 1) := by decide +kernel
theorem dX3_crossingsFrom_56 : decode cX3_crossingsFrom 56 = .ok (.aload_n 0, 1) := by decide +kernel
theorem dX3_crossingsFrom_57 : decode cX3_crossingsFrom 57 = .ok (.getfield 18, 3) := by decide +kernel
theorem dX3_crossingsFrom_60 : decode cX3_crossingsFrom 60 = .ok (.aload_n 0, 1) := by decide +kernel
theorem dX3_crossingsFrom_61 : decode cX3_crossingsFrom 61 = .ok (.getfield 30, 3) := by decide +kernel
theorem dX3_crossingsFrom_64 : decode cX3_crossingsFrom 64 = .ok (.iload_n 3, 1) := by decide +kernel
theorem dX3_crossingsFrom_65 : decode cX3_crossingsFrom 65 = .ok (.iaload, 1) := by decide +kernel
theorem dX3_crossingsFrom_66 : decode cX3_crossingsFrom 66 = .ok (.iaload, 1) := by decide +kernel
theorem dX3_crossingsFrom_67 : decode cX3_crossingsFrom 67 = .ok (.iadd, 1) := by decide +kernel
theorem dX3_crossingsFrom_68 : decode cX3_crossingsFrom 68 = .ok (.goto 4, 3) := by decide +kernel
theorem dX3_crossingsFrom_71 : decode cX3_crossingsFrom 71 = .ok (.iconst (-1), 1) := by decide +kernel
theorem dX3_crossingsFrom_72 : decode cX3_crossingsFrom 72 = .ok (.iastore, 1) := by decide +kernel
theorem dX3_crossingsFrom_73 : decode cX3_crossingsFrom 73 = .ok (.iconst 0, 1) := by decide +kernel
theorem dX3_crossingsFrom_74 : decode cX3_crossingsFrom 74 = .ok (.istore 5, 2) := by decide +kernel
theorem dX3_crossingsFrom_76 : decode cX3_crossingsFrom 76 = .ok (.iload 5, 2) := by decide +kernel
theorem dX3_crossingsFrom_78 : decode cX3_crossingsFrom 78 = .ok (.iload_n 3, 1) := by decide +kernel
theorem dX3_crossingsFrom_79 : decode cX3_crossingsFrom 79 = .ok (.if_icmp .ge 92, 3) := by decide +kernel
theorem dX3_crossingsFrom_82 : decode cX3_crossingsFrom 82 = .ok (.aload_n 0, 1) := by decide +kernel
theorem dX3_crossingsFrom_83 : decode cX3_crossingsFrom 83 = .ok (.getfield 33, 3) := by decide +kernel
theorem dX3_crossingsFrom_86 : decode cX3_crossingsFrom 86 = .ok (.iload_n 3, 1) := by decide +kernel
theorem dX3_crossingsFrom_87 : decode cX3_crossingsFrom 87 = .ok (.iaload, 1) := by decide +kernel
theorem dX3_crossingsFrom_88 : decode cX3_crossingsFrom 88 = .ok (.iconst (-1), 1) := by decide +kernel
theorem dX3_crossingsFrom_89 : decode cX3_crossingsFrom 89 = .ok (.if_icmp .eq 82, 3) := by decide +kernel
theorem dX3_crossingsFrom_92 : decode cX3_crossingsFrom 92 = .ok (.aload_n 0, 1) := by decide +kernel
theorem dX3_crossingsFrom_93 : decode cX3_crossingsFrom 93 = .ok (.getfield 33, 3) := by decide +kernel
theorem dX3_crossingsFrom_96 : decode cX3_crossingsFrom 96 = .ok (.iload 5, 2) := by decide +kernel
theorem dX3_crossingsFrom_98 : decode cX3_crossingsFrom 98 = .ok (.iaload, 1) := by decide +kernel
theorem dX3_crossingsFrom_99 : decode cX3_crossingsFrom 99 = .ok (.iconst (-1), 1) := by decide +kernel
theorem dX3_crossingsFrom_100 : decode cX3_crossingsFrom 100 = .ok (.if_icmp .ne 6, 3) := by decide +kernel
theorem dX3_crossingsFrom_103 : decode cX3_crossingsFrom 103 = .ok (.goto 62, 3) := by decide +kernel
theorem dX3_crossingsFrom_106 : decode cX3_crossingsFrom 106 = .ok (.aload_n 0, 1) := by decide +kernel
theorem dX3_crossingsFrom_107 : decode cX3_crossingsFrom 107 = .ok (.getfield 33, 3) := by decide +kernel
theorem dX3_crossingsFrom_110 : decode cX3_crossingsFrom 110 = .ok (.iload 5, 2) := by decide +kernel
theorem dX3_crossingsFrom_112 : decode cX3_crossingsFrom 112 = .ok (.iaload, 1) := by decide +kernel
theorem dX3_crossingsFrom_113 : decode cX3_crossingsFrom 113 = .ok (.aload_n 0, 1) := by decide +kernel
theorem dX3_crossingsFrom_114 : decode cX3_crossingsFrom 114 = .ok (.getfield 33, 3) := by decide +kernel
theorem dX3_crossingsFrom_117 : decode cX3_crossingsFrom 117 = .ok (.iload_n 3, 1) := by decide +kernel
theorem dX3_crossingsFrom_118 : decode cX3_crossingsFrom 118 = .ok (.iaload, 1) := by decide +kernel
theorem dX3_crossingsFrom_119 : decode cX3_crossingsFrom 119 = .ok (.if_icmp .ge 18, 3) := by decide +kernel
theorem dX3_crossingsFrom_122 : decode cX3_crossingsFrom 122 = .ok (.iload_n 2, 1) := by decide +kernel
theorem dX3_crossingsFrom_123 : decode cX3_crossingsFrom 123 = .ok (.aload_n 0, 1) := by decide +kernel
theorem dX3_crossingsFrom_124 : decode cX3_crossingsFrom 124 = .ok (.getfield 41, 3) := by decide +kernel
theorem dX3_crossingsFrom_127 : decode cX3_crossingsFrom 127 = .ok (.iload 5, 2) := by decide +kernel
theorem dX3_crossingsFrom_129 : decode cX3_crossingsFrom 129 = .ok (.aaload, 1) := by decide +kernel
theorem dX3_crossingsFrom_130 : decode cX3_crossingsFrom 130 = .ok (.iload_n 3, 1) := by decide +kernel
theorem dX3_crossingsFrom_131 : decode cX3_crossingsFrom 131 = .ok (.iaload, 1) := by decide +kernel
theorem dX3_crossingsFrom_132 : decode cX3_crossingsFrom 132 = .ok (.iadd, 1) := by decide +kernel
theorem dX3_crossingsFrom_133 : decode cX3_crossingsFrom 133 = .ok (.istore_n 2, 1) := by decide +kernel
theorem dX3_crossingsFrom_134 : decode cX3_crossingsFrom 134 = .ok (.goto 31, 3) := by decide +kernel
theorem dX3_crossingsFrom_137 : decode cX3_crossingsFrom 137 = .ok (.aload_n 0, 1) := by decide +kernel
theorem dX3_crossingsFrom_138 : decode cX3_crossingsFrom 138 = .ok (.getfield 33, 3) := by decide +kernel
theorem dX3_crossingsFrom_141 : decode cX3_crossingsFrom 141 = .ok (.iload_n 3, 1) := by decide +kernel
theorem dX3_crossingsFrom_142 : decode cX3_crossingsFrom 142 = .ok (.iaload, 1) := by decide +kernel
theorem dX3_crossingsFrom_143 : decode cX3_crossingsFrom 143 = .ok (.aload_n 0, 1) := by decide +kernel
theorem dX3_crossingsFrom_144 : decode cX3_crossingsFrom 144 = .ok (.getfield 33, 3) := by decide +kernel
theorem dX3_crossingsFrom_147 : decode cX3_crossingsFrom 147 = .ok (.iload 5, 2) := by decide +kernel
theorem dX3_crossingsFrom_149 : decode cX3_crossingsFrom 149 = .ok (.iaload, 1) := by decide +kernel
theorem dX3_crossingsFrom_150 : decode cX3_crossingsFrom 150 = .ok (.if_icmp .ge 15, 3) := by decide +kernel
theorem dX3_crossingsFrom_153 : decode cX3_crossingsFrom 153 = .ok (.iload_n 2, 1) := by decide +kernel
theorem dX3_crossingsFrom_154 : decode cX3_crossingsFrom 154 = .ok (.aload_n 0, 1) := by decide +kernel
theorem dX3_crossingsFrom_155 : decode cX3_crossingsFrom 155 = .ok (.getfield 41, 3) := by decide +kernel
theorem dX3_crossingsFrom_158 : decode cX3_crossingsFrom 158 = .ok (.iload_n 3, 1) := by decide +kernel
theorem dX3_crossingsFrom_159 : decode cX3_crossingsFrom 159 = .ok (.aaload, 1) := by decide +kernel
theorem dX3_crossingsFrom_160 : decode cX3_crossingsFrom 160 = .ok (.iload 5, 2) := by decide +kernel
theorem dX3_crossingsFrom_162 : decode cX3_crossingsFrom 162 = .ok (.iaload, 1) := by decide +kernel
theorem dX3_crossingsFrom_163 : decode cX3_crossingsFrom 163 = .ok (.iadd, 1) := by decide +kernel
theorem dX3_crossingsFrom_164 : decode cX3_crossingsFrom 164 = .ok (.istore_n 2, 1) := by decide +kernel
theorem dX3_crossingsFrom_165 : decode cX3_crossingsFrom 165 = .ok (.iinc 5 1, 3) := by decide +kernel
theorem dX3_crossingsFrom_168 : decode cX3_crossingsFrom 168 = .ok (.goto (-92), 3) := by decide +kernel
theorem dX3_crossingsFrom_171 : decode cX3_crossingsFrom 171 = .ok (.iinc 3 1, 3) := by decide +kernel
theorem dX3_crossingsFrom_174 : decode cX3_crossingsFrom 174 = .ok (.goto (-170), 3) := by decide +kernel
theorem dX3_crossingsFrom_177 : decode cX3_crossingsFrom 177 = .ok (.iload_n 2, 1) := by decide +kernel
theorem dX3_crossingsFrom_178 : decode cX3_crossingsFrom 178 = .ok (.ireturn, 1) := by decide +kernel
set_option maxRecDepth 20000 in
theorem ggX4_init_X5_init : GoodIn wsX4_init wsX5_init := goodIn_r _ [9, 10, 2, 3, 11, 12, 13, 14, 15, 16, 17, 18, 22, 23, 24, 25, 26, 27, 28, 29, 30, 31] (by decide +kernel) (by decide +kernel)
set_option maxRecDepth 20000 in
theorem gX4_init_X5_init_n17 : GoodIn wsX4_init (wsX5_init) := ggX4_init_X5_init
theorem dX4_init_0 : decode cX4_init 0 = .ok (.aload_n 0, 1) := by decide +kernel
theorem dX4_init_1 : decode cX4_init 1 = .ok (.invokespecial 3, 3) := by decide +kernel
theorem dX4_init_4 : decode cX4_init 4 = .ok (.aload_n 0, 1) := by decide +kernel
theorem dX4_init_5 : decode cX4_init 5 = .ok (.bipush 6, 2) := by decide +kernel
theorem dX4_init_7 : decode cX4_init 7 = .ok (.anewarray 9, 3) := by decide +kernel
theorem dX4_init_10 : decode cX4_init 10 = .ok (.putfield 11, 3) := by decide +kernel
theorem dX4_init_13 : decode cX4_init 13 = .ok (.iconst 0, 1) := by decide +kernel
theorem dX4_init_14 : decode cX4_init 14 = .ok (.istore_n 1, 1) := by decide +kernel
theorem dX4_init_15 : decode cX4_init 15 = .ok (.iload_n 1, 1) := by decide +kernel
theorem dX4_init_16 : decode cX4_init 16 = .ok (.bipush 6, 2) := by decide +kernel
theorem dX4_init_18 : decode cX4_init 18 = .ok (.if_icmp .ge 22, 3) := by decide +kernel
theorem dX4_init_21 : decode cX4_init 21 = .ok (.aload_n 0, 1) := by decide +kernel
theorem dX4_init_22 : decode cX4_init 22 = .ok (.getfield 11, 3) := by decide +kernel
theorem dX4_init_25 : decode cX4_init 25 = .ok (.iload_n 1, 1) := by decide +kernel
theorem dX4_init_26 : decode cX4_init 26 = .ok (.new 9, 3) := by decide +kernel
theorem dX4_init_29 : decode cX4_init 29 = .ok (.dup, 1) := by decide +kernel
theorem dX4_init_30 : decode cX4_init 30 = .ok (.invokespecial 17, 3) := by decide +kernel
theorem dX4_init_33 : decode cX4_init 33 = .ok (.aastore, 1) := by decide +kernel
theorem dX4_init_34 : decode cX4_init 34 = .ok (.iinc 1 1, 3) := by decide +kernel
theorem dX4_init_37 : decode cX4_init 37 = .ok (.goto (-22), 3) := by decide +kernel
theorem dX4_init_40 : decode cX4_init 40 = .ok (.return_, 1) := by decide +kernel
theorem dX4_size_0 : decode cX4_size 0 = .ok (.aload_n 0, 1) := by decide +kernel
theorem dX4_size_1 : decode cX4_size 1 = .ok (.getfield 18, 3) := by decide +kernel
theorem dX4_size_4 : decode cX4_size 4 = .ok (.ireturn, 1) := by decide +kernel
set_option maxRecDepth 20000 in
theorem ggX4_push_X5_copyFrom : GoodIn wsX4_push wsX5_copyFrom := goodIn_r _ [8, 9, 10, 11, 12, 13, 14, 15, 16, 17, 18, 19, 20, 21, 22, 26, 27, 28, 29, 30, 31, 32, 33, 34, 35] (by decide +kernel) (by decide +kernel)
set_option maxRecDepth 20000 in
theorem gX4_push_X5_copyFrom : GoodIn wsX4_push (wsV RX4 25 RX5 yX5_copyFrom wsX5_copyFrom) := goodIn_app (goodIn_of _ (by decide +kernel)) ggX4_push_X5_copyFrom
theorem dX4_push_0 : decode cX4_push 0 = .ok (.aload_n 0, 1) := by decide +kernel
theorem dX4_push_1 : decode cX4_push 1 = .ok (.getfield 11, 3) := by decide +kernel
theorem dX4_push_4 : decode cX4_push 4 = .ok (.aload_n 0, 1) := by decide +kernel
theorem dX4_push_5 : decode cX4_push 5 = .ok (.getfield 22, 3) := by decide +kernel
theorem dX4_push_8 : decode cX4_push 8 = .ok (.aload_n 0, 1) := by decide +kernel
theorem dX4_push_9 : decode cX4_push 9 = .ok (.getfield 18, 3) := by decide +kernel
theorem dX4_push_12 : decode cX4_push 12 = .ok (.iadd, 1) := by decide +kernel
theorem dX4_push_13 : decode cX4_push 13 = .ok (.bipush 6, 2) := by decide +kernel
theorem dX4_push_15 : decode cX4_push 15 = .ok (.irem, 1) := by decide +kernel
theorem dX4_push_16 : decode cX4_push 16 = .ok (.aaload, 1) := by decide +kernel
theorem dX4_push_17 : decode cX4_push 17 = .ok (.aload_n 1, 1) := by decide +kernel
theorem dX4_push_18 : decode cX4_push 18 = .ok (.invokevirtual 25, 3) := by decide +kernel
theorem dX4_push_21 : decode cX4_push 21 = .ok (.aload_n 0, 1) := by decide +kernel
theorem dX4_push_22 : decode cX4_push 22 = .ok (.getfield 18, 3) := by decide +kernel
theorem dX4_push_25 : decode cX4_push 25 = .ok (.bipush 6, 2) := by decide +kernel
theorem dX4_push_27 : decode cX4_push 27 = .ok (.if_icmp .ge 16, 3) := by decide +kernel
theorem dX4_push_30 : decode cX4_push 30 = .ok (.aload_n 0, 1) := by decide +kernel
theorem dX4_push_31 : decode cX4_push 31 = .ok (.dup, 1) := by decide +kernel
theorem dX4_push_32 : decode cX4_push 32 = .ok (.getfield 18, 3) := by decide +kernel
theorem dX4_push_35 : decode cX4_push 35 = .ok (.iconst 1, 1) := by decide +kernel
theorem dX4_push_36 : decode cX4_push 36 = .ok (.iadd, 1) := by decide +kernel
theorem dX4_push_37 : decode cX4_push 37 = .ok (.putfield 18, 3) := by decide +kernel
theorem dX4_push_40 : decode cX4_push 40 = .ok (.goto 16, 3) := by decide +kernel
theorem dX4_push_43 : decode cX4_push 43 = .ok (.aload_n 0, 1) := by decide +kernel
theorem dX4_push_44 : decode cX4_push 44 = .ok (.aload_n 0, 1) := by decide +kernel
theorem dX4_push_45 : decode cX4_push 45 = .ok (.getfield 22, 3) := by decide +kernel
theorem dX4_push_48 : decode cX4_push 48 = .ok (.iconst 1, 1) := by decide +kernel
theorem dX4_push_49 : decode cX4_push 49 = .ok (.iadd, 1) := by decide +kernel
theorem dX4_push_50 : decode cX4_push 50 = .ok (.bipush 6, 2) := by decide +kernel
theorem dX4_push_52 : decode cX4_push 52 = .ok (.irem, 1) := by decide +kernel
theorem dX4_push_53 : decode cX4_push 53 = .ok (.putfield 22, 3) := by decide +kernel
theorem dX4_push_56 : decode cX4_push 56 = .ok (.return_, 1) := by decide +kernel
theorem dX5_init_0 : decode cX5_init 0 = .ok (.aload_n 0, 1) := by decide +kernel
theorem dX5_init_1 : decode cX5_init 1 = .ok (.invokespecial 3, 3) := by decide +kernel
theorem dX5_init_4 : decode cX5_init 4 = .ok (.aload_n 0, 1) := by decide +kernel
theorem dX5_init_5 : decode cX5_init 5 = .ok (.bipush 20, 2) := by decide +kernel
theorem dX5_init_7 : decode cX5_init 7 = .ok (.newarray .int, 2) := by decide +kernel
theorem dX5_init_9 : decode cX5_init 9 = .ok (.putfield 9, 3) := by decide +kernel
theorem dX5_init_12 : decode cX5_init 12 = .ok (.aload_n 0, 1) := by decide +kernel
theorem dX5_init_13 : decode cX5_init 13 = .ok (.bipush 20, 2) := by decide +kernel
theorem dX5_init_15 : decode cX5_init 15 = .ok (.newarray .int, 2) := by decide +kernel
theorem dX5_init_17 : decode cX5_init 17 = .ok (.putfield 15, 3) := by decide +kernel
theorem dX5_init_20 : decode cX5_init 20 = .ok (.aload_n 0, 1) := by decide +kernel
theorem dX5_init_21 : decode cX5_init 21 = .ok (.bipush 20, 2) := by decide +kernel
theorem dX5_init_23 : decode cX5_init 23 = .ok (.newarray .int, 2) := by decide +kernel
theorem dX5_init_25 : decode cX5_init 25 = .ok (.putfield 18, 3) := by decide +kernel
theorem dX5_init_28 : decode cX5_init 28 = .ok (.aload_n 0, 1) := by decide +kernel
theorem dX5_init_29 : decode cX5_init 29 = .ok (.bipush 10, 2) := by decide +kernel
theorem dX5_init_31 : decode cX5_init 31 = .ok (.newarray .int, 2) := by decide +kernel
theorem dX5_init_33 : decode cX5_init 33 = .ok (.putfield 21, 3) := by decide +kernel
theorem dX5_init_36 : decode cX5_init 36 = .ok (.aload_n 0, 1) := by decide +kernel
theorem dX5_init_37 : decode cX5_init 37 = .ok (.bipush 10, 2) := by decide +kernel
theorem dX5_init_39 : decode cX5_init 39 = .ok (.newarray .int, 2) := by decide +kernel
theorem dX5_init_41 : decode cX5_init 41 = .ok (.putfield 24, 3) := by decide +kernel
theorem dX5_init_44 : decode cX5_init 44 = .ok (.aload_n 0, 1) := by decide +kernel
theorem dX5_init_45 : decode cX5_init 45 = .ok (.bipush 24, 2) := by decide +kernel
theorem dX5_init_47 : decode cX5_init 47 = .ok (.newarray .int, 2) := by decide +kernel
theorem dX5_init_49 : decode cX5_init 49 = .ok (.putfield 27, 3) := by decide +kernel
theorem dX5_init_52 : decode cX5_init 52 = .ok (.aload_n 0, 1) := by decide +kernel
theorem dX5_init_53 : decode cX5_init 53 = .ok (.iconst 4, 1) := by decide +kernel
theorem dX5_init_54 : decode cX5_init 54 = .ok (.newarray .int, 2) := by decide +kernel
theorem dX5_init_56 : decode cX5_init 56 = .ok (.putfield 30, 3) := by decide +kernel
theorem dX5_init_59 : decode cX5_init 59 = .ok (.return_, 1) := by decide +kernel
theorem dX5_copyFrom_0 : decode cX5_copyFrom 0 = .ok (.aload_n 1, 1) := by decide +kernel
theorem dX5_copyFrom_1 : decode cX5_copyFrom 1 = .ok (.getfield 9, 3) := by decide +kernel
theorem dX5_copyFrom_4 : decode cX5_copyFrom 4 = .ok (.iconst 0, 1) := by decide +kernel
theorem dX5_copyFrom_5 : decode cX5_copyFrom 5 = .ok (.aload_n 0, 1) := by decide +kernel
theorem dX5_copyFrom_6 : decode cX5_copyFrom 6 = .ok (.getfield 9, 3) := by decide +kernel
theorem dX5_copyFrom_9 : decode cX5_copyFrom 9 = .ok (.iconst 0, 1) := by decide +kernel
theorem dX5_copyFrom_10 : decode cX5_copyFrom 10 = .ok (.bipush 20, 2) := by decide +kernel
theorem dX5_copyFrom_12 : decode cX5_copyFrom 12 = .ok (.invokestatic 33, 3) := by decide +kernel
theorem dX5_copyFrom_15 : decode cX5_copyFrom 15 = .ok (.aload_n 1, 1) := by decide +kernel
theorem dX5_copyFrom_16 : decode cX5_copyFrom 16 = .ok (.getfield 15, 3) := by decide +kernel
theorem dX5_copyFrom_19 : decode cX5_copyFrom 19 = .ok (.iconst 0, 1) := by decide +kernel
theorem dX5_copyFrom_20 : decode cX5_copyFrom 20 = .ok (.aload_n 0, 1) := by decide +kernel
theorem dX5_copyFrom_21 : decode cX5_copyFrom 21 = .ok (.getfield 15, 3) := by decide +kernel
theorem dX5_copyFrom_24 : decode cX5_copyFrom 24 = .ok (.iconst 0, 1) := by decide +kernel
theorem dX5_copyFrom_25 : decode cX5_copyFrom 25 = .ok (.bipush 20, 2) := by decide +kernel
theorem dX5_copyFrom_27 : decode cX5_copyFrom 27 = .ok (.invokestatic 33, 3) := by decide +kernel
theorem dX5_copyFrom_30 : decode cX5_copyFrom 30 = .ok (.aload_n 1, 1) := by decide +kernel
theorem dX5_copyFrom_31 : decode cX5_copyFrom 31 = .ok (.getfield 18, 3) := by decide +kernel
theorem dX5_copyFrom_34 : decode cX5_copyFrom 34 = .ok (.iconst 0, 1) := by decide +kernel
theorem dX5_copyFrom_35 : decode cX5_copyFrom 35 = .ok (.aload_n 0, 1) := by decide +kernel
theorem dX5_copyFrom_36 : decode cX5_copyFrom 36 = .ok (.getfield 18, 3) := by decide +kernel
theorem dX5_copyFrom_39 : decode cX5_copyFrom 39 = .ok (.iconst 0, 1) := by decide +kernel
theorem dX5_copyFrom_40 : decode cX5_copyFrom 40 = .ok (.bipush 20, 2) := by decide +kernel
theorem dX5_copyFrom_42 : decode cX5_copyFrom 42 = .ok (.invokestatic 33, 3) := by decide +kernel
theorem dX5_copyFrom_45 : decode cX5_copyFrom 45 = .ok (.aload_n 1, 1) := by decide +kernel
theorem dX5_copyFrom_46 : decode cX5_copyFrom 46 = .ok (.getfield 21, 3) := by decide +kernel
theorem dX5_copyFrom_49 : decode cX5_copyFrom 49 = .ok (.iconst 0, 1) := by decide +kernel
theorem dX5_copyFrom_50 : decode cX5_copyFrom 50 = .ok (.aload_n 0, 1) := by decide +kernel
theorem dX5_copyFrom_51 : decode cX5_copyFrom 51 = .ok (.getfield 21, 3) := by decide +kernel
theorem dX5_copyFrom_54 : decode cX5_copyFrom 54 = .ok (.iconst 0, 1) := by decide +kernel
theorem dX5_copyFrom_55 : decode cX5_copyFrom 55 = .ok (.bipush 10, 2) := by decide +kernel
theorem dX5_copyFrom_57 : decode cX5_copyFrom 57 = .ok (.invokestatic 33, 3) := by decide +kernel
theorem dX5_copyFrom_60 : decode cX5_copyFrom 60 = .ok (.aload_n 1, 1) := by decide +kernel
theorem dX5_copyFrom_61 : decode cX5_copyFrom 61 = .ok (.getfield 24, 3) := by decide +kernel
theorem dX5_copyFrom_64 : decode cX5_copyFrom 64 = .ok (.iconst 0, 1) := by decide +kernel
theorem dX5_copyFrom_65 : decode cX5_copyFrom 65 = .ok (.aload_n 0, 1) := by decide +kernel
theorem dX5_copyFrom_66 : decode cX5_copyFrom 66 = .ok (.getfield 24, 3) := by decide +kernel
theorem dX5_copyFrom_69 : decode cX5_copyFrom 69 = .ok (.iconst 0, 1) := by decide +kernel
theorem dX5_copyFrom_70 : decode cX5_copyFrom 70 = .ok (.bipush 10, 2) := by decide +kernel
theorem dX5_copyFrom_72 : decode cX5_copyFrom 72 = .ok (.invokestatic 33, 3) := by decide +kernel
theorem dX5_copyFrom_75 : decode cX5_copyFrom 75 = .ok (.aload_n 1, 1) := by decide +kernel
theorem dX5_copyFrom_76 : decode cX5_copyFrom 76 = .ok (.getfield 27, 3) := by decide +kernel
theorem dX5_copyFrom_79 : decode cX5_copyFrom 79 = .ok (.iconst 0, 1) := by decide +kernel
theorem dX5_copyFrom_80 : decode cX5_copyFrom 80 = .ok (.aload_n 0, 1) := by decide +kernel
theorem dX5_copyFrom_81 : decode cX5_copyFrom 81 = .ok (.getfield 27, 3) := by decide +kernel
theorem dX5_copyFrom_84 : decode cX5_copyFrom 84 = .ok (.iconst 0, 1) := by decide +kernel
theorem dX5_copyFrom_85 : decode cX5_copyFrom 85 = .ok (.bipush 24, 2) := by decide +kernel
theorem dX5_copyFrom_87 : decode cX5_copyFrom 87 = .ok (.invokestatic 33, 3) := by decide +kernel
theorem dX5_copyFrom_90 : decode cX5_copyFrom 90 = .ok (.aload_n 1, 1) := by decide +kernel
theorem dX5_copyFrom_91 : decode cX5_copyFrom 91 = .ok (.getfield 30, 3) := by decide +kernel
theorem dX5_copyFrom_94 : decode cX5_copyFrom 94 = .ok (.iconst 0, 1) := by decide +kernel
theorem dX5_copyFrom_95 : decode cX5_copyFrom 95 = .ok (.aload_n 0, 1) := by decide +kernel
theorem dX5_copyFrom_96 : decode cX5_copyFrom 96 = .ok (.getfield 30, 3) := by decide +kernel
theorem dX5_copyFrom_99 : decode cX5_copyFrom 99 = .ok (.iconst 0, 1) := by decide +kernel
theorem dX5_copyFrom_100 : decode cX5_copyFrom 100 = .ok (.iconst 4, 1) := by decide +kernel
theorem dX5_copyFrom_101 : decode cX5_copyFrom 101 = .ok (.invokestatic 33, 3) := by decide +kernel
theorem dX5_copyFrom_104 : decode cX5_copyFrom 104 = .ok (.aload_n 0, 1) := by decide +kernel
theorem dX5_copyFrom_105 : decode cX5_copyFrom 105 = .ok (.aload_n 1, 1) := by decide +kernel
theorem dX5_copyFrom_106 : decode cX5_copyFrom 106 = .ok (.getfield 39, 3) := by decide +kernel
theorem dX5_copyFrom_109 : decode cX5_copyFrom 109 = .ok (.putfield 39, 3) := by decide +kernel
theorem dX5_copyFrom_112 : decode cX5_copyFrom 112 = .ok (.aload_n 0, 1) := by decide +kernel
theorem dX5_copyFrom_113 : decode cX5_copyFrom 113 = .ok (.aload_n 1, 1) := by decide +kernel
theorem dX5_copyFrom_114 : decode cX5_copyFrom 114 = .ok (.getfield 43, 3) := by decide +kernel
theorem dX5_copyFrom_117 : decode cX5_copyFrom 117 = .ok (.putfield 43, 3) := by decide +kernel
theorem dX5_copyFrom_120 : decode cX5_copyFrom 120 = .ok (.aload_n 0, 1) := by decide +kernel
theorem dX5_copyFrom_121 : decode cX5_copyFrom 121 = .ok (.aload_n 1, 1) := by decide +kernel
theorem dX5_copyFrom_122 : decode cX5_copyFrom 122 = .ok (.getfield 46, 3) := by decide +kernel
theorem dX5_copyFrom_125 : decode cX5_copyFrom 125 = .ok (.putfield 46, 3) := by decide +kernel
theorem dX5_copyFrom_128 : decode cX5_copyFrom 128 = .ok (.return_, 1) := by decide +kernel
theorem dX5_people_0 : decode cX5_people 0 = .ok (.aload_n 0, 1) := by decide +kernel
theorem dX5_people_1 : decode cX5_people 1 = .ok (.getfield 39, 3) := by decide +kernel
theorem dX5_people_4 : decode cX5_people 4 = .ok (.ireturn, 1) := by decide +kernel
theorem dX5_couples_0 : decode cX5_couples 0 = .ok (.aload_n 0, 1) := by decide +kernel
theorem dX5_couples_1 : decode cX5_couples 1 = .ok (.getfield 43, 3) := by decide +kernel
theorem dX5_couples_4 : decode cX5_couples 4 = .ok (.ireturn, 1) := by decide +kernel
theorem dX5_refused_0 : decode cX5_refused 0 = .ok (.aload_n 0, 1) := by decide +kernel
theorem dX5_refused_1 : decode cX5_refused 1 = .ok (.getfield 46, 3) := by decide +kernel
theorem dX5_refused_4 : decode cX5_refused 4 = .ok (.ireturn, 1) := by decide +kernel
theorem dX5_isPerson_0 : decode cX5_isPerson 0 = .ok (.iload_n 1, 1) := by decide +kernel
theorem dX5_isPerson_1 : decode cX5_isPerson 1 = .ok (.ifCond .lt 15, 3) := by decide +kernel
theorem dX5_isPerson_4 : decode cX5_isPerson 4 = .ok (.iload_n 1, 1) := by decide +kernel
theorem dX5_isPerson_5 : decode cX5_isPerson 5 = .ok (.aload_n 0, 1) := by decide +kernel
theorem dX5_isPerson_6 : decode cX5_isPerson 6 = .ok (.getfield 39, 3) := by decide +kernel
theorem dX5_isPerson_9 : decode cX5_isPerson 9 = .ok (.if_icmp .ge 7, 3) := by decide +kernel
theorem dX5_isPerson_12 : decode cX5_isPerson 12 = .ok (.iconst 1, 1) := by decide +kernel
theorem dX5_isPerson_13 : decode cX5_isPerson 13 = .ok (.goto 4, 3) := by decide +kernel
theorem dX5_isPerson_16 : decode cX5_isPerson 16 = .ok (.iconst 0, 1) := by decide +kernel
theorem dX5_isPerson_17 : decode cX5_isPerson 17 = .ok (.ireturn, 1) := by decide +kernel
theorem dX5_isCouple_0 : decode cX5_isCouple 0 = .ok (.iload_n 1, 1) := by decide +kernel
theorem dX5_isCouple_1 : decode cX5_isCouple 1 = .ok (.ifCond .lt 15, 3) := by decide +kernel
theorem dX5_isCouple_4 : decode cX5_isCouple 4 = .ok (.iload_n 1, 1) := by decide +kernel
theorem dX5_isCouple_5 : decode cX5_isCouple 5 = .ok (.aload_n 0, 1) := by decide +kernel
theorem dX5_isCouple_6 : decode cX5_isCouple 6 = .ok (.getfield 43, 3) := by decide +kernel
theorem dX5_isCouple_9 : decode cX5_isCouple 9 = .ok (.if_icmp .ge 7, 3) := by decide +kernel
theorem dX5_isCouple_12 : decode cX5_isCouple 12 = .ok (.iconst 1, 1) := by decide +kernel
theorem dX5_isCouple_13 : decode cX5_isCouple 13 = .ok (.goto 4, 3) := by decide +kernel
theorem dX5_isCouple_16 : decode cX5_isCouple 16 = .ok (.iconst 0, 1) := by decide +kernel
theorem dX5_isCouple_17 : decode cX5_isCouple 17 = .ok (.ireturn, 1) := by decide +kernel
theorem dX5_sizeOf_0 : decode cX5_sizeOf 0 = .ok (.iload_n 1, 1) := by decide +kernel
theorem dX5_sizeOf_1 : decode cX5_sizeOf 1 = .ok (.ifCond .lt 17, 3) := by decide +kernel
theorem dX5_sizeOf_4 : decode cX5_sizeOf 4 = .ok (.iload_n 1, 1) := by decide +kernel
theorem dX5_sizeOf_5 : decode cX5_sizeOf 5 = .ok (.iconst 4, 1) := by decide +kernel
theorem dX5_sizeOf_6 : decode cX5_sizeOf 6 = .ok (.if_icmp .ge 12, 3) := by decide +kernel
theorem dX5_sizeOf_9 : decode cX5_sizeOf 9 = .ok (.aload_n 0, 1) := by decide +kernel
theorem dX5_sizeOf_10 : decode cX5_sizeOf 10 = .ok (.getfield 30, 3) := by decide +kernel
theorem dX5_sizeOf_13 : decode cX5_sizeOf 13 = .ok (.iload_n 1, 1) := by decide +kernel
theorem dX5_sizeOf_14 : decode cX5_sizeOf 14 = .ok (.iaload, 1) := by decide +kernel
theorem dX5_sizeOf_15 : decode cX5_sizeOf 15 = .ok (.goto 4, 3) := by decide +kernel
theorem dX5_sizeOf_18 : decode cX5_sizeOf 18 = .ok (.iconst 0, 1) := by decide +kernel
theorem dX5_sizeOf_19 : decode cX5_sizeOf 19 = .ok (.ireturn, 1) := by decide +kernel
set_option maxRecDepth 20000 in
theorem ggX5_rowOf_X5_isPerson : GoodIn wsX5_rowOf wsX5_isPerson := goodIn_r _ [6, 7, 8, 9, 10, 11, 12, 13, 14, 15, 16, 17] (by decide +kernel) (by decide +kernel)
set_option maxRecDepth 20000 in
theorem gX5_rowOf_X5_isPerson : GoodIn wsX5_rowOf (wsV RX5 49 RX5 yX5_isPerson wsX5_isPerson) := goodIn_app (goodIn_of _ (by decide +kernel)) ggX5_rowOf_X5_isPerson
theorem dX5_rowOf_0 : decode cX5_rowOf 0 = .ok (.aload_n 0, 1) := by decide +kernel
theorem dX5_rowOf_1 : decode cX5_rowOf 1 = .ok (.iload_n 1, 1) := by decide +kernel
theorem dX5_rowOf_2 : decode cX5_rowOf 2 = .ok (.invokevirtual 49, 3) := by decide +kernel
theorem dX5_rowOf_5 : decode cX5_rowOf 5 = .ok (.ifCond .eq 12, 3) := by decide +kernel
theorem dX5_rowOf_8 : decode cX5_rowOf 8 = .ok (.aload_n 0, 1) := by decide +kernel
theorem dX5_rowOf_9 : decode cX5_rowOf 9 = .ok (.getfield 9, 3) := by decide +kernel
theorem dX5_rowOf_12 : decode cX5_rowOf 12 = .ok (.iload_n 1, 1) := by decide +kernel
theorem dX5_rowOf_13 : decode cX5_rowOf 13 = .ok (.iaload, 1) := by decide +kernel
theorem dX5_rowOf_14 : decode cX5_rowOf 14 = .ok (.goto 4, 3) := by decide +kernel
theorem dX5_rowOf_17 : decode cX5_rowOf 17 = .ok (.iconst (-1), 1) := by decide +kernel
theorem dX5_rowOf_18 : decode cX5_rowOf 18 = .ok (.ireturn, 1) := by decide +kernel
set_option maxRecDepth 20000 in
theorem ggX5_placeOf_X5_isPerson : GoodIn wsX5_placeOf wsX5_isPerson := goodIn_r _ [6, 7, 8, 9, 10, 11, 12, 13, 14, 15, 16, 17] (by decide +kernel) (by decide +kernel)
set_option maxRecDepth 20000 in
theorem gX5_placeOf_X5_isPerson : GoodIn wsX5_placeOf (wsV RX5 49 RX5 yX5_isPerson wsX5_isPerson) := goodIn_app (goodIn_of _ (by decide +kernel)) ggX5_placeOf_X5_isPerson
theorem dX5_placeOf_0 : decode cX5_placeOf 0 = .ok (.aload_n 0, 1) := by decide +kernel
theorem dX5_placeOf_1 : decode cX5_placeOf 1 = .ok (.iload_n 1, 1) := by decide +kernel
theorem dX5_placeOf_2 : decode cX5_placeOf 2 = .ok (.invokevirtual 49, 3) := by decide +kernel
theorem dX5_placeOf_5 : decode cX5_placeOf 5 = .ok (.ifCond .eq 12, 3) := by decide +kernel
theorem dX5_placeOf_8 : decode cX5_placeOf 8 = .ok (.aload_n 0, 1) := by decide +kernel
theorem dX5_placeOf_9 : decode cX5_placeOf 9 = .ok (.getfield 15, 3) := by decide +kernel
theorem dX5_placeOf_12 : decode cX5_placeOf 12 = .ok (.iload_n 1, 1) := by decide +kernel
theorem dX5_placeOf_13 : decode cX5_placeOf 13 = .ok (.iaload, 1) := by decide +kernel
theorem dX5_placeOf_14 : decode cX5_placeOf 14 = .ok (.goto 4, 3) := by decide +kernel
theorem dX5_placeOf_17 : decode cX5_placeOf 17 = .ok (.iconst (-1), 1) := by decide +kernel
theorem dX5_placeOf_18 : decode cX5_placeOf 18 = .ok (.ireturn, 1) := by decide +kernel
set_option maxRecDepth 20000 in
theorem ggX5_parentsOf_X5_isPerson : GoodIn wsX5_parentsOf wsX5_isPerson := goodIn_r _ [6, 7, 8, 9, 10, 11, 12, 13, 14, 15, 16, 17] (by decide +kernel) (by decide +kernel)
set_option maxRecDepth 20000 in
theorem gX5_parentsOf_X5_isPerson : GoodIn wsX5_parentsOf (wsV RX5 49 RX5 yX5_isPerson wsX5_isPerson) := goodIn_app (goodIn_of _ (by decide +kernel)) ggX5_parentsOf_X5_isPerson
theorem dX5_parentsOf_0 : decode cX5_parentsOf 0 = .ok (.aload_n 0, 1) := by decide +kernel
theorem dX5_parentsOf_1 : decode cX5_parentsOf 1 = .ok (.iload_n 1, 1) := by decide +kernel
theorem dX5_parentsOf_2 : decode cX5_parentsOf 2 = .ok (.invokevirtual 49, 3) := by decide +kernel
theorem dX5_parentsOf_5 : decode cX5_parentsOf 5 = .ok (.ifCond .eq 12, 3) := by decide +kernel
theorem dX5_parentsOf_8 : decode cX5_parentsOf 8 = .ok (.aload_n 0, 1) := by decide +kernel
theorem dX5_parentsOf_9 : decode cX5_parentsOf 9 = .ok (.getfield 18, 3) := by decide +kernel
theorem dX5_parentsOf_12 : decode cX5_parentsOf 12 = .ok (.iload_n 1, 1) := by decide +kernel
theorem dX5_parentsOf_13 : decode cX5_parentsOf 13 = .ok (.iaload, 1) := by decide +kernel
theorem dX5_parentsOf_14 : decode cX5_parentsOf 14 = .ok (.goto 4, 3) := by decide +kernel
theorem dX5_parentsOf_17 : decode cX5_parentsOf 17 = .ok (.iconst (-1), 1) := by decide +kernel
theorem dX5_parentsOf_18 : decode cX5_parentsOf 18 = .ok (.ireturn, 1) := by decide +kernel
set_option maxRecDepth 20000 in
theorem ggX5_lesserOf_X5_isCouple : GoodIn wsX5_lesserOf wsX5_isCouple := goodIn_r _ [6, 7, 8, 9, 10, 11, 12, 13, 14, 15, 16, 17] (by decide +kernel) (by decide +kernel)
set_option maxRecDepth 20000 in
theorem gX5_lesserOf_X5_isCouple : GoodIn wsX5_lesserOf (wsV RX5 53 RX5 yX5_isCouple wsX5_isCouple) := goodIn_app (goodIn_of _ (by decide +kernel)) ggX5_lesserOf_X5_isCouple
theorem dX5_lesserOf_0 : decode cX5_lesserOf 0 = .ok (.aload_n 0, 1) := by decide +kernel
theorem dX5_lesserOf_1 : decode cX5_lesserOf 1 = .ok (.iload_n 1, 1) := by decide +kernel
theorem dX5_lesserOf_2 : decode cX5_lesserOf 2 = .ok (.invokevirtual 53, 3) := by decide +kernel
theorem dX5_lesserOf_5 : decode cX5_lesserOf 5 = .ok (.ifCond .eq 12, 3) := by decide +kernel
theorem dX5_lesserOf_8 : decode cX5_lesserOf 8 = .ok (.aload_n 0, 1) := by decide +kernel
theorem dX5_lesserOf_9 : decode cX5_lesserOf 9 = .ok (.getfield 21, 3) := by decide +kernel
theorem dX5_lesserOf_12 : decode cX5_lesserOf 12 = .ok (.iload_n 1, 1) := by decide +kernel
theorem dX5_lesserOf_13 : decode cX5_lesserOf 13 = .ok (.iaload, 1) := by decide +kernel
theorem dX5_lesserOf_14 : decode cX5_lesserOf 14 = .ok (.goto 4, 3) := by decide +kernel
theorem dX5_lesserOf_17 : decode cX5_lesserOf 17 = .ok (.iconst (-1), 1) := by decide +kernel
theorem dX5_lesserOf_18 : decode cX5_lesserOf 18 = .ok (.ireturn, 1) := by decide +kernel
set_option maxRecDepth 20000 in
theorem ggX5_greaterOf_X5_isCouple : GoodIn wsX5_greaterOf wsX5_isCouple := goodIn_r _ [6, 7, 8, 9, 10, 11, 12, 13, 14, 15, 16, 17] (by decide +kernel) (by decide +kernel)
set_option maxRecDepth 20000 in
theorem gX5_greaterOf_X5_isCouple : GoodIn wsX5_greaterOf (wsV RX5 53 RX5 yX5_isCouple wsX5_isCouple) := goodIn_app (goodIn_of _ (by decide +kernel)) ggX5_greaterOf_X5_isCouple
theorem dX5_greaterOf_0 : decode cX5_greaterOf 0 = .ok (.aload_n 0, 1) := by decide +kernel
theorem dX5_greaterOf_1 : decode cX5_greaterOf 1 = .ok (.iload_n 1, 1) := by decide +kernel
theorem dX5_greaterOf_2 : decode cX5_greaterOf 2 = .ok (.invokevirtual 53, 3) := by decide +kernel
theorem dX5_greaterOf_5 : decode cX5_greaterOf 5 = .ok (.ifCond .eq 12, 3) := by decide +kernel
theorem dX5_greaterOf_8 : decode cX5_greaterOf 8 = .ok (.aload_n 0, 1) := by decide +kernel
theorem dX5_greaterOf_9 : decode cX5_greaterOf 9 = .ok (.getfield 24, 3) := by decide +kernel
theorem dX5_greaterOf_12 : decode cX5_greaterOf 12 = .ok (.iload_n 1, 1) := by decide +kernel
theorem dX5_greaterOf_13 : decode cX5_greaterOf 13 = .ok (.iaload, 1) := by decide +kernel
theorem dX5_greaterOf_14 : decode cX5_greaterOf 14 = .ok (.goto 4, 3) := by decide +kernel
theorem dX5_greaterOf_17 : decode cX5_greaterOf 17 = .ok (.iconst (-1), 1) := by decide +kernel
theorem dX5_greaterOf_18 : decode cX5_greaterOf 18 = .ok (.ireturn, 1) := by decide +kernel
set_option maxRecDepth 20000 in
theorem ggX5_personAt_X5_sizeOf : GoodIn wsX5_personAt wsX5_sizeOf := goodIn_r _ [6, 7, 8, 9, 10, 11, 12, 13, 14, 15, 16, 17] (by decide +kernel) (by decide +kernel)
set_option maxRecDepth 20000 in
theorem gX5_personAt_X5_sizeOf : GoodIn wsX5_personAt (wsV RX5 56 RX5 yX5_sizeOf wsX5_sizeOf) := goodIn_app (goodIn_of _ (by decide +kernel)) ggX5_personAt_X5_sizeOf
theorem dX5_personAt_0 : decode cX5_personAt 0 = .ok (.iload_n 2, 1) := by decide +kernel
theorem dX5_personAt_1 : decode cX5_personAt 1 = .ok (.ifCond .lt 26, 3) := by decide +kernel
theorem dX5_personAt_4 : decode cX5_personAt 4 = .ok (.iload_n 2, 1) := by decide +kernel
theorem dX5_personAt_5 : decode cX5_personAt 5 = .ok (.aload_n 0, 1) := by decide +kernel
theorem dX5_personAt_6 : decode cX5_personAt 6 = .ok (.iload_n 1, 1) := by decide +kernel
theorem dX5_personAt_7 : decode cX5_personAt 7 = .ok (.invokevirtual 56, 3) := by decide +kernel
theorem dX5_personAt_10 : decode cX5_personAt 10 = .ok (.if_icmp .ge 17, 3) := by decide +kernel
theorem dX5_personAt_13 : decode cX5_personAt 13 = .ok (.aload_n 0, 1) := by decide +kernel
theorem dX5_personAt_14 : decode cX5_personAt 14 = .ok (.getfield 27, 3) := by decide +kernel
theorem dX5_personAt_17 : decode cX5_personAt 17 = .ok (.iload_n 1, 1) := by decide +kernel
theorem dX5_personAt_18 : decode cX5_personAt 18 = .ok (.bipush 6, 2) := by decide +kernel
theorem dX5_personAt_20 : decode cX5_personAt 20 = .ok (.imul, 1) := by decide +kernel
theorem dX5_personAt_21 : decode cX5_personAt 21 = .ok (.iload_n 2, 1) := by decide +kernel
theorem dX5_personAt_22 : decode cX5_personAt 22 = .ok (.iadd, 1) := by decide +kernel
theorem dX5_personAt_23 : decode cX5_personAt 23 = .ok (.iaload, 1) := by decide +kernel
theorem dX5_personAt_24 : decode cX5_personAt 24 = .ok (.goto 4, 3) := by decide +kernel
theorem dX5_personAt_27 : decode cX5_personAt 27 = .ok (.iconst (-1), 1) := by decide +kernel
theorem dX5_personAt_28 : decode cX5_personAt 28 = .ok (.ireturn, 1) := by decide +kernel
set_option maxRecDepth 20000 in
theorem ggX5_middleOf_X5_isCouple : GoodIn wsX5_middleOf wsX5_isCouple := goodIn_r _ [7, 8, 19, 20, 21, 22, 23, 24, 25, 26, 27, 28] (by decide +kernel) (by decide +kernel)
set_option maxRecDepth 20000 in
theorem gX5_middleOf_X5_isCouple : GoodIn wsX5_middleOf (wsV RX5 53 RX5 yX5_isCouple wsX5_isCouple) := goodIn_app (goodIn_of _ (by decide +kernel)) ggX5_middleOf_X5_isCouple
set_option maxRecDepth 20000 in
theorem ggX5_middleOf_X5_placeOf : GoodIn wsX5_middleOf wsX5_placeOf := goodIn_r _ [12, 13, 14, 15, 16, 6, 17, 18, 19, 20, 21, 22, 23, 24, 25, 26, 27, 28] (by decide +kernel) (by decide +kernel)
set_option maxRecDepth 20000 in
theorem gX5_middleOf_X5_placeOf : GoodIn wsX5_middleOf (wsV RX5 60 RX5 yX5_placeOf wsX5_placeOf) := goodIn_app (goodIn_of _ (by decide +kernel)) ggX5_middleOf_X5_placeOf
theorem dX5_middleOf_0 : decode cX5_middleOf 0 = .ok (.aload_n 0, 1) := by decide +kernel
theorem dX5_middleOf_1 : decode cX5_middleOf 1 = .ok (.iload_n 1, 1) := by decide +kernel
theorem dX5_middleOf_2 : decode cX5_middleOf 2 = .ok (.invokevirtual 53, 3) := by decide +kernel
theorem dX5_middleOf_5 : decode cX5_middleOf 5 = .ok (.ifCond .eq 27, 3) := by decide +kernel
theorem dX5_middleOf_8 : decode cX5_middleOf 8 = .ok (.aload_n 0, 1) := by decide +kernel
theorem dX5_middleOf_9 : decode cX5_middleOf 9 = .ok (.aload_n 0, 1) := by decide +kernel
theorem dX5_middleOf_10 : decode cX5_middleOf 10 = .ok (.getfield 21, 3) := by decide +kernel
theorem dX5_middleOf_13 : decode cX5_middleOf 13 = .ok (.iload_n 1, 1) := by decide +kernel
theorem dX5_middleOf_14 : decode cX5_middleOf 14 = .ok (.iaload, 1) := by decide +kernel
theorem dX5_middleOf_15 : decode cX5_middleOf 15 = .ok (.invokevirtual 60, 3) := by decide +kernel
theorem dX5_middleOf_18 : decode cX5_middleOf 18 = .ok (.aload_n 0, 1) := by decide +kernel
theorem dX5_middleOf_19 : decode cX5_middleOf 19 = .ok (.aload_n 0, 1) := by decide +kernel
theorem dX5_middleOf_20 : decode cX5_middleOf 20 = .ok (.getfield 24, 3) := by decide +kernel
theorem dX5_middleOf_23 : decode cX5_middleOf 23 = .ok (.iload_n 1, 1) := by decide +kernel
theorem dX5_middleOf_24 : decode cX5_middleOf 24 = .ok (.iaload, 1) := by decide +kernel
theorem dX5_middleOf_25 : decode cX5_middleOf 25 = .ok (.invokevirtual 60, 3) := by decide +kernel
theorem dX5_middleOf_28 : decode cX5_middleOf 28 = .ok (.iadd, 1) := by decide +kernel
theorem dX5_middleOf_29 : decode cX5_middleOf 29 = .ok (.goto 4, 3) := by decide +kernel
theorem dX5_middleOf_32 : decode cX5_middleOf 32 = .ok (.iconst (-1), 1) := by decide +kernel
theorem dX5_middleOf_33 : decode cX5_middleOf 33 = .ok (.ireturn, 1) := by decide +kernel
set_option maxRecDepth 20000 in
theorem ggX5_middleAbove_X5_parentsOf : GoodIn wsX5_middleAbove wsX5_parentsOf := goodIn_r _ [5, 6, 7, 8, 9, 4, 10, 11, 28, 29, 30, 31, 32, 33, 34, 35, 36, 37] (by decide +kernel) (by decide +kernel)
set_option maxRecDepth 20000 in
theorem gX5_middleAbove_X5_parentsOf : GoodIn wsX5_middleAbove (wsV RX5 63 RX5 yX5_parentsOf wsX5_parentsOf) := goodIn_app (goodIn_of _ (by decide +kernel)) ggX5_middleAbove_X5_parentsOf
set_option maxRecDepth 20000 in
theorem ggX5_middleAbove_X5_middleOf : GoodIn wsX5_middleAbove wsX5_middleOf := goodIn_r _ [15, 16, 17, 18, 19, 20, 4, 21, 22, 23, 24, 25, 26, 27, 7, 8, 9, 10, 11, 28, 29, 30, 31, 32, 33, 34, 35, 36, 37] (by decide +kernel) (by decide +kernel)
set_option maxRecDepth 20000 in
theorem gX5_middleAbove_X5_middleOf : GoodIn wsX5_middleAbove (wsV RX5 66 RX5 yX5_middleOf wsX5_middleOf) := goodIn_app (goodIn_of _ (by decide +kernel)) ggX5_middleAbove_X5_middleOf
theorem dX5_middleAbove_0 : decode cX5_middleAbove 0 = .ok (.aload_n 0, 1) := by decide +kernel
theorem dX5_middleAbove_1 : decode cX5_middleAbove 1 = .ok (.aload_n 0, 1) := by decide +kernel
theorem dX5_middleAbove_2 : decode cX5_middleAbove 2 = .ok (.iload_n 1, 1) := by decide +kernel
theorem dX5_middleAbove_3 : decode cX5_middleAbove 3 = .ok (.invokevirtual 63, 3) := by decide +kernel
theorem dX5_middleAbove_6 : decode cX5_middleAbove 6 = .ok (.invokevirtual 66, 3) := by decide +kernel
theorem dX5_middleAbove_9 : decode cX5_middleAbove 9 = .ok (.ireturn, 1) := by decide +kernel
set_option maxRecDepth 20000 in
theorem ggX5_addPerson_X5_sizeOf : GoodIn wsX5_addPerson wsX5_sizeOf := goodIn_r _ [10, 3, 21, 22, 23, 24, 25, 26, 27, 28, 29, 30] (by decide +kernel) (by decide +kernel)
set_option maxRecDepth 20000 in
theorem gX5_addPerson_X5_sizeOf : GoodIn wsX5_addPerson (wsV RX5 56 RX5 yX5_sizeOf wsX5_sizeOf) := goodIn_app (goodIn_of _ (by decide +kernel)) ggX5_addPerson_X5_sizeOf
set_option maxRecDepth 20000 in
theorem ggX5_addPerson_X5_lay : GoodIn wsX5_addPerson wsX5_lay := goodIn_r _ [14, 15, 16, 17, 18, 19, 9, 20, 1, 6, 7, 8, 10, 3, 21, 22, 23, 24, 25, 26, 27, 28, 29, 30] (by decide +kernel) (by decide +kernel)
set_option maxRecDepth 20000 in
theorem gX5_addPerson_X5_lay : GoodIn wsX5_addPerson (wsV RX5 69 RX5 yX5_lay wsX5_lay) := goodIn_app (goodIn_of _ (by decide +kernel)) ggX5_addPerson_X5_lay
theorem dX5_addPerson_0 : decode cX5_addPerson 0 = .ok (.aload_n 0, 1) := by decide +kernel
theorem dX5_addPerson_1 : decode cX5_addPerson 1 = .ok (.iload_n 1, 1) := by decide +kernel
theorem dX5_addPerson_2 : decode cX5_addPerson 2 = .ok (.invokevirtual 56, 3) := by decide +kernel
theorem dX5_addPerson_5 : decode cX5_addPerson 5 = .ok (.istore_n 3, 1) := by decide +kernel
theorem dX5_addPerson_6 : decode cX5_addPerson 6 = .ok (.iload_n 1, 1) := by decide +kernel
theorem dX5_addPerson_7 : decode cX5_addPerson 7 = .ok (.ifCond .lt 23, 3) := by decide +kernel
theorem dX5_addPerson_10 : decode cX5_addPerson 10 = .ok (.iload_n 1, 1) := by decide +kernel
theorem dX5_addPerson_11 : decode cX5_addPerson 11 = .ok (.iconst 4, 1) := by decide +kernel
theorem dX5_addPerson_12 : decode cX5_addPerson 12 = .ok (.if_icmp .ge 18, 3) := by decide +kernel
theorem dX5_addPerson_15 : decode cX5_addPerson 15 = .ok (.iload_n 3, 1) := by decide +kernel
theorem dX5_addPerson_16 : decode cX5_addPerson 16 = .ok (.bipush 6, 2) := by decide +kernel
theorem dX5_addPerson_18 : decode cX5_addPerson 18 = .ok (.if_icmp .ge 12, 3) := by decide +kernel
theorem dX5_addPerson_21 : decode cX5_addPerson 21 = .ok (.aload_n 0, 1) := by decide +kernel
theorem dX5_addPerson_22 : decode cX5_addPerson 22 = .ok (.getfield 39, 3) := by decide +kernel
theorem dX5_addPerson_25 : decode cX5_addPerson 25 = .ok (.bipush 20, 2) := by decide +kernel
theorem dX5_addPerson_27 : decode cX5_addPerson 27 = .ok (.if_icmp .lt 15, 3) := by decide +kernel
theorem dX5_addPerson_30 : decode cX5_addPerson 30 = .ok (.aload_n 0, 1) := by decide +kernel
theorem dX5_addPerson_31 : decode cX5_addPerson 31 = .ok (.dup, 1) := by decide +kernel
theorem dX5_addPerson_32 : decode cX5_addPerson 32 = .ok (.getfield 46, 3) := by decide +kernel
theorem dX5_addPerson_35 : decode cX5_addPerson 35 = .ok (.iconst 1, 1) := by decide +kernel
theorem dX5_addPerson_36 : decode cX5_addPerson 36 = .ok (.iadd, 1) := by decide +kernel
theorem dX5_addPerson_37 : decode cX5_addPerson 37 = .ok (.putfield 46, 3) := by decide +kernel
theorem dX5_addPerson_40 : decode cX5_addPerson 40 = .ok (.iconst (-1), 1) := by decide +kernel
theorem dX5_addPerson_41 : decode cX5_addPerson 41 = .ok (.ireturn, 1) := by decide +kernel
theorem dX5_addPerson_42 : decode cX5_addPerson 42 = .ok (.aload_n 0, 1) := by decide +kernel
theorem dX5_addPerson_43 : decode cX5_addPerson 43 = .ok (.getfield 39, 3) := by decide +kernel
theorem dX5_addPerson_46 : decode cX5_addPerson 46 = .ok (.istore 4, 2) := by decide +kernel
theorem dX5_addPerson_48 : decode cX5_addPerson 48 = .ok (.aload_n 0, 1) := by decide +kernel
theorem dX5_addPerson_49 : decode cX5_addPerson 49 = .ok (.dup, 1) := by decide +kernel
theorem dX5_addPerson_50 : decode cX5_addPerson 50 = .ok (.getfield 39, 3) := by decide +kernel
theorem dX5_addPerson_53 : decode cX5_addPerson 53 = .ok (.iconst 1, 1) := by decide +kernel
theorem dX5_addPerson_54 : decode cX5_addPerson 54 = .ok (.iadd, 1) := by decide +kernel
theorem dX5_addPerson_55 : decode cX5_addPerson 55 = .ok (.putfield 39, 3) := by decide +kernel
theorem dX5_addPerson_58 : decode cX5_addPerson 58 = .ok (.aload_n 0, 1) := by decide +kernel
theorem dX5_addPerson_59 : decode cX5_addPerson 59 = .ok (.getfield 30, 3) := by decide +kernel
theorem dX5_addPerson_62 : decode cX5_addPerson 62 = .ok (.iload_n 1, 1) := by decide +kernel
theorem dX5_addPerson_63 : decode cX5_addPerson 63 = .ok (.dup2, 1) := by decide +kernel
theorem dX5_addPerson_64 : decode cX5_addPerson 64 = .ok (.iaload, 1) := by decide +kernel
theorem dX5_addPerson_65 : decode cX5_addPerson 65 = .ok (.iconst 1, 1) := by decide +kernel
theorem dX5_addPerson_66 : decode cX5_addPerson 66 = .ok (.iadd, 1) := by decide +kernel
theorem dX5_addPerson_67 : decode cX5_addPerson 67 = .ok (.iastore, 1) := by decide +kernel
theorem dX5_addPerson_68 : decode cX5_addPerson 68 = .ok (.aload_n 0, 1) := by decide +kernel
theorem dX5_addPerson_69 : decode cX5_addPerson 69 = .ok (.getfield 9, 3) := by decide +kernel
theorem dX5_addPerson_72 : decode cX5_addPerson 72 = .ok (.iload 4, 2) := by decide +kernel
theorem dX5_addPerson_74 : decode cX5_addPerson 74 = .ok (.iload_n 1, 1) := by decide +kernel
theorem dX5_addPerson_75 : decode cX5_addPerson 75 = .ok (.iastore, 1) := by decide +kernel
theorem dX5_addPerson_76 : decode cX5_addPerson 76 = .ok (.aload_n 0, 1) := by decide +kernel
theorem dX5_addPerson_77 : decode cX5_addPerson 77 = .ok (.getfield 18, 3) := by decide +kernel
theorem dX5_addPerson_80 : decode cX5_addPerson 80 = .ok (.iload 4, 2) := by decide +kernel
theorem dX5_addPerson_82 : decode cX5_addPerson 82 = .ok (.iload_n 2, 1) := by decide +kernel
theorem dX5_addPerson_83 : decode cX5_addPerson 83 = .ok (.iastore, 1) := by decide +kernel
theorem dX5_addPerson_84 : decode cX5_addPerson 84 = .ok (.aload_n 0, 1) := by decide +kernel
theorem dX5_addPerson_85 : decode cX5_addPerson 85 = .ok (.iload_n 1, 1) := by decide +kernel
theorem dX5_addPerson_86 : decode cX5_addPerson 86 = .ok (.iload_n 3, 1) := by decide +kernel
theorem dX5_addPerson_87 : decode cX5_addPerson 87 = .ok (.iload 4, 2) := by decide +kernel
theorem dX5_addPerson_89 : decode cX5_addPerson 89 = .ok (.invokevirtual 69, 3) := by decide +kernel
theorem dX5_addPerson_92 : decode cX5_addPerson 92 = .ok (.iload 4, 2) := by decide +kernel
theorem dX5_addPerson_94 : decode cX5_addPerson 94 = .ok (.ireturn, 1) := by decide +kernel
set_option maxRecDepth 20000 in
theorem ggX5_addChild_X5_lesserOf : GoodIn wsX5_addChild wsX5_lesserOf := goodIn_r _ [5, 6, 7, 8, 9, 4, 10, 11, 39, 40, 41, 42, 43, 44, 45, 46, 47, 48] (by decide +kernel) (by decide +kernel)
set_option maxRecDepth 20000 in
theorem gX5_addChild_X5_lesserOf : GoodIn wsX5_addChild (wsV RX5 73 RX5 yX5_lesserOf wsX5_lesserOf) := goodIn_app (goodIn_of _ (by decide +kernel)) ggX5_addChild_X5_lesserOf
set_option maxRecDepth 20000 in
theorem ggX5_addChild_X5_rowOf : GoodIn wsX5_addChild wsX5_rowOf := goodIn_r _ [15, 16, 17, 18, 19, 4, 20, 21, 39, 40, 41, 42, 43, 44, 45, 46, 47, 48] (by decide +kernel) (by decide +kernel)
set_option maxRecDepth 20000 in
theorem gX5_addChild_X5_rowOf : GoodIn wsX5_addChild (wsV RX5 76 RX5 yX5_rowOf wsX5_rowOf) := goodIn_app (goodIn_of _ (by decide +kernel)) ggX5_addChild_X5_rowOf
set_option maxRecDepth 20000 in
theorem ggX5_addChild_X5_addPerson : GoodIn wsX5_addChild wsX5_addPerson := goodIn_r _ [25, 21, 26, 27, 16, 28, 29, 30, 31, 4, 32, 33, 34, 35, 36, 37, 38, 17, 18, 19, 20, 39, 40, 41, 42, 43, 44, 45, 46, 47, 48] (by decide +kernel) (by decide +kernel)
set_option maxRecDepth 20000 in
theorem gX5_addChild_X5_addPerson : GoodIn wsX5_addChild (wsV RX5 79 RX5 yX5_addPerson wsX5_addPerson) := goodIn_app (goodIn_of _ (by decide +kernel)) ggX5_addChild_X5_addPerson
