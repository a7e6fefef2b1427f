theorem dX5_addChild_0 : decode cX5_addChild 0 = .ok (.aload_n 0, 1) := by decide +kernel
theorem dX5_addChild_1 : decode cX5_addChild 1 = .ok (.aload_n 0, 1) := by decide +kernel
theorem dX5_addChild_2 : decode cX5_addChild 2 = .ok (.aload_n 0, 1) := by decide +kernel
theorem dX5_addChild_3 : decode cX5_addChild 3 = .ok (.iload_n 1, 1) := by decide +kernel
theorem dX5_addChild_4 : decode cX5_addChild 4 = .ok (.invokevirtual 73, 3) := by decide +kernel
theorem dX5_addChild_7 : decode cX5_addChild 7 = .ok (.invokevirtual 76, 3) := by decide +kernel
theorem dX5_addChild_10 : decode cX5_addChild 10 = .ok (.iconst 1, 1) := by decide +kernel
theorem dX5_addChild_11 : decode cX5_addChild 11 = .ok (.iadd, 1) := by decide +kernel
theorem dX5_addChild_12 : decode cX5_addChild 12 = .ok (.iload_n 1, 1) := by decide +kernel
theorem dX5_addChild_13 : decode cX5_addChild 13 = .ok (.invokevirtual 79, 3) := by decide +kernel
theorem dX5_addChild_16 : decode cX5_addChild 16 = .ok (.ireturn, 1) := by decide +kernel
set_option maxRecDepth 20000 in
theorem ggX5_addCouple_X5_reasonAgainst : GoodIn wsX5_addCouple wsX5_reasonAgainst := goodIn_r _ [16, 2, 4, 5, 6, 7, 9, 10, 11, 17, 18, 19, 15, 20, 21, 22, 23, 24, 25, 26, 27, 28, 29, 30, 3, 8, 31, 32, 33, 34, 35, 36, 37, 38, 39, 40, 41, 42, 43, 44, 45, 46, 47, 48] (by decide +kernel) (by decide +kernel)
set_option maxRecDepth 20000 in
theorem gX5_addCouple_X5_reasonAgainst : GoodIn wsX5_addCouple (wsV RX5 83 RX5 yX5_reasonAgainst wsX5_reasonAgainst) := goodIn_app (goodIn_of _ (by decide +kernel)) ggX5_addCouple_X5_reasonAgainst
theorem dX5_addCouple_0 : decode cX5_addCouple 0 = .ok (.aload_n 0, 1) := by decide +kernel
theorem dX5_addCouple_1 : decode cX5_addCouple 1 = .ok (.iload_n 1, 1) := by decide +kernel
theorem dX5_addCouple_2 : decode cX5_addCouple 2 = .ok (.iload_n 2, 1) := by decide +kernel
theorem dX5_addCouple_3 : decode cX5_addCouple 3 = .ok (.invokevirtual 83, 3) := by decide +kernel
theorem dX5_addCouple_6 : decode cX5_addCouple 6 = .ok (.istore_n 3, 1) := by decide +kernel
theorem dX5_addCouple_7 : decode cX5_addCouple 7 = .ok (.iload_n 3, 1) := by decide +kernel
theorem dX5_addCouple_8 : decode cX5_addCouple 8 = .ok (.ifCond .eq 15, 3) := by decide +kernel
theorem dX5_addCouple_11 : decode cX5_addCouple 11 = .ok (.aload_n 0, 1) := by decide +kernel
theorem dX5_addCouple_12 : decode cX5_addCouple 12 = .ok (.dup, 1) := by decide +kernel
theorem dX5_addCouple_13 : decode cX5_addCouple 13 = .ok (.getfield 46, 3) := by decide +kernel
theorem dX5_addCouple_16 : decode cX5_addCouple 16 = .ok (.iconst 1, 1) := by decide +kernel
theorem dX5_addCouple_17 : decode cX5_addCouple 17 = .ok (.iadd, 1) := by decide +kernel
theorem dX5_addCouple_18 : decode cX5_addCouple 18 = .ok (.putfield 46, 3) := by decide +kernel
theorem dX5_addCouple_21 : decode cX5_addCouple 21 = .ok (.iload_n 3, 1) := by decide +kernel
theorem dX5_addCouple_22 : decode cX5_addCouple 22 = .ok (.ireturn, 1) := by decide +kernel
theorem dX5_addCouple_23 : decode cX5_addCouple 23 = .ok (.aload_n 0, 1) := by decide +kernel
theorem dX5_addCouple_24 : decode cX5_addCouple 24 = .ok (.getfield 43, 3) := by decide +kernel
theorem dX5_addCouple_27 : decode cX5_addCouple 27 = .ok (.istore 4, 2) := by decide +kernel
theorem dX5_addCouple_29 : decode cX5_addCouple 29 = .ok (.aload_n 0, 1) := by decide +kernel
theorem dX5_addCouple_30 : decode cX5_addCouple 30 = .ok (.dup, 1) := by decide +kernel
theorem dX5_addCouple_31 : decode cX5_addCouple 31 = .ok (.getfield 43, 3) := by decide +kernel
theorem dX5_addCouple_34 : decode cX5_addCouple 34 = .ok (.iconst 1, 1) := by decide +kernel
theorem dX5_addCouple_35 : decode cX5_addCouple 35 = .ok (.iadd, 1) := by decide +kernel
theorem dX5_addCouple_36 : decode cX5_addCouple 36 = .ok (.putfield 43, 3) := by decide +kernel
theorem dX5_addCouple_39 : decode cX5_addCouple 39 = .ok (.aload_n 0, 1) := by decide +kernel
theorem dX5_addCouple_40 : decode cX5_addCouple 40 = .ok (.getfield 21, 3) := by decide +kernel
theorem dX5_addCouple_43 : decode cX5_addCouple 43 = .ok (.iload 4, 2) := by decide +kernel
theorem dX5_addCouple_45 : decode cX5_addCouple 45 = .ok (.iload_n 1, 1) := by decide +kernel
theorem dX5_addCouple_46 : decode cX5_addCouple 46 = .ok (.iload_n 2, 1) := by decide +kernel
theorem dX5_addCouple_47 : decode cX5_addCouple 47 = .ok (.invokestatic 86, 3) := by decide +kernel
theorem dX5_addCouple_50 : decode cX5_addCouple 50 = .ok (.iastore, 1) := by decide +kernel
theorem dX5_addCouple_51 : decode cX5_addCouple 51 = .ok (.aload_n 0, 1) := by decide +kernel
theorem dX5_addCouple_52 : decode cX5_addCouple 52 = .ok (.getfield 24, 3) := by decide +kernel
theorem dX5_addCouple_55 : decode cX5_addCouple 55 = .ok (.iload 4, 2) := by decide +kernel
theorem dX5_addCouple_57 : decode cX5_addCouple 57 = .ok (.iload_n 1, 1) := by decide +kernel
theorem dX5_addCouple_58 : decode cX5_addCouple 58 = .ok (.iload_n 2, 1) := by decide +kernel
theorem dX5_addCouple_59 : decode cX5_addCouple 59 = .ok (.invokestatic 91, 3) := by decide +kernel
theorem dX5_addCouple_62 : decode cX5_addCouple 62 = .ok (.iastore, 1) := by decide +kernel
theorem dX5_addCouple_63 : decode cX5_addCouple 63 = .ok (.iload 4, 2) := by decide +kernel
theorem dX5_addCouple_65 : decode cX5_addCouple 65 = .ok (.bipush 10, 2) := by decide +kernel
theorem dX5_addCouple_67 : decode cX5_addCouple 67 = .ok (.iadd, 1) := by decide +kernel
theorem dX5_addCouple_68 : decode cX5_addCouple 68 = .ok (.ireturn, 1) := by decide +kernel
set_option maxRecDepth 20000 in
theorem ggX5_reasonAgainst_X5_rowOf : GoodIn wsX5_reasonAgainst wsX5_rowOf := goodIn_r _ [13, 14, 15, 16, 17, 12, 18, 19, 34, 35, 36, 37, 38, 39, 40, 41, 42, 43] (by decide +kernel) (by decide +kernel)
set_option maxRecDepth 20000 in
theorem gX5_reasonAgainst_X5_rowOf : GoodIn wsX5_reasonAgainst (wsV RX5 76 RX5 yX5_rowOf wsX5_rowOf) := goodIn_app (goodIn_of _ (by decide +kernel)) ggX5_reasonAgainst_X5_rowOf
set_option maxRecDepth 20000 in
theorem ggX5_reasonAgainst_X5_areCouple : GoodIn wsX5_reasonAgainst wsX5_areCouple := goodIn_r _ [23, 1, 24, 25, 34, 35, 36, 37, 38, 39, 40, 41, 42, 43] (by decide +kernel) (by decide +kernel)
set_option maxRecDepth 20000 in
theorem gX5_reasonAgainst_X5_areCouple : GoodIn wsX5_reasonAgainst (wsV RX5 94 RX5 yX5_areCouple wsX5_areCouple) := goodIn_app (goodIn_of _ (by decide +kernel)) ggX5_reasonAgainst_X5_areCouple
set_option maxRecDepth 20000 in
theorem ggX5_reasonAgainst_X5_isDouble : GoodIn wsX5_reasonAgainst wsX5_isDouble := goodIn_r _ [29, 30, 31, 32, 12, 33, 1, 24, 25, 34, 35, 36, 37, 38, 39, 40, 41, 42, 43] (by decide +kernel) (by decide +kernel)
set_option maxRecDepth 20000 in
theorem gX5_reasonAgainst_X5_isDouble : GoodIn wsX5_reasonAgainst (wsV RX5 98 RX5 yX5_isDouble wsX5_isDouble) := goodIn_app (goodIn_of _ (by decide +kernel)) ggX5_reasonAgainst_X5_isDouble
theorem dX5_reasonAgainst_0 : decode cX5_reasonAgainst 0 = .ok (.aload_n 0, 1) := by decide +kernel
theorem dX5_reasonAgainst_1 : decode cX5_reasonAgainst 1 = .ok (.getfield 43, 3) := by decide +kernel
theorem dX5_reasonAgainst_4 : decode cX5_reasonAgainst 4 = .ok (.bipush 10, 2) := by decide +kernel
theorem dX5_reasonAgainst_6 : decode cX5_reasonAgainst 6 = .ok (.if_icmp .lt 5, 3) := by decide +kernel
theorem dX5_reasonAgainst_9 : decode cX5_reasonAgainst 9 = .ok (.iconst 1, 1) := by decide +kernel
theorem dX5_reasonAgainst_10 : decode cX5_reasonAgainst 10 = .ok (.ireturn, 1) := by decide +kernel
theorem dX5_reasonAgainst_11 : decode cX5_reasonAgainst 11 = .ok (.aload_n 0, 1) := by decide +kernel
theorem dX5_reasonAgainst_12 : decode cX5_reasonAgainst 12 = .ok (.iload_n 1, 1) := by decide +kernel
theorem dX5_reasonAgainst_13 : decode cX5_reasonAgainst 13 = .ok (.invokevirtual 76, 3) := by decide +kernel
theorem dX5_reasonAgainst_16 : decode cX5_reasonAgainst 16 = .ok (.aload_n 0, 1) := by decide +kernel
theorem dX5_reasonAgainst_17 : decode cX5_reasonAgainst 17 = .ok (.iload_n 2, 1) := by decide +kernel
theorem dX5_reasonAgainst_18 : decode cX5_reasonAgainst 18 = .ok (.invokevirtual 76, 3) := by decide +kernel
theorem dX5_reasonAgainst_21 : decode cX5_reasonAgainst 21 = .ok (.if_icmp .ne 12, 3) := by decide +kernel
theorem dX5_reasonAgainst_24 : decode cX5_reasonAgainst 24 = .ok (.aload_n 0, 1) := by decide +kernel
theorem dX5_reasonAgainst_25 : decode cX5_reasonAgainst 25 = .ok (.iload_n 1, 1) := by decide +kernel
theorem dX5_reasonAgainst_26 : decode cX5_reasonAgainst 26 = .ok (.invokevirtual 76, 3) := by decide +kernel
theorem dX5_reasonAgainst_29 : decode cX5_reasonAgainst 29 = .ok (.iconst 3, 1) := by decide +kernel
theorem dX5_reasonAgainst_30 : decode cX5_reasonAgainst 30 = .ok (.if_icmp .ne 5, 3) := by decide +kernel
theorem dX5_reasonAgainst_33 : decode cX5_reasonAgainst 33 = .ok (.iconst 2, 1) := by decide +kernel
theorem dX5_reasonAgainst_34 : decode cX5_reasonAgainst 34 = .ok (.ireturn, 1) := by decide +kernel
theorem dX5_reasonAgainst_35 : decode cX5_reasonAgainst 35 = .ok (.aload_n 0, 1) := by decide +kernel
theorem dX5_reasonAgainst_36 : decode cX5_reasonAgainst 36 = .ok (.iload_n 1, 1) := by decide +kernel
theorem dX5_reasonAgainst_37 : decode cX5_reasonAgainst 37 = .ok (.iload_n 2, 1) := by decide +kernel
theorem dX5_reasonAgainst_38 : decode cX5_reasonAgainst 38 = .ok (.invokestatic 86, 3) := by decide +kernel
theorem dX5_reasonAgainst_41 : decode cX5_reasonAgainst 41 = .ok (.iload_n 1, 1) := by decide +kernel
theorem dX5_reasonAgainst_42 : decode cX5_reasonAgainst 42 = .ok (.iload_n 2, 1) := by decide +kernel
theorem dX5_reasonAgainst_43 : decode cX5_reasonAgainst 43 = .ok (.invokestatic 91, 3) := by decide +kernel
theorem dX5_reasonAgainst_46 : decode cX5_reasonAgainst 46 = .ok (.invokevirtual 94, 3) := by decide +kernel
theorem dX5_reasonAgainst_49 : decode cX5_reasonAgainst 49 = .ok (.ifCond .eq 5, 3) := by decide +kernel
theorem dX5_reasonAgainst_52 : decode cX5_reasonAgainst 52 = .ok (.iconst 3, 1) := by decide +kernel
theorem dX5_reasonAgainst_53 : decode cX5_reasonAgainst 53 = .ok (.ireturn, 1) := by decide +kernel
theorem dX5_reasonAgainst_54 : decode cX5_reasonAgainst 54 = .ok (.aload_n 0, 1) := by decide +kernel
theorem dX5_reasonAgainst_55 : decode cX5_reasonAgainst 55 = .ok (.iload_n 1, 1) := by decide +kernel
theorem dX5_reasonAgainst_56 : decode cX5_reasonAgainst 56 = .ok (.invokevirtual 98, 3) := by decide +kernel
theorem dX5_reasonAgainst_59 : decode cX5_reasonAgainst 59 = .ok (.ifCond .ne 11, 3) := by decide +kernel
theorem dX5_reasonAgainst_62 : decode cX5_reasonAgainst 62 = .ok (.aload_n 0, 1) := by decide +kernel
theorem dX5_reasonAgainst_63 : decode cX5_reasonAgainst 63 = .ok (.iload_n 2, 1) := by decide +kernel
theorem dX5_reasonAgainst_64 : decode cX5_reasonAgainst 64 = .ok (.invokevirtual 98, 3) := by decide +kernel
theorem dX5_reasonAgainst_67 : decode cX5_reasonAgainst 67 = .ok (.ifCond .eq 5, 3) := by decide +kernel
theorem dX5_reasonAgainst_70 : decode cX5_reasonAgainst 70 = .ok (.iconst 4, 1) := by decide +kernel
theorem dX5_reasonAgainst_71 : decode cX5_reasonAgainst 71 = .ok (.ireturn, 1) := by decide +kernel
theorem dX5_reasonAgainst_72 : decode cX5_reasonAgainst 72 = .ok (.iconst 0, 1) := by decide +kernel
theorem dX5_reasonAgainst_73 : decode cX5_reasonAgainst 73 = .ok (.ireturn, 1) := by decide +kernel
theorem dX5_areCouple_0 : decode cX5_areCouple 0 = .ok (.iconst 0, 1) := by decide +kernel
theorem dX5_areCouple_1 : decode cX5_areCouple 1 = .ok (.istore_n 3, 1) := by decide +kernel
theorem dX5_areCouple_2 : decode cX5_areCouple 2 = .ok (.iload_n 3, 1) := by decide +kernel
theorem dX5_areCouple_3 : decode cX5_areCouple 3 = .ok (.aload_n 0, 1) := by decide +kernel
theorem dX5_areCouple_4 : decode cX5_areCouple 4 = .ok (.getfield 43, 3) := by decide +kernel
theorem dX5_areCouple_7 : decode cX5_areCouple 7 = .ok (.if_icmp .ge 31, 3) := by decide +kernel
theorem dX5_areCouple_10 : decode cX5_areCouple 10 = .ok (.aload_n 0, 1) := by decide +kernel
theorem dX5_areCouple_11 : decode cX5_areCouple 11 = .ok (.getfield 21, 3) := by decide +kernel
theorem dX5_areCouple_14 : decode cX5_areCouple 14 = .ok (.iload_n 3, 1) := by decide +kernel
theorem dX5_areCouple_15 : decode cX5_areCouple 15 = .ok (.iaload, 1) := by decide +kernel
theorem dX5_areCouple_16 : decode cX5_areCouple 16 = .ok (.iload_n 1, 1) := by decide +kernel
theorem dX5_areCouple_17 : decode cX5_areCouple 17 = .ok (.if_icmp .ne 15, 3) := by decide +kernel
theorem dX5_areCouple_20 : decode cX5_areCouple 20 = .ok (.aload_n 0, 1) := by decide +kernel
theorem dX5_areCouple_21 : decode cX5_areCouple 21 = .ok (.getfield 24, 3) := by decide +kernel
theorem dX5_areCouple_24 : decode cX5_areCouple 24 = .ok (.iload_n 3, 1) := by decide +kernel
theorem dX5_areCouple_25 : decode cX5_areCouple 25 = .ok (.iaload, 1) := by decide +kernel
theorem dX5_areCouple_26 : decode cX5_areCouple 26 = .ok (.iload_n 2, 1) := by decide +kernel
theorem dX5_areCouple_27 : decode cX5_areCouple 27 = .ok (.if_icmp .ne 5, 3) := by decide +kernel
theorem dX5_areCouple_30 : decode cX5_areCouple 30 = .ok (.iconst 1, 1) := by decide +kernel
theorem dX5_areCouple_31 : decode cX5_areCouple 31 = .ok (.ireturn, 1) := by decide +kernel
theorem dX5_areCouple_32 : decode cX5_areCouple 32 = .ok (.iinc 3 1, 3) := by decide +kernel
theorem dX5_areCouple_35 : decode cX5_areCouple 35 = .ok (.goto (-33), 3) := by decide +kernel
theorem dX5_areCouple_38 : decode cX5_areCouple 38 = .ok (.iconst 0, 1) := by decide +kernel
theorem dX5_areCouple_39 : decode cX5_areCouple 39 = .ok (.ireturn, 1) := by decide +kernel
set_option maxRecDepth 20000 in
theorem ggX5_isDouble_X5_couplesWith : GoodIn wsX5_isDouble wsX5_couplesWith := goodIn_r _ [5, 6, 7, 8, 9, 10, 11, 12, 13, 14, 15, 16, 17, 18] (by decide +kernel) (by decide +kernel)
set_option maxRecDepth 20000 in
theorem gX5_isDouble_X5_couplesWith : GoodIn wsX5_isDouble (wsV RX5 101 RX5 yX5_couplesWith wsX5_couplesWith) := goodIn_app (goodIn_of _ (by decide +kernel)) ggX5_isDouble_X5_couplesWith
theorem dX5_isDouble_0 : decode cX5_isDouble 0 = .ok (.aload_n 0, 1) := by decide +kernel
theorem dX5_isDouble_1 : decode cX5_isDouble 1 = .ok (.iload_n 1, 1) := by decide +kernel
theorem dX5_isDouble_2 : decode cX5_isDouble 2 = .ok (.invokevirtual 101, 3) := by decide +kernel
theorem dX5_isDouble_5 : decode cX5_isDouble 5 = .ok (.iconst 2, 1) := by decide +kernel
theorem dX5_isDouble_6 : decode cX5_isDouble 6 = .ok (.if_icmp .lt 7, 3) := by decide +kernel
theorem dX5_isDouble_9 : decode cX5_isDouble 9 = .ok (.iconst 1, 1) := by decide +kernel
theorem dX5_isDouble_10 : decode cX5_isDouble 10 = .ok (.goto 4, 3) := by decide +kernel
theorem dX5_isDouble_13 : decode cX5_isDouble 13 = .ok (.iconst 0, 1) := by decide +kernel
theorem dX5_isDouble_14 : decode cX5_isDouble 14 = .ok (.ireturn, 1) := by decide +kernel
set_option maxRecDepth 20000 in
theorem ggX5_lay_X5_isPerson : GoodIn wsX5_lay wsX5_isPerson := goodIn_r _ [7, 8, 14, 15, 16, 17, 18, 19, 20, 21, 22, 23] (by decide +kernel) (by decide +kernel)
set_option maxRecDepth 20000 in
theorem gX5_lay_X5_isPerson : GoodIn wsX5_lay (wsV RX5 49 RX5 yX5_isPerson wsX5_isPerson) := goodIn_app (goodIn_of _ (by decide +kernel)) ggX5_lay_X5_isPerson
set_option maxRecDepth 20000 in
theorem ggX5_lay_X5_sizeOf : GoodIn wsX5_lay wsX5_sizeOf := goodIn_r _ [12, 13, 14, 15, 16, 17, 18, 19, 20, 21, 22, 23] (by decide +kernel) (by decide +kernel)
set_option maxRecDepth 20000 in
theorem gX5_lay_X5_sizeOf : GoodIn wsX5_lay (wsV RX5 56 RX5 yX5_sizeOf wsX5_sizeOf) := goodIn_app (goodIn_of _ (by decide +kernel)) ggX5_lay_X5_sizeOf
theorem dX5_lay_0 : decode cX5_lay 0 = .ok (.aload_n 0, 1) := by decide +kernel
theorem dX5_lay_1 : decode cX5_lay 1 = .ok (.iload_n 3, 1) := by decide +kernel
theorem dX5_lay_2 : decode cX5_lay 2 = .ok (.invokevirtual 49, 3) := by decide +kernel
theorem dX5_lay_5 : decode cX5_lay 5 = .ok (.ifCond .eq 35, 3) := by decide +kernel
theorem dX5_lay_8 : decode cX5_lay 8 = .ok (.iload_n 2, 1) := by decide +kernel
theorem dX5_lay_9 : decode cX5_lay 9 = .ok (.ifCond .lt 31, 3) := by decide +kernel
theorem dX5_lay_12 : decode cX5_lay 12 = .ok (.iload_n 2, 1) := by decide +kernel
theorem dX5_lay_13 : decode cX5_lay 13 = .ok (.aload_n 0, 1) := by decide +kernel
theorem dX5_lay_14 : decode cX5_lay 14 = .ok (.iload_n 1, 1) := by decide +kernel
theorem dX5_lay_15 : decode cX5_lay 15 = .ok (.invokevirtual 56, 3) := by decide +kernel
theorem dX5_lay_18 : decode cX5_lay 18 = .ok (.if_icmp .ge 22, 3) := by decide +kernel
theorem dX5_lay_21 : decode cX5_lay 21 = .ok (.aload_n 0, 1) := by decide +kernel
theorem dX5_lay_22 : decode cX5_lay 22 = .ok (.getfield 27, 3) := by decide +kernel
theorem dX5_lay_25 : decode cX5_lay 25 = .ok (.iload_n 1, 1) := by decide +kernel
theorem dX5_lay_26 : decode cX5_lay 26 = .ok (.bipush 6, 2) := by decide +kernel
theorem dX5_lay_28 : decode cX5_lay 28 = .ok (.imul, 1) := by decide +kernel
theorem dX5_lay_29 : decode cX5_lay 29 = .ok (.iload_n 2, 1) := by decide +kernel
theorem dX5_lay_30 : decode cX5_lay 30 = .ok (.iadd, 1) := by decide +kernel
theorem dX5_lay_31 : decode cX5_lay 31 = .ok (.iload_n 3, 1) := by decide +kernel
theorem dX5_lay_32 : decode cX5_lay 32 = .ok (.iastore, 1) := by decide +kernel
theorem dX5_lay_33 : decode cX5_lay 33 = .ok (.aload_n 0, 1) := by decide +kernel
theorem dX5_lay_34 : decode cX5_lay 34 = .ok (.getfield 15, 3) := by decide +kernel
theorem dX5_lay_37 : decode cX5_lay 37 = .ok (.iload_n 3, 1) := by decide +kernel
theorem dX5_lay_38 : decode cX5_lay 38 = .ok (.iload_n 2, 1) := by decide +kernel
theorem dX5_lay_39 : decode cX5_lay 39 = .ok (.iastore, 1) := by decide +kernel
theorem dX5_lay_40 : decode cX5_lay 40 = .ok (.return_, 1) := by decide +kernel
set_option maxRecDepth 20000 in
theorem ggX5_exchange_X5_personAt : GoodIn wsX5_exchange wsX5_personAt := goodIn_r _ [5, 6, 7, 8, 9, 4, 10, 11, 22, 23, 24, 25, 26, 27, 28, 29, 30, 31] (by decide +kernel) (by decide +kernel)
set_option maxRecDepth 20000 in
theorem gX5_exchange_X5_personAt : GoodIn wsX5_exchange (wsV RX5 104 RX5 yX5_personAt wsX5_personAt) := goodIn_app (goodIn_of _ (by decide +kernel)) ggX5_exchange_X5_personAt
set_option maxRecDepth 20000 in
theorem ggX5_exchange_X5_lay : GoodIn wsX5_exchange wsX5_lay := goodIn_r _ [15, 6, 16, 17, 18, 19, 4, 20, 21, 7, 8, 9, 10, 11, 22, 23, 24, 25, 26, 27, 28, 29, 30, 31] (by decide +kernel) (by decide +kernel)
set_option maxRecDepth 20000 in
theorem gX5_exchange_X5_lay : GoodIn wsX5_exchange (wsV RX5 69 RX5 yX5_lay wsX5_lay) := goodIn_app (goodIn_of _ (by decide +kernel)) ggX5_exchange_X5_lay
theorem dX5_exchange_0 : decode cX5_exchange 0 = .ok (.aload_n 0, 1) := by decide +kernel
theorem dX5_exchange_1 : decode cX5_exchange 1 = .ok (.iload_n 1, 1) := by decide +kernel
theorem dX5_exchange_2 : decode cX5_exchange 2 = .ok (.iload_n 2, 1) := by decide +kernel
theorem dX5_exchange_3 : decode cX5_exchange 3 = .ok (.invokevirtual 104, 3) := by decide +kernel
theorem dX5_exchange_6 : decode cX5_exchange 6 = .ok (.istore_n 3, 1) := by decide +kernel
theorem dX5_exchange_7 : decode cX5_exchange 7 = .ok (.aload_n 0, 1) := by decide +kernel
theorem dX5_exchange_8 : decode cX5_exchange 8 = .ok (.iload_n 1, 1) := by decide +kernel
theorem dX5_exchange_9 : decode cX5_exchange 9 = .ok (.iload_n 2, 1) := by decide +kernel
theorem dX5_exchange_10 : decode cX5_exchange 10 = .ok (.iconst 1, 1) := by decide +kernel
theorem dX5_exchange_11 : decode cX5_exchange 11 = .ok (.iadd, 1) := by decide +kernel
theorem dX5_exchange_12 : decode cX5_exchange 12 = .ok (.invokevirtual 104, 3) := by decide +kernel
theorem dX5_exchange_15 : decode cX5_exchange 15 = .ok (.istore 4, 2) := by decide +kernel
theorem dX5_exchange_17 : decode cX5_exchange 17 = .ok (.iload_n 3, 1) := by decide +kernel
theorem dX5_exchange_18 : decode cX5_exchange 18 = .ok (.iconst (-1), 1) := by decide +kernel
theorem dX5_exchange_19 : decode cX5_exchange 19 = .ok (.if_icmp .eq 26, 3) := by decide +kernel
theorem dX5_exchange_22 : decode cX5_exchange 22 = .ok (.iload 4, 2) := by decide +kernel
theorem dX5_exchange_24 : decode cX5_exchange 24 = .ok (.iconst (-1), 1) := by decide +kernel
theorem dX5_exchange_25 : decode cX5_exchange 25 = .ok (.if_icmp .eq 20, 3) := by decide +kernel
theorem dX5_exchange_28 : decode cX5_exchange 28 = .ok (.aload_n 0, 1) := by decide +kernel
theorem dX5_exchange_29 : decode cX5_exchange 29 = .ok (.iload_n 1, 1) := by decide +kernel
theorem dX5_exchange_30 : decode cX5_exchange 30 = .ok (.iload_n 2, 1) := by decide +kernel
theorem dX5_exchange_31 : decode cX5_exchange 31 = .ok (.iload 4, 2) := by decide +kernel
theorem dX5_exchange_33 : decode cX5_exchange 33 = .ok (.invokevirtual 69, 3) := by decide +kernel
theorem dX5_exchange_36 : decode cX5_exchange 36 = .ok (.aload_n 0, 1) := by decide +kernel
theorem dX5_exchange_37 : decode cX5_exchange 37 = .ok (.iload_n 1, 1) := by decide +kernel
theorem dX5_exchange_38 : decode cX5_exchange 38 = .ok (.iload_n 2, 1) := by decide +kernel
theorem dX5_exchange_39 : decode cX5_exchange 39 = .ok (.iconst 1, 1) := by decide +kernel
theorem dX5_exchange_40 : decode cX5_exchange 40 = .ok (.iadd, 1) := by decide +kernel
theorem dX5_exchange_41 : decode cX5_exchange 41 = .ok (.iload_n 3, 1) := by decide +kernel
theorem dX5_exchange_42 : decode cX5_exchange 42 = .ok (.invokevirtual 69, 3) := by decide +kernel
theorem dX5_exchange_45 : decode cX5_exchange 45 = .ok (.return_, 1) := by decide +kernel
theorem dX5_couplesWith_0 : decode cX5_couplesWith 0 = .ok (.iconst 0, 1) := by decide +kernel
theorem dX5_couplesWith_1 : decode cX5_couplesWith 1 = .ok (.istore_n 2, 1) := by decide +kernel
theorem dX5_couplesWith_2 : decode cX5_couplesWith 2 = .ok (.iconst 0, 1) := by decide +kernel
theorem dX5_couplesWith_3 : decode cX5_couplesWith 3 = .ok (.istore_n 3, 1) := by decide +kernel
theorem dX5_couplesWith_4 : decode cX5_couplesWith 4 = .ok (.iload_n 3, 1) := by decide +kernel
theorem dX5_couplesWith_5 : decode cX5_couplesWith 5 = .ok (.aload_n 0, 1) := by decide +kernel
theorem dX5_couplesWith_6 : decode cX5_couplesWith 6 = .ok (.getfield 43, 3) := by decide +kernel
theorem dX5_couplesWith_9 : decode cX5_couplesWith 9 = .ok (.if_icmp .ge 32, 3) := by decide +kernel
theorem dX5_couplesWith_12 : decode cX5_couplesWith 12 = .ok (.aload_n 0, 1) := by decide +kernel
theorem dX5_couplesWith_13 : decode cX5_couplesWith 13 = .ok (.getfield 21, 3) := by decide +kernel
theorem dX5_couplesWith_16 : decode cX5_couplesWith 16 = .ok (.iload_n 3, 1) := by decide +kernel
theorem dX5_couplesWith_17 : decode cX5_couplesWith 17 = .ok (.iaload, 1) := by decide +kernel
theorem dX5_couplesWith_18 : decode cX5_couplesWith 18 = .ok (.iload_n 1, 1) := by decide +kernel
theorem dX5_couplesWith_19 : decode cX5_couplesWith 19 = .ok (.if_icmp .eq 13, 3) := by decide +kernel
theorem dX5_couplesWith_22 : decode cX5_couplesWith 22 = .ok (.aload_n 0, 1) := by decide +kernel
theorem dX5_couplesWith_23 : decode cX5_couplesWith 23 = .ok (.getfield 24, 3) := by decide +kernel
theorem dX5_couplesWith_26 : decode cX5_couplesWith 26 = .ok (.iload_n 3, 1) := by decide +kernel
theorem dX5_couplesWith_27 : decode cX5_couplesWith 27 = .ok (.iaload, 1) := by decide +kernel
theorem dX5_couplesWith_28 : decode cX5_couplesWith 28 = .ok (.iload_n 1, 1) := by decide +kernel
theorem dX5_couplesWith_29 : decode cX5_couplesWith 29 = .ok (.if_icmp .ne 6, 3) := by decide +kernel
theorem dX5_couplesWith_32 : decode cX5_couplesWith 32 = .ok (.iinc 2 1, 3) := by decide +kernel
theorem dX5_couplesWith_35 : decode cX5_couplesWith 35 = .ok (.iinc 3 1, 3) := by decide +kernel
theorem dX5_couplesWith_38 : decode cX5_couplesWith 38 = .ok (.goto (-34), 3) := by decide +kernel
theorem dX5_couplesWith_41 : decode cX5_couplesWith 41 = .ok (.iload_n 2, 1) := by decide +kernel
theorem dX5_couplesWith_42 : decode cX5_couplesWith 42 = .ok (.ireturn, 1) := by decide +kernel
theorem dX5_childrenOf_0 : decode cX5_childrenOf 0 = .ok (.iconst 0, 1) := by decide +kernel
theorem dX5_childrenOf_1 : decode cX5_childrenOf 1 = .ok (.istore_n 2, 1) := by decide +kernel
theorem dX5_childrenOf_2 : decode cX5_childrenOf 2 = .ok (.iconst 0, 1) := by decide +kernel
theorem dX5_childrenOf_3 : decode cX5_childrenOf 3 = .ok (.istore_n 3, 1) := by decide +kernel
theorem dX5_childrenOf_4 : decode cX5_childrenOf 4 = .ok (.iload_n 3, 1) := by decide +kernel
theorem dX5_childrenOf_5 : decode cX5_childrenOf 5 = .ok (.aload_n 0, 1) := by decide +kernel
theorem dX5_childrenOf_6 : decode cX5_childrenOf 6 = .ok (.getfield 39, 3) := by decide +kernel
theorem dX5_childrenOf_9 : decode cX5_childrenOf 9 = .ok (.if_icmp .ge 22, 3) := by decide +kernel
theorem dX5_childrenOf_12 : decode cX5_childrenOf 12 = .ok (.aload_n 0, 1) := by decide +kernel
theorem dX5_childrenOf_13 : decode cX5_childrenOf 13 = .ok (.getfield 18, 3) := by decide +kernel
theorem dX5_childrenOf_16 : decode cX5_childrenOf 16 = .ok (.iload_n 3, 1) := by decide +kernel
theorem dX5_childrenOf_17 : decode cX5_childrenOf 17 = .ok (.iaload, 1) := by decide +kernel
theorem dX5_childrenOf_18 : decode cX5_childrenOf 18 = .ok (.iload_n 1, 1) := by decide +kernel
theorem dX5_childrenOf_19 : decode cX5_childrenOf 19 = .ok (.if_icmp .ne 6, 3) := by decide +kernel
theorem dX5_childrenOf_22 : decode cX5_childrenOf 22 = .ok (.iinc 2 1, 3) := by decide +kernel
theorem dX5_childrenOf_25 : decode cX5_childrenOf 25 = .ok (.iinc 3 1, 3) := by decide +kernel
theorem dX5_childrenOf_28 : decode cX5_childrenOf 28 = .ok (.goto (-24), 3) := by decide +kernel
theorem dX5_childrenOf_31 : decode cX5_childrenOf 31 = .ok (.iload_n 2, 1) := by decide +kernel
theorem dX5_childrenOf_32 : decode cX5_childrenOf 32 = .ok (.ireturn, 1) := by decide +kernel
set_option maxRecDepth 20000 in
theorem ggX5_childrenWith_X5_childrenOf : GoodIn wsX5_childrenWith wsX5_childrenOf := goodIn_r _ [8, 9, 10, 11, 12, 13, 14, 15, 16, 17, 18, 19, 20] (by decide +kernel) (by decide +kernel)
set_option maxRecDepth 20000 in
theorem gX5_childrenWith_X5_childrenOf : GoodIn wsX5_childrenWith (wsV RX5 107 RX5 yX5_childrenOf wsX5_childrenOf) := goodIn_app (goodIn_of _ (by decide +kernel)) ggX5_childrenWith_X5_childrenOf
theorem dX5_childrenWith_0 : decode cX5_childrenWith 0 = .ok (.iconst 0, 1) := by decide +kernel
theorem dX5_childrenWith_1 : decode cX5_childrenWith 1 = .ok (.istore_n 2, 1) := by decide +kernel
theorem dX5_childrenWith_2 : decode cX5_childrenWith 2 = .ok (.iconst 0, 1) := by decide +kernel
theorem dX5_childrenWith_3 : decode cX5_childrenWith 3 = .ok (.istore_n 3, 1) := by decide +kernel
theorem dX5_childrenWith_4 : decode cX5_childrenWith 4 = .ok (.iload_n 3, 1) := by decide +kernel
theorem dX5_childrenWith_5 : decode cX5_childrenWith 5 = .ok (.aload_n 0, 1) := by decide +kernel
theorem dX5_childrenWith_6 : decode cX5_childrenWith 6 = .ok (.getfield 43, 3) := by decide +kernel
theorem dX5_childrenWith_9 : decode cX5_childrenWith 9 = .ok (.if_icmp .ge 37, 3) := by decide +kernel
theorem dX5_childrenWith_12 : decode cX5_childrenWith 12 = .ok (.aload_n 0, 1) := by decide +kernel
theorem dX5_childrenWith_13 : decode cX5_childrenWith 13 = .ok (.getfield 21, 3) := by decide +kernel
theorem dX5_childrenWith_16 : decode cX5_childrenWith 16 = .ok (.iload_n 3, 1) := by decide +kernel
theorem dX5_childrenWith_17 : decode cX5_childrenWith 17 = .ok (.iaload, 1) := by decide +kernel
theorem dX5_childrenWith_18 : decode cX5_childrenWith 18 = .ok (.iload_n 1, 1) := by decide +kernel
theorem dX5_childrenWith_19 : decode cX5_childrenWith 19 = .ok (.if_icmp .eq 13, 3) := by decide +kernel
theorem dX5_childrenWith_22 : decode cX5_childrenWith 22 = .ok (.aload_n 0, 1) := by decide +kernel
theorem dX5_childrenWith_23 : decode cX5_childrenWith 23 = .ok (.getfield 24, 3) := by decide +kernel
theorem dX5_childrenWith_26 : decode cX5_childrenWith 26 = .ok (.iload_n 3, 1) := by decide +kernel
theorem dX5_childrenWith_27 : decode cX5_childrenWith 27 = .ok (.iaload, 1) := by decide +kernel
theorem dX5_childrenWith_28 : decode cX5_childrenWith 28 = .ok (.iload_n 1, 1) := by decide +kernel
theorem dX5_childrenWith_29 : decode cX5_childrenWith 29 = .ok (.if_icmp .ne 11, 3) := by decide +kernel
theorem dX5_childrenWith_32 : decode cX5_childrenWith 32 = .ok (.iload_n 2, 1) := by decide +kernel
theorem dX5_childrenWith_33 : decode cX5_childrenWith 33 = .ok (.aload_n 0, 1) := by decide +kernel
theorem dX5_childrenWith_34 : decode cX5_childrenWith 34 = .ok (.iload_n 3, 1) := by decide +kernel
theorem dX5_childrenWith_35 : decode cX5_childrenWith 35 = .ok (.invokevirtual 107, 3) := by decide +kernel
theorem dX5_childrenWith_38 : decode cX5_childrenWith 38 = .ok (.iadd, 1) := by decide +kernel
theorem dX5_childrenWith_39 : decode cX5_childrenWith 39 = .ok (.istore_n 2, 1) := by decide +kernel
theorem dX5_childrenWith_40 : decode cX5_childrenWith 40 = .ok (.iinc 3 1, 3) := by decide +kernel
theorem dX5_childrenWith_43 : decode cX5_childrenWith 43 = .ok (.goto (-39), 3) := by decide +kernel
theorem dX5_childrenWith_46 : decode cX5_childrenWith 46 = .ok (.iload_n 2, 1) := by decide +kernel
theorem dX5_childrenWith_47 : decode cX5_childrenWith 47 = .ok (.ireturn, 1) := by decide +kernel
set_option maxRecDepth 20000 in
theorem ggX5_lines_X5_childrenOf : GoodIn wsX5_lines wsX5_childrenOf := goodIn_r _ [6, 1, 7, 8, 9, 10, 11, 12, 13, 14, 15, 16, 17] (by decide +kernel) (by decide +kernel)
set_option maxRecDepth 20000 in
theorem gX5_lines_X5_childrenOf : GoodIn wsX5_lines (wsV RX5 107 RX5 yX5_childrenOf wsX5_childrenOf) := goodIn_app (goodIn_of _ (by decide +kernel)) ggX5_lines_X5_childrenOf
theorem dX5_lines_0 : decode cX5_lines 0 = .ok (.aload_n 0, 1) := by decide +kernel
theorem dX5_lines_1 : decode cX5_lines 1 = .ok (.getfield 39, 3) := by decide +kernel
theorem dX5_lines_4 : decode cX5_lines 4 = .ok (.aload_n 0, 1) := by decide +kernel
theorem dX5_lines_5 : decode cX5_lines 5 = .ok (.iconst (-1), 1) := by decide +kernel
theorem dX5_lines_6 : decode cX5_lines 6 = .ok (.invokevirtual 107, 3) := by decide +kernel
theorem dX5_lines_9 : decode cX5_lines 9 = .ok (.isub, 1) := by decide +kernel
theorem dX5_lines_10 : decode cX5_lines 10 = .ok (.ireturn, 1) := by decide +kernel
set_option maxRecDepth 20000 in
theorem ggX5_bentLines_X5_middleAbove : GoodIn wsX5_bentLines wsX5_middleAbove := goodIn_r _ [8, 9, 10, 11, 7, 12, 2, 13, 14, 15, 16, 1, 17, 18, 19, 20, 21, 22, 23, 24, 25, 26, 27, 28, 29, 30, 31, 3, 32, 33, 34, 35, 36, 37, 38, 39, 40, 41] (by decide +kernel) (by decide +kernel)
set_option maxRecDepth 20000 in
theorem gX5_bentLines_X5_middleAbove : GoodIn wsX5_bentLines (wsV RX5 110 RX5 yX5_middleAbove wsX5_middleAbove) := goodIn_app (goodIn_of _ (by decide +kernel)) ggX5_bentLines_X5_middleAbove
theorem dX5_bentLines_0 : decode cX5_bentLines 0 = .ok (.iconst 0, 1) := by decide +kernel
theorem dX5_bentLines_1 : decode cX5_bentLines 1 = .ok (.istore_n 1, 1) := by decide +kernel
theorem dX5_bentLines_2 : decode cX5_bentLines 2 = .ok (.iconst 0, 1) := by decide +kernel
theorem dX5_bentLines_3 : decode cX5_bentLines 3 = .ok (.istore_n 2, 1) := by decide +kernel
theorem dX5_bentLines_4 : decode cX5_bentLines 4 = .ok (.iload_n 2, 1) := by decide +kernel
theorem dX5_bentLines_5 : decode cX5_bentLines 5 = .ok (.aload_n 0, 1) := by decide +kernel
theorem dX5_bentLines_6 : decode cX5_bentLines 6 = .ok (.getfield 39, 3) := by decide +kernel
theorem dX5_bentLines_9 : decode cX5_bentLines 9 = .ok (.if_icmp .ge 38, 3) := by decide +kernel
theorem dX5_bentLines_12 : decode cX5_bentLines 12 = .ok (.aload_n 0, 1) := by decide +kernel
theorem dX5_bentLines_13 : decode cX5_bentLines 13 = .ok (.getfield 18, 3) := by decide +kernel
theorem dX5_bentLines_16 : decode cX5_bentLines 16 = .ok (.iload_n 2, 1) := by decide +kernel
theorem dX5_bentLines_17 : decode cX5_bentLines 17 = .ok (.iaload, 1) := by decide +kernel
theorem dX5_bentLines_18 : decode cX5_bentLines 18 = .ok (.iconst (-1), 1) := by decide +kernel
theorem dX5_bentLines_19 : decode cX5_bentLines 19 = .ok (.if_icmp .eq 22, 3) := by decide +kernel
theorem dX5_bentLines_22 : decode cX5_bentLines 22 = .ok (.aload_n 0, 1) := by decide +kernel
theorem dX5_bentLines_23 : decode cX5_bentLines 23 = .ok (.iload_n 2, 1) := by decide +kernel
theorem dX5_bentLines_24 : decode cX5_bentLines 24 = .ok (.invokevirtual 110, 3) := by decide +kernel
theorem dX5_bentLines_27 : decode cX5_bentLines 27 = .ok (.iconst 2, 1) := by decide +kernel
theorem dX5_bentLines_28 : decode cX5_bentLines 28 = .ok (.aload_n 0, 1) := by decide +kernel
theorem dX5_bentLines_29 : decode cX5_bentLines 29 = .ok (.getfield 15, 3) := by decide +kernel
theorem dX5_bentLines_32 : decode cX5_bentLines 32 = .ok (.iload_n 2, 1) := by decide +kernel
theorem dX5_bentLines_33 : decode cX5_bentLines 33 = .ok (.iaload, 1) := by decide +kernel
theorem dX5_bentLines_34 : decode cX5_bentLines 34 = .ok (.imul, 1) := by decide +kernel
theorem dX5_bentLines_35 : decode cX5_bentLines 35 = .ok (.if_icmp .eq 6, 3) := by decide +kernel
theorem dX5_bentLines_38 : decode cX5_bentLines 38 = .ok (.iinc 1 1, 3) := by decide +kernel
theorem dX5_bentLines_41 : decode cX5_bentLines 41 = .ok (.iinc 2 1, 3) := by decide +kernel
theorem dX5_bentLines_44 : decode cX5_bentLines 44 = .ok (.goto (-40), 3) := by decide +kernel
theorem dX5_bentLines_47 : decode cX5_bentLines 47 = .ok (.iload_n 1, 1) := by decide +kernel
theorem dX5_bentLines_48 : decode cX5_bentLines 48 = .ok (.ireturn, 1) := by decide +kernel
set_option maxRecDepth 20000 in
theorem ggX5_doubles_X5_isDouble : GoodIn wsX5_doubles wsX5_isDouble := goodIn_r _ [6, 7, 8, 9, 5, 10, 11, 12, 13, 14, 15, 16, 17, 18, 19, 20, 21, 22, 23] (by decide +kernel) (by decide +kernel)
set_option maxRecDepth 20000 in
theorem gX5_doubles_X5_isDouble : GoodIn wsX5_doubles (wsV RX5 98 RX5 yX5_isDouble wsX5_isDouble) := goodIn_app (goodIn_of _ (by decide +kernel)) ggX5_doubles_X5_isDouble
theorem dX5_doubles_0 : decode cX5_doubles 0 = .ok (.iconst 0, 1) := by decide +kernel
theorem dX5_doubles_1 : decode cX5_doubles 1 = .ok (.istore_n 1, 1) := by decide +kernel
theorem dX5_doubles_2 : decode cX5_doubles 2 = .ok (.iconst 0, 1) := by decide +kernel
theorem dX5_doubles_3 : decode cX5_doubles 3 = .ok (.istore_n 2, 1) := by decide +kernel
theorem dX5_doubles_4 : decode cX5_doubles 4 = .ok (.iload_n 2, 1) := by decide +kernel
theorem dX5_doubles_5 : decode cX5_doubles 5 = .ok (.aload_n 0, 1) := by decide +kernel
theorem dX5_doubles_6 : decode cX5_doubles 6 = .ok (.getfield 39, 3) := by decide +kernel
theorem dX5_doubles_9 : decode cX5_doubles 9 = .ok (.if_icmp .ge 20, 3) := by decide +kernel
theorem dX5_doubles_12 : decode cX5_doubles 12 = .ok (.aload_n 0, 1) := by decide +kernel
theorem dX5_doubles_13 : decode cX5_doubles 13 = .ok (.iload_n 2, 1) := by decide +kernel
theorem dX5_doubles_14 : decode cX5_doubles 14 = .ok (.invokevirtual 98, 3) := by decide +kernel
theorem dX5_doubles_17 : decode cX5_doubles 17 = .ok (.ifCond .eq 6, 3) := by decide +kernel
theorem dX5_doubles_20 : decode cX5_doubles 20 = .ok (.iinc 1 1, 3) := by decide +kernel
theorem dX5_doubles_23 : decode cX5_doubles 23 = .ok (.iinc 2 1, 3) := by decide +kernel
theorem dX5_doubles_26 : decode cX5_doubles 26 = .ok (.goto (-22), 3) := by decide +kernel
theorem dX5_doubles_29 : decode cX5_doubles 29 = .ok (.iload_n 1, 1) := by decide +kernel
theorem dX5_doubles_30 : decode cX5_doubles 30 = .ok (.ireturn, 1) := by decide +kernel
theorem dX6_init_0 : decode cX6_init 0 = .ok (.aload_n 0, 1) := by decide +kernel
theorem dX6_init_1 : decode cX6_init 1 = .ok (.invokespecial 3, 3) := by decide +kernel
theorem dX6_init_4 : decode cX6_init 4 = .ok (.aload_n 0, 1) := by decide +kernel
theorem dX6_init_5 : decode cX6_init 5 = .ok (.bipush 60, 2) := by decide +kernel
theorem dX6_init_7 : decode cX6_init 7 = .ok (.newarray .int, 2) := by decide +kernel
theorem dX6_init_9 : decode cX6_init 9 = .ok (.putfield 9, 3) := by decide +kernel
theorem dX6_init_12 : decode cX6_init 12 = .ok (.return_, 1) := by decide +kernel
set_option maxRecDepth 20000 in
theorem ggX7_init_X5_init : GoodIn wsX7_init wsX5_init := goodIn_r _ [32, 33, 2, 3, 34, 35, 36, 37, 38, 39, 40, 41, 76, 77, 78, 79, 80, 81, 82, 83, 84, 85] (by decide +kernel) (by decide +kernel)
set_option maxRecDepth 20000 in
theorem gX7_init_X5_init_n9 : GoodIn wsX7_init (wsX5_init) := ggX7_init_X5_init
set_option maxRecDepth 20000 in
theorem ggX7_init_X4_init : GoodIn wsX7_init wsX4_init := goodIn_r _ [44, 45, 2, 3, 46, 47, 5, 6, 31, 32, 33, 34, 35, 36, 37, 38, 39, 40, 41, 94, 95, 96, 76, 77, 78, 79, 80, 81, 82, 83, 84, 85] (by decide +kernel) (by decide +kernel)
set_option maxRecDepth 20000 in
theorem gX7_init_X4_init : GoodIn wsX7_init (wsX4_init) := ggX7_init_X4_init
set_option maxRecDepth 20000 in
theorem ggX7_init_X6_init : GoodIn wsX7_init wsX6_init := goodIn_r _ [49, 50, 2, 3, 34, 51, 97, 98, 99, 100, 101, 102] (by decide +kernel) (by decide +kernel)
set_option maxRecDepth 20000 in
theorem gX7_init_X6_init_n33 : GoodIn wsX7_init (wsX6_init) := ggX7_init_X6_init
set_option maxRecDepth 20000 in
theorem ggX7_init_X2_init : GoodIn wsX7_init wsX2_init := goodIn_r _ [53, 54, 2, 3, 34, 55, 56, 103, 104, 105] (by decide +kernel) (by decide +kernel)
set_option maxRecDepth 20000 in
theorem gX7_init_X2_init_n40 : GoodIn wsX7_init (wsX2_init) := ggX7_init_X2_init
set_option maxRecDepth 20000 in
theorem ggX7_init_X1_init : GoodIn wsX7_init wsX1_init := goodIn_r _ [58, 59, 2, 3, 34, 60, 61, 106, 107] (by decide +kernel) (by decide +kernel)
set_option maxRecDepth 20000 in
theorem gX7_init_X1_init_n47 : GoodIn wsX7_init (wsX1_init) := ggX7_init_X1_init
set_option maxRecDepth 20000 in
theorem ggX7_init_X3_init : GoodIn wsX7_init wsX3_init := goodIn_r _ [63, 64, 2, 3, 34, 65, 66, 67, 68, 69, 70, 71, 72, 73, 74, 75, 108, 109, 110, 111, 112, 113, 114, 115, 116, 117, 118, 119, 120] (by decide +kernel) (by decide +kernel)
set_option maxRecDepth 20000 in
theorem gX7_init_X3_init_n54 : GoodIn wsX7_init (wsX3_init) := ggX7_init_X3_init
theorem dX7_init_0 : decode cX7_init 0 = .ok (.aload_n 0, 1) := by decide +kernel
theorem dX7_init_1 : decode cX7_init 1 = .ok (.invokespecial 1, 3) := by decide +kernel
theorem dX7_init_4 : decode cX7_init 4 = .ok (.aload_n 0, 1) := by decide +kernel
theorem dX7_init_5 : decode cX7_init 5 = .ok (.new 7, 3) := by decide +kernel
theorem dX7_init_8 : decode cX7_init 8 = .ok (.dup, 1) := by decide +kernel
theorem dX7_init_9 : decode cX7_init 9 = .ok (.invokespecial 9, 3) := by decide +kernel
theorem dX7_init_12 : decode cX7_init 12 = .ok (.putfield 10, 3) := by decide +kernel
theorem dX7_init_15 : decode cX7_init 15 = .ok (.aload_n 0, 1) := by decide +kernel
theorem dX7_init_16 : decode cX7_init 16 = .ok (.iconst 2, 1) := by decide +kernel
theorem dX7_init_17 : decode cX7_init 17 = .ok (.anewarray 7, 3) := by decide +kernel
theorem dX7_init_20 : decode cX7_init 20 = .ok (.putfield 16, 3) := by decide +kernel
theorem dX7_init_23 : decode cX7_init 23 = .ok (.aload_n 0, 1) := by decide +kernel
theorem dX7_init_24 : decode cX7_init 24 = .ok (.iconst 2, 1) := by decide +kernel
theorem dX7_init_25 : decode cX7_init 25 = .ok (.newarray .boolean, 2) := by decide +kernel
theorem dX7_init_27 : decode cX7_init 27 = .ok (.putfield 20, 3) := by decide +kernel
theorem dX7_init_30 : decode cX7_init 30 = .ok (.aload_n 0, 1) := by decide +kernel
theorem dX7_init_31 : decode cX7_init 31 = .ok (.new 24, 3) := by decide +kernel
theorem dX7_init_34 : decode cX7_init 34 = .ok (.dup, 1) := by decide +kernel
theorem dX7_init_35 : decode cX7_init 35 = .ok (.invokespecial 26, 3) := by decide +kernel
theorem dX7_init_38 : decode cX7_init 38 = .ok (.putfield 27, 3) := by decide +kernel
theorem dX7_init_41 : decode cX7_init 41 = .ok (.aload_n 0, 1) := by decide +kernel
theorem dX7_init_42 : decode cX7_init 42 = .ok (.new 31, 3) := by decide +kernel
theorem dX7_init_45 : decode cX7_init 45 = .ok (.dup, 1) := by decide +kernel
theorem dX7_init_46 : decode cX7_init 46 = .ok (.invokespecial 33, 3) := by decide +kernel
theorem dX7_init_49 : decode cX7_init 49 = .ok (.putfield 34, 3) := by decide +kernel
theorem dX7_init_52 : decode cX7_init 52 = .ok (.aload_n 0, 1) := by decide +kernel
theorem dX7_init_53 : decode cX7_init 53 = .ok (.new 38, 3) := by decide +kernel
theorem dX7_init_56 : decode cX7_init 56 = .ok (.dup, 1) := by decide +kernel
theorem dX7_init_57 : decode cX7_init 57 = .ok (.invokespecial 40, 3) := by decide +kernel
theorem dX7_init_60 : decode cX7_init 60 = .ok (.putfield 41, 3) := by decide +kernel
theorem dX7_init_63 : decode cX7_init 63 = .ok (.aload_n 0, 1) := by decide +kernel
theorem dX7_init_64 : decode cX7_init 64 = .ok (.new 45, 3) := by decide +kernel
theorem dX7_init_67 : decode cX7_init 67 = .ok (.dup, 1) := by decide +kernel
theorem dX7_init_68 : decode cX7_init 68 = .ok (.invokespecial 47, 3) := by decide +kernel
theorem dX7_init_71 : decode cX7_init 71 = .ok (.putfield 48, 3) := by decide +kernel
theorem dX7_init_74 : decode cX7_init 74 = .ok (.aload_n 0, 1) := by decide +kernel
theorem dX7_init_75 : decode cX7_init 75 = .ok (.new 52, 3) := by decide +kernel
theorem dX7_init_78 : decode cX7_init 78 = .ok (.dup, 1) := by decide +kernel
theorem dX7_init_79 : decode cX7_init 79 = .ok (.invokespecial 54, 3) := by decide +kernel
theorem dX7_init_82 : decode cX7_init 82 = .ok (.putfield 55, 3) := by decide +kernel
theorem dX7_init_85 : decode cX7_init 85 = .ok (.iconst 0, 1) := by decide +kernel
theorem dX7_init_86 : decode cX7_init 86 = .ok (.istore_n 1, 1) := by decide +kernel
theorem dX7_init_87 : decode cX7_init 87 = .ok (.iload_n 1, 1) := by decide +kernel
theorem dX7_init_88 : decode cX7_init 88 = .ok (.iconst 2, 1) := by decide +kernel
theorem dX7_init_89 : decode cX7_init 89 = .ok (.if_icmp .ge 22, 3) := by decide +kernel
theorem dX7_init_92 : decode cX7_init 92 = .ok (.aload_n 0, 1) := by decide +kernel
theorem dX7_init_93 : decode cX7_init 93 = .ok (.getfield 16, 3) := by decide +kernel
theorem dX7_init_96 : decode cX7_init 96 = .ok (.iload_n 1, 1) := by decide +kernel
theorem dX7_init_97 : decode cX7_init 97 = .ok (.new 7, 3) := by decide +kernel
theorem dX7_init_100 : decode cX7_init 100 = .ok (.dup, 1) := by decide +kernel
theorem dX7_init_101 : decode cX7_init 101 = .ok (.invokespecial 9, 3) := by decide +kernel
theorem dX7_init_104 : decode cX7_init 104 = .ok (.aastore, 1) := by decide +kernel
theorem dX7_init_105 : decode cX7_init 105 = .ok (.iinc 1 1, 3) := by decide +kernel
theorem dX7_init_108 : decode cX7_init 108 = .ok (.goto (-21), 3) := by decide +kernel
theorem dX7_init_111 : decode cX7_init 111 = .ok (.return_, 1) := by decide +kernel
set_option maxRecDepth 20000 in
theorem ggX7_person_X7_isRow : GoodIn wsX7_person wsX7_isRow := goodIn_r _ [8] (by decide +kernel) (by decide +kernel)
set_option maxRecDepth 20000 in
theorem gX7_person_X7_isRow : GoodIn wsX7_person (va_wsS RX7 59 yX7_isRow wsX7_isRow) := goodIn_app (goodIn_of _ (by decide +kernel)) ggX7_person_X7_isRow
set_option maxRecDepth 20000 in
theorem ggX7_person_X4_push : GoodIn wsX7_person wsX4_push := goodIn_r _ [13, 14, 15, 16, 17, 18, 19, 20, 21, 22, 23, 24, 25, 26, 27, 28, 29, 30, 31, 32, 33, 34, 35, 60, 61, 62, 63, 64, 65, 66, 67, 68, 69, 70, 71, 72] (by decide +kernel) (by decide +kernel)
set_option maxRecDepth 20000 in
theorem gX7_person_X4_push : GoodIn wsX7_person (wsV RX7 70 RX4 yX4_push wsX4_push) := goodIn_app (goodIn_of _ (by decide +kernel)) ggX7_person_X4_push
set_option maxRecDepth 20000 in
theorem ggX7_person_X5_addPerson : GoodIn wsX7_person wsX5_addPerson := goodIn_r _ [39, 33, 35, 32, 22, 28, 40, 41, 42, 20, 43, 44, 45, 46, 47, 31, 27, 48, 49, 50, 51, 63, 64, 65, 66, 67, 68, 69, 70, 71, 72] (by decide +kernel) (by decide +kernel)
set_option maxRecDepth 20000 in
theorem gX7_person_X5_addPerson : GoodIn wsX7_person (wsV RX7 74 RX5 yX5_addPerson wsX5_addPerson) := goodIn_app (goodIn_of _ (by decide +kernel)) ggX7_person_X5_addPerson
theorem dX7_person_0 : decode cX7_person 0 = .ok (.iload_n 1, 1) := by decide +kernel
theorem dX7_person_1 : decode cX7_person 1 = .ok (.invokestatic 59, 3) := by decide +kernel
theorem dX7_person_4 : decode cX7_person 4 = .ok (.ifCond .ne 13, 3) := by decide +kernel
theorem dX7_person_7 : decode cX7_person 7 = .ok (.new 63, 3) := by decide +kernel
theorem dX7_person_10 : decode cX7_person 10 = .ok (.dup, 1) := by decide +kernel
theorem dX7_person_11 : decode cX7_person 11 = .ok (.ldc 65, 2) := by decide +kernel
theorem dX7_person_13 : decode cX7_person 13 = .ok (.invokespecial 67, 3) := by decide +kernel
theorem dX7_person_16 : decode cX7_person 16 = .ok (.athrow, 1) := by decide +kernel
theorem dX7_person_17 : decode cX7_person 17 = .ok (.aload_n 0, 1) := by decide +kernel
theorem dX7_person_18 : decode cX7_person 18 = .ok (.getfield 27, 3) := by decide +kernel
theorem dX7_person_21 : decode cX7_person 21 = .ok (.aload_n 0, 1) := by decide +kernel
theorem dX7_person_22 : decode cX7_person 22 = .ok (.getfield 10, 3) := by decide +kernel
theorem dX7_person_25 : decode cX7_person 25 = .ok (.invokevirtual 70, 3) := by decide +kernel
theorem dX7_person_28 : decode cX7_person 28 = .ok (.aload_n 0, 1) := by decide +kernel
theorem dX7_person_29 : decode cX7_person 29 = .ok (.getfield 10, 3) := by decide +kernel
theorem dX7_person_32 : decode cX7_person 32 = .ok (.iload_n 1, 1) := by decide +kernel
theorem dX7_person_33 : decode cX7_person 33 = .ok (.iconst (-1), 1) := by decide +kernel
theorem dX7_person_34 : decode cX7_person 34 = .ok (.invokevirtual 74, 3) := by decide +kernel
theorem dX7_person_37 : decode cX7_person 37 = .ok (.ireturn, 1) := by decide +kernel
set_option maxRecDepth 20000 in
theorem ggX7_marry_X5_isPerson : GoodIn wsX7_marry wsX5_isPerson := goodIn_r _ [11, 12, 78, 79, 80, 81, 82, 83, 84, 85, 86, 87] (by decide +kernel) (by decide +kernel)
set_option maxRecDepth 20000 in
theorem gX7_marry_X5_isPerson : GoodIn wsX7_marry (wsV RX7 78 RX5 yX5_isPerson wsX5_isPerson) := goodIn_app (goodIn_of _ (by decide +kernel)) ggX7_marry_X5_isPerson
set_option maxRecDepth 20000 in
theorem ggX7_marry_X4_push : GoodIn wsX7_marry wsX4_push := goodIn_r _ [17, 18, 19, 20, 21, 22, 23, 10, 24, 25, 26, 27, 28, 29, 30, 31, 32, 33, 34, 35, 12, 36, 37, 88, 89, 90, 78, 79, 80, 81, 82, 83, 84, 85, 86, 87] (by decide +kernel) (by decide +kernel)
set_option maxRecDepth 20000 in
theorem gX7_marry_X4_push : GoodIn wsX7_marry (wsV RX7 70 RX4 yX4_push wsX4_push) := goodIn_app (goodIn_of _ (by decide +kernel)) ggX7_marry_X4_push
set_option maxRecDepth 20000 in
theorem ggX7_marry_X5_addCouple : GoodIn wsX7_marry wsX5_addCouple := goodIn_r _ [41, 37, 36, 32, 42, 43, 44, 45, 33, 46, 47, 48, 49, 50, 51, 10, 52, 53, 54, 55, 56, 25, 57, 8, 9, 11, 12, 58, 59, 60, 61, 62, 63, 64, 65, 66, 67, 68, 69, 78, 79, 80, 81, 82, 83, 84, 85, 86, 87] (by decide +kernel) (by decide +kernel)
set_option maxRecDepth 20000 in
theorem gX7_marry_X5_addCouple : GoodIn wsX7_marry (wsV RX7 88 RX5 yX5_addCouple wsX5_addCouple) := goodIn_app (goodIn_of _ (by decide +kernel)) ggX7_marry_X5_addCouple
theorem dX7_marry_0 : decode cX7_marry 0 = .ok (.aload_n 0, 1) := by decide +kernel
theorem dX7_marry_1 : decode cX7_marry 1 = .ok (.getfield 10, 3) := by decide +kernel
theorem dX7_marry_4 : decode cX7_marry 4 = .ok (.iload_n 1, 1) := by decide +kernel
theorem dX7_marry_5 : decode cX7_marry 5 = .ok (.invokevirtual 78, 3) := by decide +kernel
theorem dX7_marry_8 : decode cX7_marry 8 = .ok (.ifCond .eq 14, 3) := by decide +kernel
theorem dX7_marry_11 : decode cX7_marry 11 = .ok (.aload_n 0, 1) := by decide +kernel
theorem dX7_marry_12 : decode cX7_marry 12 = .ok (.getfield 10, 3) := by decide +kernel
theorem dX7_marry_15 : decode cX7_marry 15 = .ok (.iload_n 2, 1) := by decide +kernel
theorem dX7_marry_16 : decode cX7_marry 16 = .ok (.invokevirtual 78, 3) := by decide +kernel
theorem dX7_marry_19 : decode cX7_marry 19 = .ok (.ifCond .ne 13, 3) := by decide +kernel
theorem dX7_marry_22 : decode cX7_marry 22 = .ok (.new 63, 3) := by decide +kernel
theorem dX7_marry_25 : decode cX7_marry 25 = .ok (.dup, 1) := by decide +kernel
theorem dX7_marry_26 : decode cX7_marry 26 = .ok (.ldc 81, 2) := by decide +kernel
theorem dX7_marry_28 : decode cX7_marry 28 = .ok (.invokespecial 67, 3) := by decide +kernel
theorem dX7_marry_31 : decode cX7_marry 31 = .ok (.athrow, 1) := by decide +kernel
theorem dX7_marry_32 : decode cX7_marry 32 = .ok (.iload_n 1, 1) := by decide +kernel
theorem dX7_marry_33 : decode cX7_marry 33 = .ok (.iload_n 2, 1) := by decide +kernel
theorem dX7_marry_34 : decode cX7_marry 34 = .ok (.if_icmp .ne 13, 3) := by decide +kernel
theorem dX7_marry_37 : decode cX7_marry 37 = .ok (.new 83, 3) := by decide +kernel
theorem dX7_marry_40 : decode cX7_marry 40 = .ok (.dup, 1) := by decide +kernel
theorem dX7_marry_41 : decode cX7_marry 41 = .ok (.ldc 85, 2) := by decide +kernel
theorem dX7_marry_43 : decode cX7_marry 43 = .ok (.invokespecial 87, 3) := by decide +kernel
theorem dX7_marry_46 : decode cX7_marry 46 = .ok (.athrow, 1) := by decide +kernel
theorem dX7_marry_47 : decode cX7_marry 47 = .ok (.aload_n 0, 1) := by decide +kernel
theorem dX7_marry_48 : decode cX7_marry 48 = .ok (.getfield 27, 3) := by decide +kernel
theorem dX7_marry_51 : decode cX7_marry 51 = .ok (.aload_n 0, 1) := by decide +kernel
theorem dX7_marry_52 : decode cX7_marry 52 = .ok (.getfield 10, 3) := by decide +kernel
theorem dX7_marry_55 : decode cX7_marry 55 = .ok (.invokevirtual 70, 3) := by decide +kernel
theorem dX7_marry_58 : decode cX7_marry 58 = .ok (.aload_n 0, 1) := by decide +kernel
theorem dX7_marry_59 : decode cX7_marry 59 = .ok (.getfield 10, 3) := by decide +kernel
theorem dX7_marry_62 : decode cX7_marry 62 = .ok (.iload_n 1, 1) := by decide +kernel
theorem dX7_marry_63 : decode cX7_marry 63 = .ok (.iload_n 2, 1) := by decide +kernel
theorem dX7_marry_64 : decode cX7_marry 64 = .ok (.invokevirtual 88, 3) := by decide +kernel
theorem dX7_marry_67 : decode cX7_marry 67 = .ok (.ireturn, 1) := by decide +kernel
set_option maxRecDepth 20000 in
theorem ggX7_child_X5_isCouple : GoodIn wsX7_child wsX5_isCouple := goodIn_r _ [9, 10, 73, 74, 75, 76, 77, 78, 79, 80, 81, 82] (by decide +kernel) (by decide +kernel)
set_option maxRecDepth 20000 in
theorem gX7_child_X5_isCouple : GoodIn wsX7_child (wsV RX7 91 RX5 yX5_isCouple wsX5_isCouple) := goodIn_app (goodIn_of _ (by decide +kernel)) ggX7_child_X5_isCouple
set_option maxRecDepth 20000 in
theorem ggX7_child_X4_push : GoodIn wsX7_child wsX4_push := goodIn_r _ [15, 16, 17, 18, 19, 20, 21, 8, 22, 23, 24, 25, 26, 27, 28, 29, 30, 31, 32, 33, 34, 10, 35, 83, 84, 85, 73, 74, 75, 76, 77, 78, 79, 80, 81, 82] (by decide +kernel) (by decide +kernel)
set_option maxRecDepth 20000 in
theorem gX7_child_X4_push : GoodIn wsX7_child (wsV RX7 70 RX4 yX4_push wsX4_push) := goodIn_app (goodIn_of _ (by decide +kernel)) ggX7_child_X4_push
set_option maxRecDepth 20000 in
theorem ggX7_child_X5_addChild : GoodIn wsX7_child wsX5_addChild := goodIn_r _ [39, 40, 41, 42, 8, 43, 30, 44, 6, 7, 9, 10, 45, 46, 47, 48, 23, 49, 50, 51, 52, 34, 53, 54, 55, 56, 35, 33, 29, 57, 58, 59, 60, 61, 62, 63, 64, 32, 28, 73, 74, 75, 76, 77, 78, 79, 80, 81, 82] (by decide +kernel) (by decide +kernel)
set_option maxRecDepth 20000 in
theorem gX7_child_X5_addChild : GoodIn wsX7_child (wsV RX7 96 RX5 yX5_addChild wsX5_addChild) := goodIn_app (goodIn_of _ (by decide +kernel)) ggX7_child_X5_addChild
theorem dX7_child_0 : decode cX7_child 0 = .ok (.aload_n 0, 1) := by decide +kernel
theorem dX7_child_1 : decode cX7_child 1 = .ok (.getfield 10, 3) := by decide +kernel
theorem dX7_child_4 : decode cX7_child 4 = .ok (.iload_n 1, 1) := by decide +kernel
theorem dX7_child_5 : decode cX7_child 5 = .ok (.invokevirtual 91, 3) := by decide +kernel
theorem dX7_child_8 : decode cX7_child 8 = .ok (.ifCond .ne 13, 3) := by decide +kernel
theorem dX7_child_11 : decode cX7_child 11 = .ok (.new 63, 3) := by decide +kernel
theorem dX7_child_14 : decode cX7_child 14 = .ok (.dup, 1) := by decide +kernel
theorem dX7_child_15 : decode cX7_child 15 = .ok (.ldc 94, 2) := by decide +kernel
theorem dX7_child_17 : decode cX7_child 17 = .ok (.invokespecial 67, 3) := by decide +kernel
theorem dX7_child_20 : decode cX7_child 20 = .ok (.athrow, 1) := by decide +kernel
theorem dX7_child_21 : decode cX7_child 21 = .ok (.aload_n 0, 1) := by decide +kernel
theorem dX7_child_22 : decode cX7_child 22 = .ok (.getfield 27, 3) := by decide +kernel
theorem dX7_child_25 : decode cX7_child 25 = .ok (.aload_n 0, 1) := by decide +kernel
theorem dX7_child_26 : decode cX7_child 26 = .ok (.getfield 10, 3) := by decide +kernel
theorem dX7_child_29 : decode cX7_child 29 = .ok (.invokevirtual 70, 3) := by decide +kernel
theorem dX7_child_32 : decode cX7_child 32 = .ok (.aload_n 0, 1) := by decide +kernel
theorem dX7_child_33 : decode cX7_child 33 = .ok (.getfield 10, 3) := by decide +kernel
theorem dX7_child_36 : decode cX7_child 36 = .ok (.iload_n 1, 1) := by decide +kernel
theorem dX7_child_37 : decode cX7_child 37 = .ok (.invokevirtual 96, 3) := by decide +kernel
theorem dX7_child_40 : decode cX7_child 40 = .ok (.ireturn, 1) := by decide +kernel
set_option maxRecDepth 20000 in
theorem ggX7_swap_X7_isRow : GoodIn wsX7_swap wsX7_isRow := goodIn_r _ [10] (by decide +kernel) (by decide +kernel)
set_option maxRecDepth 20000 in
theorem gX7_swap_X7_isRow : GoodIn wsX7_swap (va_wsS RX7 59 yX7_isRow wsX7_isRow) := goodIn_app (goodIn_of _ (by decide +kernel)) ggX7_swap_X7_isRow
set_option maxRecDepth 20000 in
theorem ggX7_swap_X5_sizeOf : GoodIn wsX7_swap wsX5_sizeOf := goodIn_r _ [15, 16, 106, 107, 108, 109, 110, 111, 112, 113, 114, 115] (by decide +kernel) (by decide +kernel)
set_option maxRecDepth 20000 in
theorem gX7_swap_X5_sizeOf : GoodIn wsX7_swap (wsV RX7 100 RX5 yX5_sizeOf wsX5_sizeOf) := goodIn_app (goodIn_of _ (by decide +kernel)) ggX7_swap_X5_sizeOf
set_option maxRecDepth 20000 in
theorem ggX7_swap_X4_push : GoodIn wsX7_swap wsX4_push := goodIn_r _ [21, 22, 23, 24, 25, 26, 27, 14, 28, 29, 30, 31, 32, 33, 34, 35, 36, 37, 38, 16, 39, 40, 41, 116, 117, 118, 106, 107, 108, 109, 110, 111, 112, 113, 114, 115] (by decide +kernel) (by decide +kernel)
set_option maxRecDepth 20000 in
theorem gX7_swap_X4_push : GoodIn wsX7_swap (wsV RX7 70 RX4 yX4_push wsX4_push) := goodIn_app (goodIn_of _ (by decide +kernel)) ggX7_swap_X4_push
set_option maxRecDepth 20000 in
theorem ggX7_swap_X7_allCrossings : GoodIn wsX7_swap wsX7_allCrossings := goodIn_r _ [45, 46, 5, 47, 48, 49, 50, 51, 52, 53, 54, 55, 12, 13, 14, 15, 16, 56, 57, 58, 59, 38, 60, 61, 62, 63, 64, 65, 66, 67, 68, 35, 69, 70, 71, 72, 39, 73, 74, 75, 76, 36, 37, 77, 78, 79, 80, 40, 81, 82, 83, 84, 34, 85, 86, 87, 88, 98, 99, 100, 101, 102, 103, 104, 105, 119, 120, 121, 106, 107, 108, 109, 110, 111, 112, 113, 114, 115] (by decide +kernel) (by decide +kernel)
set_option maxRecDepth 20000 in
theorem gX7_swap_X7_allCrossings : GoodIn wsX7_swap (wsV RX7 105 RX7 yX7_allCrossings wsX7_allCrossings) := goodIn_app (goodIn_of _ (by decide +kernel)) ggX7_swap_X7_allCrossings
set_option maxRecDepth 20000 in
theorem ggX7_swap_X5_exchange : GoodIn wsX7_swap wsX5_exchange := goodIn_r _ [92, 93, 57, 58, 14, 59, 38, 60, 12, 13, 15, 16, 94, 95, 96, 97, 34, 69, 70, 71, 72, 39, 106, 107, 108, 109, 110, 111, 112, 113, 114, 115] (by decide +kernel) (by decide +kernel)
set_option maxRecDepth 20000 in
theorem gX7_swap_X5_exchange : GoodIn wsX7_swap (wsV RX7 109 RX5 yX5_exchange wsX5_exchange) := goodIn_app (goodIn_of _ (by decide +kernel)) ggX7_swap_X5_exchange
theorem dX7_swap_0 : decode cX7_swap 0 = .ok (.iload_n 1, 1) := by decide +kernel
theorem dX7_swap_1 : decode cX7_swap 1 = .ok (.invokestatic 59, 3) := by decide +kernel
theorem dX7_swap_4 : decode cX7_swap 4 = .ok (.ifCond .ne 13, 3) := by decide +kernel
theorem dX7_swap_7 : decode cX7_swap 7 = .ok (.new 63, 3) := by decide +kernel
theorem dX7_swap_10 : decode cX7_swap 10 = .ok (.dup, 1) := by decide +kernel
theorem dX7_swap_11 : decode cX7_swap 11 = .ok (.ldc 65, 2) := by decide +kernel
theorem dX7_swap_13 : decode cX7_swap 13 = .ok (.invokespecial 67, 3) := by decide +kernel
theorem dX7_swap_16 : decode cX7_swap 16 = .ok (.athrow, 1) := by decide +kernel
theorem dX7_swap_17 : decode cX7_swap 17 = .ok (.iload_n 2, 1) := by decide +kernel
theorem dX7_swap_18 : decode cX7_swap 18 = .ok (.ifCond .lt 17, 3) := by decide +kernel
theorem dX7_swap_21 : decode cX7_swap 21 = .ok (.iload_n 2, 1) := by decide +kernel
theorem dX7_swap_22 : decode cX7_swap 22 = .ok (.aload_n 0, 1) := by decide +kernel
theorem dX7_swap_23 : decode cX7_swap 23 = .ok (.getfield 10, 3) := by decide +kernel
theorem dX7_swap_26 : decode cX7_swap 26 = .ok (.iload_n 1, 1) := by decide +kernel
theorem dX7_swap_27 : decode cX7_swap 27 = .ok (.invokevirtual 100, 3) := by decide +kernel
theorem dX7_swap_30 : decode cX7_swap 30 = .ok (.iconst 1, 1) := by decide +kernel
theorem dX7_swap_31 : decode cX7_swap 31 = .ok (.isub, 1) := by decide +kernel
theorem dX7_swap_32 : decode cX7_swap 32 = .ok (.if_icmp .lt 13, 3) := by decide +kernel
theorem dX7_swap_35 : decode cX7_swap 35 = .ok (.new 83, 3) := by decide +kernel
theorem dX7_swap_38 : decode cX7_swap 38 = .ok (.dup, 1) := by decide +kernel
theorem dX7_swap_39 : decode cX7_swap 39 = .ok (.ldc 103, 2) := by decide +kernel
theorem dX7_swap_41 : decode cX7_swap 41 = .ok (.invokespecial 87, 3) := by decide +kernel
theorem dX7_swap_44 : decode cX7_swap 44 = .ok (.athrow, 1) := by decide +kernel
theorem dX7_swap_45 : decode cX7_swap 45 = .ok (.aload_n 0, 1) := by decide +kernel
theorem dX7_swap_46 : decode cX7_swap 46 = .ok (.getfield 27, 3) := by decide +kernel
theorem dX7_swap_49 : decode cX7_swap 49 = .ok (.aload_n 0, 1) := by decide +kernel
theorem dX7_swap_50 : decode cX7_swap 50 = .ok (.getfield 10, 3) := by decide +kernel
theorem dX7_swap_53 : decode cX7_swap 53 = .ok (.invokevirtual 70, 3) := by decide +kernel
theorem dX7_swap_56 : decode cX7_swap 56 = .ok (.aload_n 0, 1) := by decide +kernel
theorem dX7_swap_57 : decode cX7_swap 57 = .ok (.invokevirtual 105, 3) := by decide +kernel
theorem dX7_swap_60 : decode cX7_swap 60 = .ok (.istore_n 3, 1) := by decide +kernel
theorem dX7_swap_61 : decode cX7_swap 61 = .ok (.aload_n 0, 1) := by decide +kernel
theorem dX7_swap_62 : decode cX7_swap 62 = .ok (.getfield 10, 3) := by decide +kernel
theorem dX7_swap_65 : decode cX7_swap 65 = .ok (.iload_n 1, 1) := by decide +kernel
theorem dX7_swap_66 : decode cX7_swap 66 = .ok (.iload_n 2, 1) := by decide +kernel
theorem dX7_swap_67 : decode cX7_swap 67 = .ok (.invokevirtual 109, 3) := by decide +kernel
theorem dX7_swap_70 : decode cX7_swap 70 = .ok (.aload_n 0, 1) := by decide +kernel
theorem dX7_swap_71 : decode cX7_swap 71 = .ok (.invokevirtual 105, 3) := by decide +kernel
theorem dX7_swap_74 : decode cX7_swap 74 = .ok (.iload_n 3, 1) := by decide +kernel
theorem dX7_swap_75 : decode cX7_swap 75 = .ok (.isub, 1) := by decide +kernel
theorem dX7_swap_76 : decode cX7_swap 76 = .ok (.bipush 100, 2) := by decide +kernel
theorem dX7_swap_78 : decode cX7_swap 78 = .ok (.iadd, 1) := by decide +kernel
theorem dX7_swap_79 : decode cX7_swap 79 = .ok (.ireturn, 1) := by decide +kernel
set_option maxRecDepth 20000 in
theorem ggX7_byParents_X7_isRow : GoodIn wsX7_byParents wsX7_isRow := goodIn_r _ [9] (by decide +kernel) (by decide +kernel)
set_option maxRecDepth 20000 in
theorem gX7_byParents_X7_isRow : GoodIn wsX7_byParents (va_wsS RX7 59 yX7_isRow wsX7_isRow) := goodIn_app (goodIn_of _ (by decide +kernel)) ggX7_byParents_X7_isRow
set_option maxRecDepth 20000 in
theorem ggX7_byParents_X4_push : GoodIn wsX7_byParents wsX4_push := goodIn_r _ [14, 15, 16, 17, 18, 19, 20, 21, 22, 23, 24, 25, 26, 27, 28, 29, 30, 31, 32, 33, 34, 35, 36, 97, 98, 99, 100, 101, 102, 103, 104, 105, 106, 107, 108, 109] (by decide +kernel) (by decide +kernel)
set_option maxRecDepth 20000 in
theorem gX7_byParents_X4_push : GoodIn wsX7_byParents (wsV RX7 70 RX4 yX4_push wsX4_push) := goodIn_app (goodIn_of _ (by decide +kernel)) ggX7_byParents_X4_push
set_option maxRecDepth 20000 in
theorem ggX7_byParents_X1_lay : GoodIn wsX7_byParents wsX1_lay := goodIn_r _ [41, 42, 43, 44, 45, 46, 47, 48, 49, 50, 21, 51, 33, 52, 53, 54, 55, 32, 56, 57, 58, 59, 60, 61, 62, 63, 64, 29, 65, 66, 67, 68, 34, 69, 70, 71, 72, 30, 31, 73, 74, 75, 76, 35, 77, 78, 79, 80, 28, 81, 82, 83, 40, 84, 85, 86, 87, 88, 110, 111, 100, 101, 102, 103, 104, 105, 106, 107, 108, 109] (by decide +kernel) (by decide +kernel)
set_option maxRecDepth 20000 in
theorem gX7_byParents_X1_lay : GoodIn wsX7_byParents (wsV RX7 113 RX1 yX1_lay wsX1_lay) := goodIn_app (goodIn_of _ (by decide +kernel)) ggX7_byParents_X1_lay
theorem dX7_byParents_0 : decode cX7_byParents 0 = .ok (.iload_n 1, 1) := by decide +kernel
theorem dX7_byParents_1 : decode cX7_byParents 1 = .ok (.invokestatic 59, 3) := by decide +kernel
theorem dX7_byParents_4 : decode cX7_byParents 4 = .ok (.ifCond .ne 13, 3) := by decide +kernel
theorem dX7_byParents_7 : decode cX7_byParents 7 = .ok (.new 63, 3) := by decide +kernel
theorem dX7_byParents_10 : decode cX7_byParents 10 = .ok (.dup, 1) := by decide +kernel
theorem dX7_byParents_11 : decode cX7_byParents 11 = .ok (.ldc 65, 2) := by decide +kernel
theorem dX7_byParents_13 : decode cX7_byParents 13 = .ok (.invokespecial 67, 3) := by decide +kernel
theorem dX7_byParents_16 : decode cX7_byParents 16 = .ok (.athrow, 1) := by decide +kernel
theorem dX7_byParents_17 : decode cX7_byParents 17 = .ok (.aload_n 0, 1) := by decide +kernel
theorem dX7_byParents_18 : decode cX7_byParents 18 = .ok (.getfield 27, 3) := by decide +kernel
theorem dX7_byParents_21 : decode cX7_byParents 21 = .ok (.aload_n 0, 1) := by decide +kernel
theorem dX7_byParents_22 : decode cX7_byParents 22 = .ok (.getfield 10, 3) := by decide +kernel
theorem dX7_byParents_25 : decode cX7_byParents 25 = .ok (.invokevirtual 70, 3) := by decide +kernel
theorem dX7_byParents_28 : decode cX7_byParents 28 = .ok (.aload_n 0, 1) := by decide +kernel
theorem dX7_byParents_29 : decode cX7_byParents 29 = .ok (.getfield 48, 3) := by decide +kernel
theorem dX7_byParents_32 : decode cX7_byParents 32 = .ok (.aload_n 0, 1) := by decide +kernel
theorem dX7_byParents_33 : decode cX7_byParents 33 = .ok (.getfield 10, 3) := by decide +kernel
theorem dX7_byParents_36 : decode cX7_byParents 36 = .ok (.iload_n 1, 1) := by decide +kernel
theorem dX7_byParents_37 : decode cX7_byParents 37 = .ok (.invokevirtual 113, 3) := by decide +kernel
theorem dX7_byParents_40 : decode cX7_byParents 40 = .ok (.ireturn, 1) := by decide +kernel
set_option maxRecDepth 20000 in
theorem ggX7_untangle_X7_isRow : GoodIn wsX7_untangle wsX7_isRow := goodIn_r _ [9] (by decide +kernel) (by decide +kernel)
set_option maxRecDepth 20000 in
theorem gX7_untangle_X7_isRow : GoodIn wsX7_untangle (va_wsS RX7 59 yX7_isRow wsX7_isRow) := goodIn_app (goodIn_of _ (by decide +kernel)) ggX7_untangle_X7_isRow
set_option maxRecDepth 20000 in
theorem ggX7_untangle_X4_push : GoodIn wsX7_untangle wsX4_push := goodIn_r _ [14, 15, 16, 17, 18, 19, 20, 21, 22, 23, 24, 25, 26, 27, 28, 29, 30, 31, 32, 33, 34, 35, 36, 169, 170, 171, 172, 173, 174, 175, 176, 177, 178, 179, 180, 181] (by decide +kernel) (by decide +kernel)
set_option maxRecDepth 20000 in
theorem gX7_untangle_X4_push : GoodIn wsX7_untangle (wsV RX7 70 RX4 yX4_push wsX4_push) := goodIn_app (goodIn_of _ (by decide +kernel)) ggX7_untangle_X4_push
set_option maxRecDepth 20000 in
theorem ggX7_untangle_X3_prepare : GoodIn wsX7_untangle wsX3_prepare := goodIn_r _ [41, 42, 43, 44, 40, 45, 46, 47, 48, 49, 50, 21, 51, 34, 52, 53, 54, 55, 23, 56, 57, 58, 59, 60, 61, 62, 63, 64, 65, 66, 67, 68, 69, 70, 71, 72, 29, 73, 74, 75, 76, 30, 31, 77, 78, 79, 80, 35, 81, 82, 83, 84, 28, 85, 86, 87, 88, 89, 90, 91, 92, 93, 94, 33, 95, 96, 97, 98, 32, 99, 100, 101, 102, 103, 104, 105, 106, 107, 108, 109, 110, 111, 112, 113, 114, 115, 116, 117, 118, 119, 120, 182, 183, 184, 185, 186, 187, 188, 189, 190, 191, 192, 193, 194, 172, 173, 174, 175, 176, 177, 178, 179, 180, 181] (by decide +kernel) (by decide +kernel)
set_option maxRecDepth 20000 in
theorem gX7_untangle_X3_prepare : GoodIn wsX7_untangle (wsV RX7 117 RX3 yX3_prepare wsX3_prepare) := goodIn_app (goodIn_of _ (by decide +kernel)) ggX7_untangle_X3_prepare
set_option maxRecDepth 20000 in
theorem ggX7_untangle_X3_leastByAllOrders : GoodIn wsX7_untangle wsX3_leastByAllOrders := goodIn_r _ [124, 125, 46, 47, 126, 127, 25, 26, 27, 128, 129, 130, 40, 131, 64, 132, 133, 134, 135, 136, 137, 138, 139, 140, 141, 142, 143, 89, 106, 107, 144, 120, 145, 146, 147, 148, 149, 150, 151, 152, 182, 183, 184, 185, 186, 187, 188, 189, 190, 191, 192, 193, 194] (by decide +kernel) (by decide +kernel)
set_option maxRecDepth 20000 in
theorem gX7_untangle_X3_leastByAllOrders : GoodIn wsX7_untangle (wsV RX7 121 RX3 yX3_leastByAllOrders wsX3_leastByAllOrders) := goodIn_app (goodIn_of _ (by decide +kernel)) ggX7_untangle_X3_leastByAllOrders
set_option maxRecDepth 20000 in
theorem ggX7_untangle_X3_layBest : GoodIn wsX7_untangle wsX3_layBest := goodIn_r _ [156, 46, 126, 157, 158, 159, 21, 160, 32, 28, 56, 57, 58, 59, 34, 99, 92, 93, 94, 33, 182, 183, 184, 185, 186, 187, 188, 189, 190, 191, 192, 193, 194, 172, 173, 174, 175, 176, 177, 178, 179, 180, 181] (by decide +kernel) (by decide +kernel)
set_option maxRecDepth 20000 in
theorem gX7_untangle_X3_layBest : GoodIn wsX7_untangle (wsV RX7 124 RX3 yX3_layBest wsX3_layBest) := goodIn_app (goodIn_of _ (by decide +kernel)) ggX7_untangle_X3_layBest
theorem dX7_untangle_0 : decode cX7_untangle 0 = .ok (.iload_n 1, 1) := by decide +kernel
theorem dX7_untangle_1 : decode cX7_untangle 1 = .ok (.invokestatic 59, 3) := by decide +kernel
theorem dX7_untangle_4 : decode cX7_untangle 4 = .ok (.ifCond .ne 13, 3) := by decide +kernel
theorem dX7_untangle_7 : decode cX7_untangle 7 = .ok (.new 63, 3) := by decide +kernel
theorem dX7_untangle_10 : decode cX7_untangle 10 = .ok (.dup, 1) := by decide +kernel
theorem dX7_untangle_11 : decode cX7_untangle 11 = .ok (.ldc 65, 2) := by decide +kernel
theorem dX7_untangle_13 : decode cX7_untangle 13 = .ok (.invokespecial 67, 3) := by decide +kernel
theorem dX7_untangle_16 : decode cX7_untangle 16 = .ok (.athrow, 1) := by decide +kernel
theorem dX7_untangle_17 : decode cX7_untangle 17 = .ok (.aload_n 0, 1) := by decide +kernel
theorem dX7_untangle_18 : decode cX7_untangle 18 = .ok (.getfield 27, 3) := by decide +kernel
theorem dX7_untangle_21 : decode cX7_untangle 21 = .ok (.aload_n 0, 1) := by decide +kernel
theorem dX7_untangle_22 : decode cX7_untangle 22 = .ok (.getfield 10, 3) := by decide +kernel
theorem dX7_untangle_25 : decode cX7_untangle 25 = .ok (.invokevirtual 70, 3) := by decide +kernel
theorem dX7_untangle_28 : decode cX7_untangle 28 = .ok (.aload_n 0, 1) := by decide +kernel
theorem dX7_untangle_29 : decode cX7_untangle 29 = .ok (.getfield 55, 3) := by decide +kernel
theorem dX7_untangle_32 : decode cX7_untangle 32 = .ok (.aload_n 0, 1) := by decide +kernel
theorem dX7_untangle_33 : decode cX7_untangle 33 = .ok (.getfield 10, 3) := by decide +kernel
theorem dX7_untangle_36 : decode cX7_untangle 36 = .ok (.iload_n 1, 1) := by decide +kernel
theorem dX7_untangle_37 : decode cX7_untangle 37 = .ok (.invokevirtual 117, 3) := by decide +kernel
theorem dX7_untangle_40 : decode cX7_untangle 40 = .ok (.aload_n 0, 1) := by decide +kernel
theorem dX7_untangle_41 : decode cX7_untangle 41 = .ok (.getfield 55, 3) := by decide +kernel
theorem dX7_untangle_44 : decode cX7_untangle 44 = .ok (.invokevirtual 121, 3) := by decide +kernel
theorem dX7_untangle_47 : decode cX7_untangle 47 = .ok (.istore_n 2, 1) := by decide +kernel
theorem dX7_untangle_48 : decode cX7_untangle 48 = .ok (.aload_n 0, 1) := by decide +kernel
theorem dX7_untangle_49 : decode cX7_untangle 49 = .ok (.getfield 55, 3) := by decide +kernel
theorem dX7_untangle_52 : decode cX7_untangle 52 = .ok (.aload_n 0, 1) := by decide +kernel
theorem dX7_untangle_53 : decode cX7_untangle 53 = .ok (.getfield 10, 3) := by decide +kernel
theorem dX7_untangle_56 : decode cX7_untangle 56 = .ok (.iload_n 1, 1) := by decide +kernel
theorem dX7_untangle_57 : decode cX7_untangle 57 = .ok (.invokevirtual 124, 3) := by decide +kernel
theorem dX7_untangle_60 : decode cX7_untangle 60 = .ok (.iload_n 2, 1) := by decide +kernel
theorem dX7_untangle_61 : decode cX7_untangle 61 = .ok (.ireturn, 1) := by decide +kernel
set_option maxRecDepth 20000 in
theorem ggX7_personOf_X5_isPerson : GoodIn wsX7_personOf wsX5_isPerson := goodIn_r _ [10, 11, 85, 86, 87, 88, 89, 90, 91, 92, 93, 94] (by decide +kernel) (by decide +kernel)
set_option maxRecDepth 20000 in
theorem gX7_personOf_X5_isPerson : GoodIn wsX7_personOf (wsV RX7 78 RX5 yX5_isPerson wsX5_isPerson) := goodIn_app (goodIn_of _ (by decide +kernel)) ggX7_personOf_X5_isPerson
set_option maxRecDepth 20000 in
theorem ggX7_personOf_X5_rowOf : GoodIn wsX7_personOf wsX5_rowOf := goodIn_r _ [15, 16, 17, 7, 8, 9, 10, 11, 85, 86, 87, 88, 89, 90, 91, 92, 93, 94] (by decide +kernel) (by decide +kernel)
set_option maxRecDepth 20000 in
theorem gX7_personOf_X5_rowOf : GoodIn wsX7_personOf (wsV RX7 182 RX5 yX5_rowOf wsX5_rowOf) := goodIn_app (goodIn_of _ (by decide +kernel)) ggX7_personOf_X5_rowOf
set_option maxRecDepth 20000 in
theorem ggX7_personOf_X5_placeOf : GoodIn wsX7_personOf wsX5_placeOf := goodIn_r _ [21, 22, 17, 7, 8, 9, 10, 11, 85, 86, 87, 88, 89, 90, 91, 92, 93, 94] (by decide +kernel) (by decide +kernel)
set_option maxRecDepth 20000 in
theorem gX7_personOf_X5_placeOf : GoodIn wsX7_personOf (wsV RX7 185 RX5 yX5_placeOf wsX5_placeOf) := goodIn_app (goodIn_of _ (by decide +kernel)) ggX7_personOf_X5_placeOf
set_option maxRecDepth 20000 in
theorem ggX7_personOf_X5_parentsOf : GoodIn wsX7_personOf wsX5_parentsOf := goodIn_r _ [26, 27, 17, 7, 8, 9, 10, 11, 85, 86, 87, 88, 89, 90, 91, 92, 93, 94] (by decide +kernel) (by decide +kernel)
set_option maxRecDepth 20000 in
theorem gX7_personOf_X5_parentsOf : GoodIn wsX7_personOf (wsV RX7 188 RX5 yX5_parentsOf wsX5_parentsOf) := goodIn_app (goodIn_of _ (by decide +kernel)) ggX7_personOf_X5_parentsOf
set_option maxRecDepth 20000 in
theorem ggX7_personOf_X5_couplesWith : GoodIn wsX7_personOf wsX5_couplesWith := goodIn_r _ [31, 32, 33, 34, 85, 86, 87, 88, 89, 90, 91, 92, 93, 94] (by decide +kernel) (by decide +kernel)
set_option maxRecDepth 20000 in
theorem gX7_personOf_X5_couplesWith : GoodIn wsX7_personOf (wsV RX7 191 RX5 yX5_couplesWith wsX5_couplesWith) := goodIn_app (goodIn_of _ (by decide +kernel)) ggX7_personOf_X5_couplesWith
set_option maxRecDepth 20000 in
theorem ggX7_personOf_X5_childrenWith : GoodIn wsX7_personOf wsX5_childrenWith := goodIn_r _ [38, 32, 33, 34, 39, 40, 41, 9, 42, 11, 27, 85, 86, 87, 88, 89, 90, 91, 92, 93, 94] (by decide +kernel) (by decide +kernel)
set_option maxRecDepth 20000 in
theorem gX7_personOf_X5_childrenWith : GoodIn wsX7_personOf (wsV RX7 194 RX5 yX5_childrenWith wsX5_childrenWith) := goodIn_app (goodIn_of _ (by decide +kernel)) ggX7_personOf_X5_childrenWith
set_option maxRecDepth 20000 in
theorem ggX7_personOf_X0_descendants : GoodIn wsX7_personOf wsX0_descendants := goodIn_r _ [46, 47, 48, 49, 9, 50, 11, 51, 52, 45, 53, 54, 24, 25, 26, 27, 17, 7, 8, 10, 55, 56, 57, 58, 33, 59, 60, 61, 62, 32, 63, 64, 65, 66, 34, 85, 86, 87, 88, 89, 90, 91, 92, 93, 94] (by decide +kernel) (by decide +kernel)
set_option maxRecDepth 20000 in
theorem gX7_personOf_X0_descendants : GoodIn wsX7_personOf (va_wsS RX7 197 yX0_descendants wsX0_descendants) := goodIn_app (goodIn_of _ (by decide +kernel)) ggX7_personOf_X0_descendants
set_option maxRecDepth 20000 in
theorem ggX7_personOf_J6_bitCount_0f7a4 : GoodIn wsX7_personOf wsJ6_bitCount_0f7a4 := goodIn_r _ [70, 71, 72, 73] (by decide +kernel) (by decide +kernel)
set_option maxRecDepth 20000 in
theorem gX7_personOf_J6_bitCount_0f7a4 : GoodIn wsX7_personOf (va_wsS RX7 202 yJ6_bitCount_0f7a4 wsJ6_bitCount_0f7a4) := goodIn_app (goodIn_of _ (by decide +kernel)) ggX7_personOf_J6_bitCount_0f7a4
set_option maxRecDepth 20000 in
theorem ggX7_personOf_X0_ancestors : GoodIn wsX7_personOf wsX0_ancestors := goodIn_r _ [76, 51, 52, 45, 53, 54, 24, 25, 9, 26, 27, 17, 7, 8, 10, 11, 55, 56, 57, 58, 33, 59, 60, 61, 62, 32, 63, 64, 65, 66, 34, 85, 86, 87, 88, 89, 90, 91, 92, 93, 94] (by decide +kernel) (by decide +kernel)
set_option maxRecDepth 20000 in
theorem gX7_personOf_X0_ancestors : GoodIn wsX7_personOf (va_wsS RX7 207 yX0_ancestors wsX0_ancestors) := goodIn_app (goodIn_of _ (by decide +kernel)) ggX7_personOf_X0_ancestors
theorem dX7_personOf_0 : decode cX7_personOf 0 = .ok (.aload_n 0, 1) := by decide +kernel
theorem dX7_personOf_1 : decode cX7_personOf 1 = .ok (.getfield 10, 3) := by decide +kernel
theorem dX7_personOf_4 : decode cX7_personOf 4 = .ok (.iload_n 1, 1) := by decide +kernel
theorem dX7_personOf_5 : decode cX7_personOf 5 = .ok (.invokevirtual 78, 3) := by decide +kernel
theorem dX7_personOf_8 : decode cX7_personOf 8 = .ok (.ifCond .ne 13, 3) := by decide +kernel
theorem dX7_personOf_11 : decode cX7_personOf 11 = .ok (.new 63, 3) := by decide +kernel
theorem dX7_personOf_14 : decode cX7_personOf 14 = .ok (.dup, 1) := by decide +kernel
theorem dX7_personOf_15 : decode cX7_personOf 15 = .ok (.ldc 81, 2) := by decide +kernel
theorem dX7_personOf_17 : decode cX7_personOf 17 = .ok (.invokespecial 67, 3) := by decide +kernel
theorem dX7_personOf_20 : decode cX7_personOf 20 = .ok (.athrow, 1) := by decide +kernel
theorem dX7_personOf_21 : decode cX7_personOf 21 = .ok (.iload_n 2, 1) := by decide +kernel
theorem dX7_personOf_22 : decode cX7_personOf 22 = .ok (.tableswitch 111 0 6 #[42, 51, 60, 69, 78, 87, 99], 42) := by decide +kernel
theorem dX7_personOf_64 : decode cX7_personOf 64 = .ok (.aload_n 0, 1) := by decide +kernel
theorem dX7_personOf_65 : decode cX7_personOf 65 = .ok (.getfield 10, 3) := by decide +kernel
theorem dX7_personOf_68 : decode cX7_personOf 68 = .ok (.iload_n 1, 1) := by decide +kernel
theorem dX7_personOf_69 : decode cX7_personOf 69 = .ok (.invokevirtual 182, 3) := by decide +kernel
theorem dX7_personOf_72 : decode cX7_personOf 72 = .ok (.ireturn, 1) := by decide +kernel
theorem dX7_personOf_73 : decode cX7_personOf 73 = .ok (.aload_n 0, 1) := by decide +kernel
theorem dX7_personOf_74 : decode cX7_personOf 74 = .ok (.getfield 10, 3) := by decide +kernel
theorem dX7_personOf_77 : decode cX7_personOf 77 = .ok (.iload_n 1, 1) := by decide +kernel
theorem dX7_personOf_78 : decode cX7_personOf 78 = .ok (.invokevirtual 185, 3) := by decide +kernel
theorem dX7_personOf_81 : decode cX7_personOf 81 = .ok (.ireturn, 1) := by decide +kernel
theorem dX7_personOf_82 : decode cX7_personOf 82 = .ok (.aload_n 0, 1) := by decide +kernel
theorem dX7_personOf_83 : decode cX7_personOf 83 = .ok (.getfield 10, 3) := by decide +kernel
theorem dX7_personOf_86 : decode cX7_personOf 86 = .ok (.iload_n 1, 1) := by decide +kernel
theorem dX7_personOf_87 : decode cX7_personOf 87 = .ok (.invokevirtual 188, 3) := by decide +kernel
theorem dX7_personOf_90 : decode cX7_personOf 90 = .ok (.ireturn, 1) := by decide +kernel
theorem dX7_personOf_91 : decode cX7_personOf 91 = .ok (.aload_n 0, 1) := by decide +kernel
theorem dX7_personOf_92 : decode cX7_personOf 92 = .ok (.getfield 10, 3) := by decide +kernel
theorem dX7_personOf_95 : decode cX7_personOf 95 = .ok (.iload_n 1, 1) := by decide +kernel
theorem dX7_personOf_96 : decode cX7_personOf 96 = .ok (.invokevirtual 191, 3) := by decide +kernel
theorem dX7_personOf_99 : decode cX7_personOf 99 = .ok (.ireturn, 1) := by decide +kernel
theorem dX7_personOf_100 : decode cX7_personOf 100 = .ok (.aload_n 0, 1) := by decide +kernel
theorem dX7_personOf_101 : decode cX7_personOf 101 = .ok (.getfield 10, 3) := by decide +kernel
theorem dX7_personOf_104 : decode cX7_personOf 104 = .ok (.iload_n 1, 1) := by decide +kernel
theorem dX7_personOf_105 : decode cX7_personOf 105 = .ok (.invokevirtual 194, 3) := by decide +kernel
theorem dX7_personOf_108 : decode cX7_personOf 108 = .ok (.ireturn, 1) := by decide +kernel
theorem dX7_personOf_109 : decode cX7_personOf 109 = .ok (.aload_n 0, 1) := by decide +kernel
theorem dX7_personOf_110 : decode cX7_personOf 110 = .ok (.getfield 10, 3) := by decide +kernel
theorem dX7_personOf_113 : decode cX7_personOf 113 = .ok (.iload_n 1, 1) := by decide +kernel
theorem dX7_personOf_114 : decode cX7_personOf 114 = .ok (.invokestatic 197, 3) := by decide +kernel
theorem dX7_personOf_117 : decode cX7_personOf 117 = .ok (.invokestatic 202, 3) := by decide +kernel
theorem dX7_personOf_120 : decode cX7_personOf 120 = .ok (.ireturn, 1) := by decide +kernel
theorem dX7_personOf_121 : decode cX7_personOf 121 = .ok (.aload_n 0, 1) := by decide +kernel
theorem dX7_personOf_122 : decode cX7_personOf 122 = .ok (.getfield 10, 3) := by decide +kernel
theorem dX7_personOf_125 : decode cX7_personOf 125 = .ok (.iload_n 1, 1) := by decide +kernel
theorem dX7_personOf_126 : decode cX7_personOf 126 = .ok (.invokestatic 207, 3) := by decide +kernel
theorem dX7_personOf_129 : decode cX7_personOf 129 = .ok (.invokestatic 202, 3) := by decide +kernel
theorem dX7_personOf_132 : decode cX7_personOf 132 = .ok (.ireturn, 1) := by decide +kernel
theorem dX7_personOf_133 : decode cX7_personOf 133 = .ok (.new 83, 3) := by decide +kernel
theorem dX7_personOf_136 : decode cX7_personOf 136 = .ok (.dup, 1) := by decide +kernel
theorem dX7_personOf_137 : decode cX7_personOf 137 = .ok (.ldc 210, 2) := by decide +kernel
theorem dX7_personOf_139 : decode cX7_personOf 139 = .ok (.invokespecial 87, 3) := by decide +kernel
theorem dX7_personOf_142 : decode cX7_personOf 142 = .ok (.athrow, 1) := by decide +kernel
set_option maxRecDepth 20000 in
theorem ggX7_coupleOf_X5_isCouple : GoodIn wsX7_coupleOf wsX5_isCouple := goodIn_r _ [10, 11, 78, 79, 80, 81, 82, 83, 84, 85, 86, 87] (by decide +kernel) (by decide +kernel)
set_option maxRecDepth 20000 in
theorem gX7_coupleOf_X5_isCouple : GoodIn wsX7_coupleOf (wsV RX7 91 RX5 yX5_isCouple wsX5_isCouple) := goodIn_app (goodIn_of _ (by decide +kernel)) ggX7_coupleOf_X5_isCouple
