set_option maxRecDepth 20000 in
theorem ggX5_exchange_X5_lay : GoodIn wsX5_exchange wsX5_lay := goodIn_r _ [15, 6, 16, 17, 18, 19, 4, 20, 21, 7, 8, 9, 10, 11, 22, 23, 24, 25, 26, 27, 28, 29, 30, 31] (by decide +kernel) (by decide +kernel)
set_option maxRecDepth 20000 in
theorem gX5_exchange_X5_lay : GoodIn wsX5_exchange (wsV RX5 69 RX5 yX5_lay wsX5_lay) := goodIn_app (goodIn_of _ (by decide +kernel)) ggX5_exchange_X5_lay
theorem dX5_exchange_0 : decode cX5_exchange 0 = .ok (.aload_n 0, 1) := by decide +kernel
theorem dX5_exchange_1 : decode cX5_exchange 1 = .ok (.iload_n 1, 1) := by decide +kernel
theorem dX5_exchange_2 : decode cX5_exchange 2 = .ok (.iload_n 2, 1) := by decide +kernel
theorem dX5_exchange_3 : decode cX5_exchange 3 = .ok (.invokevirtual 104, 3) := by decide +kernel
theorem dX5_exchange_6 : decode cX5_exchange 6 = .ok (.istore_n 3, 1) := by decide +kernel
theorem dX5_exchange_7 : decode cX5_exchange 7 = .ok (.aload_n 0, 1) := by decide +kernel
theorem dX5_exchange_8 : decode cX5_exchange 8 = .ok (.iload_n 1, 1) := by decide +kernel
theorem dX5_exchange_9 : decode cX5_exchange 9 = .ok (.iload_n 2, 1) := by decide +kernel
theorem dX5_exchange_10 : decode cX5_exchange 10 = .ok (.iconst 1, 1) := by decide +kernel
theorem dX5_exchange_11 : decode cX5_exchange 11 = .ok (.iadd, 1) := by decide +kernel
theorem dX5_exchange_12 : decode cX5_exchange 12 = .ok (.invokevirtual 104, 3) := by decide +kernel
theorem dX5_exchange_15 : decode cX5_exchange 15 = .ok (.istore 4, 2) := by decide +kernel
theorem dX5_exchange_17 : decode cX5_exchange 17 = .ok (.iload_n 3, 1) := by decide +kernel
theorem dX5_exchange_18 : decode cX5_exchange 18 = .ok (.iconst (-1), 1) := by decide +kernel
theorem dX5_exchange_19 : decode cX5_exchange 19 = .ok (.if_icmp .eq 26, 3) := by decide +kernel
theorem dX5_exchange_22 : decode cX5_exchange 22 = .ok (.iload 4, 2) := by decide +kernel
theorem dX5_exchange_24 : decode cX5_exchange 24 = .ok (.iconst (-1), 1) := by decide +kernel
theorem dX5_exchange_25 : decode cX5_exchange 25 = .ok (.if_icmp .eq 20, 3) := by decide +kernel
theorem dX5_exchange_28 : decode cX5_exchange 28 = .ok (.aload_n 0, 1) := by decide +kernel
theorem dX5_exchange_29 : decode cX5_exchange 29 = .ok (.iload_n 1, 1) := by decide +kernel
theorem dX5_exchange_30 : decode cX5_exchange 30 = .ok (.iload_n 2, 1) := by decide +kernel
theorem dX5_exchange_31 : decode cX5_exchange 31 = .ok (.iload 4, 2) := by decide +kernel
theorem dX5_exchange_33 : decode cX5_exchange 33 = .ok (.invokevirtual 69, 3) := by decide +kernel
theorem dX5_exchange_36 : decode cX5_exchange 36 = .ok (.aload_n 0, 1) := by decide +kernel
theorem dX5_exchange_37 : decode cX5_exchange 37 = .ok (.iload_n 1, 1) := by decide +kernel
theorem dX5_exchange_38 : decode cX5_exchange 38 = .ok (.iload_n 2, 1) := by decide +kernel
theorem dX5_exchange_39 : decode cX5_exchange 39 = .ok (.iconst 1, 1) := by decide +kernel
theorem dX5_exchange_40 : decode cX5_exchange 40 = .ok (.iadd, 1) := by decide +kernel
theorem dX5_exchange_41 : decode cX5_exchange 41 = .ok (.iload_n 3, 1) := by decide +kernel
theorem dX5_exchange_42 : decode cX5_exchange 42 = .ok (.invokevirtual 69, 3) := by decide +kernel
theorem dX5_exchange_45 : decode cX5_exchange 45 = .ok (.return_, 1) := by decide +kernel
theorem dX5_couplesWith_0 : decode cX5_couplesWith 0 = .ok (.iconst 0, 1) := by decide +kernel
theorem dX5_couplesWith_1 : decode cX5_couplesWith 1 = .ok (.istore_n 2, 1) := by decide +kernel
theorem dX5_couplesWith_2 : decode cX5_couplesWith 2 = .ok (.iconst 0, 1) := by decide +kernel
theorem dX5_couplesWith_3 : decode cX5_couplesWith 3 = .ok (.istore_n 3, 1) := by decide +kernel
theorem dX5_couplesWith_4 : decode cX5_couplesWith 4 = .ok (.iload_n 3, 1) := by decide +kernel
theorem dX5_couplesWith_5 : decode cX5_couplesWith 5 = .ok (.aload_n 0, 1) := by decide +kernel
theorem dX5_couplesWith_6 : decode cX5_couplesWith 6 = .ok (.getfield 43, 3) := by decide +kernel
theorem dX5_couplesWith_9 : decode cX5_couplesWith 9 = .ok (.if_icmp .ge 32, 3) := by decide +kernel
theorem dX5_couplesWith_12 : decode cX5_couplesWith 12 = .ok (.aload_n 0, 1) := by decide +kernel
theorem dX5_couplesWith_13 : decode cX5_couplesWith 13 = .ok (.getfield 21, 3) := by decide +kernel
theorem dX5_couplesWith_16 : decode cX5_couplesWith 16 = .ok (.iload_n 3, 1) := by decide +kernel
theorem dX5_couplesWith_17 : decode cX5_couplesWith 17 = .ok (.iaload, 1) := by decide +kernel
theorem dX5_couplesWith_18 : decode cX5_couplesWith 18 = .ok (.iload_n 1, 1) := by decide +kernel
theorem dX5_couplesWith_19 : decode cX5_couplesWith 19 = .ok (.if_icmp .eq 13, 3) := by decide +kernel
theorem dX5_couplesWith_22 : decode cX5_couplesWith 22 = .ok (.aload_n 0, 1) := by decide +kernel
theorem dX5_couplesWith_23 : decode cX5_couplesWith 23 = .ok (.getfield 24, 3) := by decide +kernel
theorem dX5_couplesWith_26 : decode cX5_couplesWith 26 = .ok (.iload_n 3, 1) := by decide +kernel
theorem dX5_couplesWith_27 : decode cX5_couplesWith 27 = .ok (.iaload, 1) := by decide +kernel
theorem dX5_couplesWith_28 : decode cX5_couplesWith 28 = .ok (.iload_n 1, 1) := by decide +kernel
theorem dX5_couplesWith_29 : decode cX5_couplesWith 29 = .ok (.if_icmp .ne 6, 3) := by decide +kernel
theorem dX5_couplesWith_32 : decode cX5_couplesWith 32 = .ok (.iinc 2 1, 3) := by decide +kernel
theorem dX5_couplesWith_35 : decode cX5_couplesWith 35 = .ok (.iinc 3 1, 3) := by decide +kernel
theorem dX5_couplesWith_38 : decode cX5_couplesWith 38 = .ok (.goto (-34), 3) := by decide +kernel
theorem dX5_couplesWith_41 : decode cX5_couplesWith 41 = .ok (.iload_n 2, 1) := by decide +kernel
theorem dX5_couplesWith_42 : decode cX5_couplesWith 42 = .ok (.ireturn, 1) := by decide +kernel
theorem dX5_childrenOf_0 : decode cX5_childrenOf 0 = .ok (.iconst 0, 1) := by decide +kernel
theorem dX5_childrenOf_1 : decode cX5_childrenOf 1 = .ok (.istore_n 2, 1) := by decide +kernel
theorem dX5_childrenOf_2 : decode cX5_childrenOf 2 = .ok (.iconst 0, 1) := by decide +kernel
theorem dX5_childrenOf_3 : decode cX5_childrenOf 3 = .ok (.istore_n 3, 1) := by decide +kernel
theorem dX5_childrenOf_4 : decode cX5_childrenOf 4 = .ok (.iload_n 3, 1) := by decide +kernel
theorem dX5_childrenOf_5 : decode cX5_childrenOf 5 = .ok (.aload_n 0, 1) := by decide +kernel
theorem dX5_childrenOf_6 : decode cX5_childrenOf 6 = .ok (.getfield 39, 3) := by decide +kernel
theorem dX5_childrenOf_9 : decode cX5_childrenOf 9 = .ok (.if_icmp .ge 22, 3) := by decide +kernel
theorem dX5_childrenOf_12 : decode cX5_childrenOf 12 = .ok (.aload_n 0, 1) := by decide +kernel
theorem dX5_childrenOf_13 : decode cX5_childrenOf 13 = .ok (.getfield 18, 3) := by decide +kernel
theorem dX5_childrenOf_16 : decode cX5_childrenOf 16 = .ok (.iload_n 3, 1) := by decide +kernel
theorem dX5_childrenOf_17 : decode cX5_childrenOf 17 = .ok (.iaload, 1) := by decide +kernel
theorem dX5_childrenOf_18 : decode cX5_childrenOf 18 = .ok (.iload_n 1, 1) := by decide +kernel
theorem dX5_childrenOf_19 : decode cX5_childrenOf 19 = .ok (.if_icmp .ne 6, 3) := by decide +kernel
theorem dX5_childrenOf_22 : decode cX5_childrenOf 22 = .ok (.iinc 2 1, 3) := by decide +kernel
theorem dX5_childrenOf_25 : decode cX5_childrenOf 25 = .ok (.iinc 3 1, 3) := by decide +kernel
theorem dX5_childrenOf_28 : decode cX5_childrenOf 28 = .ok (.goto (-24), 3) := by decide +kernel
theorem dX5_childrenOf_31 : decode cX5_childrenOf 31 = .ok (.iload_n 2, 1) := by decide +kernel
theorem dX5_childrenOf_32 : decode cX5_childrenOf 32 = .ok (.ireturn, 1) := by decide +kernel
set_option maxRecDepth 20000 in
theorem ggX5_childrenWith_X5_childrenOf : GoodIn wsX5_childrenWith wsX5_childrenOf := goodIn_r _ [8, 9, 10, 11, 12, 13, 14, 15, 16, 17, 18, 19, 20] (by decide +kernel) (by decide +kernel)
set_option maxRecDepth 20000 in
theorem gX5_childrenWith_X5_childrenOf : GoodIn wsX5_childrenWith (wsV RX5 107 RX5 yX5_childrenOf wsX5_childrenOf) := goodIn_app (goodIn_of _ (by decide +kernel)) ggX5_childrenWith_X5_childrenOf
theorem dX5_childrenWith_0 : decode cX5_childrenWith 0 = .ok (.iconst 0, 1) := by decide +kernel
theorem dX5_childrenWith_1 : decode cX5_childrenWith 1 = .ok (.istore_n 2, 1) := by decide +kernel
theorem dX5_childrenWith_2 : decode cX5_childrenWith 2 = .ok (.iconst 0, 1) := by decide +kernel
theorem dX5_childrenWith_3 : decode cX5_childrenWith 3 = .ok (.istore_n 3, 1) := by decide +kernel
theorem dX5_childrenWith_4 : decode cX5_childrenWith 4 = .ok (.iload_n 3, 1) := by decide +kernel
theorem dX5_childrenWith_5 : decode cX5_childrenWith 5 = .ok (.aload_n 0, 1) := by decide +kernel
theorem dX5_childrenWith_6 : decode cX5_childrenWith 6 = .ok (.getfield 43, 3) := by decide +kernel
theorem dX5_childrenWith_9 : decode cX5_childrenWith 9 = .ok (.if_icmp .ge 37, 3) := by decide +kernel
theorem dX5_childrenWith_12 : decode cX5_childrenWith 12 = .ok (.aload_n 0, 1) := by decide +kernel
theorem dX5_childrenWith_13 : decode cX5_childrenWith 13 = .ok (.getfield 21, 3) := by decide +kernel
theorem dX5_childrenWith_16 : decode cX5_childrenWith 16 = .ok (.iload_n 3, 1) := by decide +kernel
theorem dX5_childrenWith_17 : decode cX5_childrenWith 17 = .ok (.iaload, 1) := by decide +kernel
theorem dX5_childrenWith_18 : decode cX5_childrenWith 18 = .ok (.iload_n 1, 1) := by decide +kernel
theorem dX5_childrenWith_19 : decode cX5_childrenWith 19 = .ok (.if_icmp .eq 13, 3) := by decide +kernel
theorem dX5_childrenWith_22 : decode cX5_childrenWith 22 = .ok (.aload_n 0, 1) := by decide +kernel
theorem dX5_childrenWith_23 : decode cX5_childrenWith 23 = .ok (.getfield 24, 3) := by decide +kernel
theorem dX5_childrenWith_26 : decode cX5_childrenWith 26 = .ok (.iload_n 3, 1) := by decide +kernel
theorem dX5_childrenWith_27 : decode cX5_childrenWith 27 = .ok (.iaload, 1) := by decide +kernel
theorem dX5_childrenWith_28 : decode cX5_childrenWith 28 = .ok (.iload_n 1, 1) := by decide +kernel
theorem dX5_childrenWith_29 : decode cX5_childrenWith 29 = .ok (.if_icmp .ne 11, 3) := by decide +kernel
theorem dX5_childrenWith_32 : decode cX5_childrenWith 32 = .ok (.iload_n 2, 1) := by decide +kernel
theorem dX5_childrenWith_33 : decode cX5_childrenWith 33 = .ok (.aload_n 0, 1) := by decide +kernel
theorem dX5_childrenWith_34 : decode cX5_childrenWith 34 = .ok (.iload_n 3, 1) := by decide +kernel
theorem dX5_childrenWith_35 : decode cX5_childrenWith 35 = .ok (.invokevirtual 107, 3) := by decide +kernel
theorem dX5_childrenWith_38 : decode cX5_childrenWith 38 = .ok (.iadd, 1) := by decide +kernel
theorem dX5_childrenWith_39 : decode cX5_childrenWith 39 = .ok (.istore_n 2, 1) := by decide +kernel
theorem dX5_childrenWith_40 : decode cX5_childrenWith 40 = .ok (.iinc 3 1, 3) := by decide +kernel
theorem dX5_childrenWith_43 : decode cX5_childrenWith 43 = .ok (.goto (-39), 3) := by decide +kernel
theorem dX5_childrenWith_46 : decode cX5_childrenWith 46 = .ok (.iload_n 2, 1) := by decide +kernel
theorem dX5_childrenWith_47 : decode cX5_childrenWith 47 = .ok (.ireturn, 1) := by decide +kernel
set_option maxRecDepth 20000 in
theorem ggX5_lines_X5_childrenOf : GoodIn wsX5_lines wsX5_childrenOf := goodIn_r _ [6, 1, 7, 8, 9, 10, 11, 12, 13, 14, 15, 16, 17] (by decide +kernel) (by decide +kernel)
set_option maxRecDepth 20000 in
theorem gX5_lines_X5_childrenOf : GoodIn wsX5_lines (wsV RX5 107 RX5 yX5_childrenOf wsX5_childrenOf) := goodIn_app (goodIn_of _ (by decide +kernel)) ggX5_lines_X5_childrenOf
theorem dX5_lines_0 : decode cX5_lines 0 = .ok (.aload_n 0, 1) := by decide +kernel
theorem dX5_lines_1 : decode cX5_lines 1 = .ok (.getfield 39, 3) := by decide +kernel
theorem dX5_lines_4 : decode cX5_lines 4 = .ok (.aload_n 0, 1) := by decide +kernel
theorem dX5_lines_5 : decode cX5_lines 5 = .ok (.iconst (-1), 1) := by decide +kernel
theorem dX5_lines_6 : decode cX5_lines 6 = .ok (.invokevirtual 107, 3) := by decide +kernel
theorem dX5_lines_9 : decode cX5_lines 9 = .ok (.isub, 1) := by decide +kernel
theorem dX5_lines_10 : decode cX5_lines 10 = .ok (.ireturn, 1) := by decide +kernel
set_option maxRecDepth 20000 in
theorem ggX5_bentLines_X5_middleAbove : GoodIn wsX5_bentLines wsX5_middleAbove := goodIn_r _ [8, 9, 10, 11, 7, 12, 2, 13, 14, 15, 16, 1, 17, 18, 19, 20, 21, 22, 23, 24, 25, 26, 27, 28, 29, 30, 31, 3, 32, 33, 34, 35, 36, 37, 38, 39, 40, 41] (by decide +kernel) (by decide +kernel)
set_option maxRecDepth 20000 in
theorem gX5_bentLines_X5_middleAbove : GoodIn wsX5_bentLines (wsV RX5 110 RX5 yX5_middleAbove wsX5_middleAbove) := goodIn_app (goodIn_of _ (by decide +kernel)) ggX5_bentLines_X5_middleAbove
theorem dX5_bentLines_0 : decode cX5_bentLines 0 = .ok (.iconst 0, 1) := by decide +kernel
theorem dX5_bentLines_1 : decode cX5_bentLines 1 = .ok (.istore_n 1, 1) := by decide +kernel
theorem dX5_bentLines_2 : decode cX5_bentLines 2 = .ok (.iconst 0, 1) := by decide +kernel
theorem dX5_bentLines_3 : decode cX5_bentLines 3 = .ok (.istore_n 2, 1) := by decide +kernel
theorem dX5_bentLines_4 : decode cX5_bentLines 4 = .ok (.iload_n 2, 1) := by decide +kernel
theorem dX5_bentLines_5 : decode cX5_bentLines 5 = .ok (.aload_n 0, 1) := by decide +kernel
theorem dX5_bentLines_6 : decode cX5_bentLines 6 = .ok (.getfield 39, 3) := by decide +kernel
theorem dX5_bentLines_9 : decode cX5_bentLines 9 = .ok (.if_icmp .ge 38, 3) := by decide +kernel
theorem dX5_bentLines_12 : decode cX5_bentLines 12 = .ok (.aload_n 0, 1) := by decide +kernel
theorem dX5_bentLines_13 : decode cX5_bentLines 13 = .ok (.getfield 18, 3) := by decide +kernel
theorem dX5_bentLines_16 : decode cX5_bentLines 16 = .ok (.iload_n 2, 1) := by decide +kernel
theorem dX5_bentLines_17 : decode cX5_bentLines 17 = .ok (.iaload, 1) := by decide +kernel
theorem dX5_bentLines_18 : decode cX5_bentLines 18 = .ok (.iconst (-1), 1) := by decide +kernel
theorem dX5_bentLines_19 : decode cX5_bentLines 19 = .ok (.if_icmp .eq 22, 3) := by decide +kernel
theorem dX5_bentLines_22 : decode cX5_bentLines 22 = .ok (.aload_n 0, 1) := by decide +kernel
theorem dX5_bentLines_23 : decode cX5_bentLines 23 = .ok (.iload_n 2, 1) := by decide +kernel
theorem dX5_bentLines_24 : decode cX5_bentLines 24 = .ok (.invokevirtual 110, 3) := by decide +kernel
theorem dX5_bentLines_27 : decode cX5_bentLines 27 = .ok (.iconst 2, 1) := by decide +kernel
theorem dX5_bentLines_28 : decode cX5_bentLines 28 = .ok (.aload_n 0, 1) := by decide +kernel
theorem dX5_bentLines_29 : decode cX5_bentLines 29 = .ok (.getfield 15, 3) := by decide +kernel
theorem dX5_bentLines_32 : decode cX5_bentLines 32 = .ok (.iload_n 2, 1) := by decide +kernel
theorem dX5_bentLines_33 : decode cX5_bentLines 33 = .ok (.iaload, 1) := by decide +kernel
theorem dX5_bentLines_34 : decode cX5_bentLines 34 = .ok (.imul, 1) := by decide +kernel
theorem dX5_bentLines_35 : decode cX5_bentLines 35 = .ok (.if_icmp .eq 6, 3) := by decide +kernel
theorem dX5_bentLines_38 : decode cX5_bentLines 38 = .ok (.iinc 1 1, 3) := by decide +kernel
theorem dX5_bentLines_41 : decode cX5_bentLines 41 = .ok (.iinc 2 1, 3) := by decide +kernel
theorem dX5_bentLines_44 : decode cX5_bentLines 44 = .ok (.goto (-40), 3) := by decide +kernel
theorem dX5_bentLines_47 : decode cX5_bentLines 47 = .ok (.iload_n 1, 1) := by decide +kernel
theorem dX5_bentLines_48 : decode cX5_bentLines 48 = .ok (.ireturn, 1) := by decide +kernel
set_option maxRecDepth 20000 in
theorem ggX5_doubles_X5_isDouble : GoodIn wsX5_doubles wsX5_isDouble := goodIn_r _ [6, 7, 8, 9, 5, 10, 11, 12, 13, 14, 15, 16, 17, 18, 19, 20, 21, 22, 23] (by decide +kernel) (by decide +kernel)
set_option maxRecDepth 20000 in
theorem gX5_doubles_X5_isDouble : GoodIn wsX5_doubles (wsV RX5 98 RX5 yX5_isDouble wsX5_isDouble) := goodIn_app (goodIn_of _ (by decide +kernel)) ggX5_doubles_X5_isDouble
theorem dX5_doubles_0 : decode cX5_doubles 0 = .ok (.iconst 0, 1) := by decide +kernel
theorem dX5_doubles_1 : decode cX5_doubles 1 = .ok (.istore_n 1, 1) := by decide +kernel
theorem dX5_doubles_2 : decode cX5_doubles 2 = .ok (.iconst 0, 1) := by decide +kernel
theorem dX5_doubles_3 : decode cX5_doubles 3 = .ok (.istore_n 2, 1) := by decide +kernel
theorem dX5_doubles_4 : decode cX5_doubles 4 = .ok (.iload_n 2, 1) := by decide +kernel
theorem dX5_doubles_5 : decode cX5_doubles 5 = .ok (.aload_n 0, 1) := by decide +kernel
theorem dX5_doubles_6 : decode cX5_doubles 6 = .ok (.getfield 39, 3) := by decide +kernel
theorem dX5_doubles_9 : decode cX5_doubles 9 = .ok (.if_icmp .ge 20, 3) := by decide +kernel
theorem dX5_doubles_12 : decode cX5_doubles 12 = .ok (.aload_n 0, 1) := by decide +kernel
theorem dX5_doubles_13 : decode cX5_doubles 13 = .ok (.iload_n 2, 1) := by decide +kernel
theorem dX5_doubles_14 : decode cX5_doubles 14 = .ok (.invokevirtual 98, 3) := by decide +kernel
theorem dX5_doubles_17 : decode cX5_doubles 17 = .ok (.ifCond .eq 6, 3) := by decide +kernel
theorem dX5_doubles_20 : decode cX5_doubles 20 = .ok (.iinc 1 1, 3) := by decide +kernel
theorem dX5_doubles_23 : decode cX5_doubles 23 = .ok (.iinc 2 1, 3) := by decide +kernel
theorem dX5_doubles_26 : decode cX5_doubles 26 = .ok (.goto (-22), 3) := by decide +kernel
theorem dX5_doubles_29 : decode cX5_doubles 29 = .ok (.iload_n 1, 1) := by decide +kernel
theorem dX5_doubles_30 : decode cX5_doubles 30 = .ok (.ireturn, 1) := by decide +kernel
theorem dX6_init_0 : decode cX6_init 0 = .ok (.aload_n 0, 1) := by decide +kernel
theorem dX6_init_1 : decode cX6_init 1 = .ok (.invokespecial 3, 3) := by decide +kernel
theorem dX6_init_4 : decode cX6_init 4 = .ok (.aload_n 0, 1) := by decide +kernel
theorem dX6_init_5 : decode cX6_init 5 = .ok (.bipush 60, 2) := by decide +kernel
theorem dX6_init_7 : decode cX6_init 7 = .ok (.newarray .int, 2) := by decide +kernel
theorem dX6_init_9 : decode cX6_init 9 = .ok (.putfield 9, 3) := by decide +kernel
theorem dX6_init_12 : decode cX6_init 12 = .ok (.return_, 1) := by decide +kernel
theorem dX6_length_0 : decode cX6_length 0 = .ok (.aload_n 0, 1) := by decide +kernel
theorem dX6_length_1 : decode cX6_length 1 = .ok (.getfield 15, 3) := by decide +kernel
theorem dX6_length_4 : decode cX6_length 4 = .ok (.ireturn, 1) := by decide +kernel
theorem dX6_isFull_0 : decode cX6_isFull 0 = .ok (.aload_n 0, 1) := by decide +kernel
theorem dX6_isFull_1 : decode cX6_isFull 1 = .ok (.getfield 15, 3) := by decide +kernel
theorem dX6_isFull_4 : decode cX6_isFull 4 = .ok (.bipush 60, 2) := by decide +kernel
theorem dX6_isFull_6 : decode cX6_isFull 6 = .ok (.if_icmp .lt 7, 3) := by decide +kernel
theorem dX6_isFull_9 : decode cX6_isFull 9 = .ok (.iconst 1, 1) := by decide +kernel
theorem dX6_isFull_10 : decode cX6_isFull 10 = .ok (.goto 4, 3) := by decide +kernel
theorem dX6_isFull_13 : decode cX6_isFull 13 = .ok (.iconst 0, 1) := by decide +kernel
theorem dX6_isFull_14 : decode cX6_isFull 14 = .ok (.ireturn, 1) := by decide +kernel
theorem dX6_codeAt_0 : decode cX6_codeAt 0 = .ok (.iload_n 1, 1) := by decide +kernel
theorem dX6_codeAt_1 : decode cX6_codeAt 1 = .ok (.ifCond .lt 20, 3) := by decide +kernel
theorem dX6_codeAt_4 : decode cX6_codeAt 4 = .ok (.iload_n 1, 1) := by decide +kernel
theorem dX6_codeAt_5 : decode cX6_codeAt 5 = .ok (.aload_n 0, 1) := by decide +kernel
theorem dX6_codeAt_6 : decode cX6_codeAt 6 = .ok (.getfield 15, 3) := by decide +kernel
theorem dX6_codeAt_9 : decode cX6_codeAt 9 = .ok (.if_icmp .ge 12, 3) := by decide +kernel
theorem dX6_codeAt_12 : decode cX6_codeAt 12 = .ok (.aload_n 0, 1) := by decide +kernel
theorem dX6_codeAt_13 : decode cX6_codeAt 13 = .ok (.getfield 9, 3) := by decide +kernel
theorem dX6_codeAt_16 : decode cX6_codeAt 16 = .ok (.iload_n 1, 1) := by decide +kernel
theorem dX6_codeAt_17 : decode cX6_codeAt 17 = .ok (.iaload, 1) := by decide +kernel
theorem dX6_codeAt_18 : decode cX6_codeAt 18 = .ok (.goto 4, 3) := by decide +kernel
theorem dX6_codeAt_21 : decode cX6_codeAt 21 = .ok (.iconst (-1), 1) := by decide +kernel
theorem dX6_codeAt_22 : decode cX6_codeAt 22 = .ok (.ireturn, 1) := by decide +kernel
theorem dX6_add_0 : decode cX6_add 0 = .ok (.aload_n 0, 1) := by decide +kernel
theorem dX6_add_1 : decode cX6_add 1 = .ok (.getfield 15, 3) := by decide +kernel
theorem dX6_add_4 : decode cX6_add 4 = .ok (.bipush 60, 2) := by decide +kernel
theorem dX6_add_6 : decode cX6_add 6 = .ok (.if_icmp .ge 23, 3) := by decide +kernel
theorem dX6_add_9 : decode cX6_add 9 = .ok (.aload_n 0, 1) := by decide +kernel
theorem dX6_add_10 : decode cX6_add 10 = .ok (.getfield 9, 3) := by decide +kernel
theorem dX6_add_13 : decode cX6_add 13 = .ok (.aload_n 0, 1) := by decide +kernel
theorem dX6_add_14 : decode cX6_add 14 = .ok (.getfield 15, 3) := by decide +kernel
theorem dX6_add_17 : decode cX6_add 17 = .ok (.iload_n 1, 1) := by decide +kernel
theorem dX6_add_18 : decode cX6_add 18 = .ok (.iastore, 1) := by decide +kernel
theorem dX6_add_19 : decode cX6_add 19 = .ok (.aload_n 0, 1) := by decide +kernel
theorem dX6_add_20 : decode cX6_add 20 = .ok (.dup, 1) := by decide +kernel
theorem dX6_add_21 : decode cX6_add 21 = .ok (.getfield 15, 3) := by decide +kernel
theorem dX6_add_24 : decode cX6_add 24 = .ok (.iconst 1, 1) := by decide +kernel
theorem dX6_add_25 : decode cX6_add 25 = .ok (.iadd, 1) := by decide +kernel
theorem dX6_add_26 : decode cX6_add 26 = .ok (.putfield 15, 3) := by decide +kernel
theorem dX6_add_29 : decode cX6_add 29 = .ok (.aload_n 0, 1) := by decide +kernel
theorem dX6_add_30 : decode cX6_add 30 = .ok (.getfield 15, 3) := by decide +kernel
theorem dX6_add_33 : decode cX6_add 33 = .ok (.ireturn, 1) := by decide +kernel
theorem dX6_empty_0 : decode cX6_empty 0 = .ok (.aload_n 0, 1) := by decide +kernel
theorem dX6_empty_1 : decode cX6_empty 1 = .ok (.getfield 15, 3) := by decide +kernel
theorem dX6_empty_4 : decode cX6_empty 4 = .ok (.istore_n 1, 1) := by decide +kernel
theorem dX6_empty_5 : decode cX6_empty 5 = .ok (.aload_n 0, 1) := by decide +kernel
theorem dX6_empty_6 : decode cX6_empty 6 = .ok (.iconst 0, 1) := by decide +kernel
theorem dX6_empty_7 : decode cX6_empty 7 = .ok (.putfield 15, 3) := by decide +kernel
theorem dX6_empty_10 : decode cX6_empty 10 = .ok (.iload_n 1, 1) := by decide +kernel
theorem dX6_empty_11 : decode cX6_empty 11 = .ok (.ireturn, 1) := by decide +kernel
set_option maxRecDepth 20000 in
theorem ggX6_firstBad_X6_stateBehind : GoodIn wsX6_firstBad wsX6_stateBehind := goodIn_r _ [6, 7, 8, 5, 9, 10, 11, 12, 13, 14, 15] (by decide +kernel) (by decide +kernel)
set_option maxRecDepth 20000 in
theorem gX6_firstBad_X6_stateBehind : GoodIn wsX6_firstBad (va_wsS RX6 19 yX6_stateBehind wsX6_stateBehind) := goodIn_app (goodIn_of _ (by decide +kernel)) ggX6_firstBad_X6_stateBehind
theorem dX6_firstBad_0 : decode cX6_firstBad 0 = .ok (.iconst 0, 1) := by decide +kernel
theorem dX6_firstBad_1 : decode cX6_firstBad 1 = .ok (.istore_n 1, 1) := by decide +kernel
theorem dX6_firstBad_2 : decode cX6_firstBad 2 = .ok (.iconst 0, 1) := by decide +kernel
theorem dX6_firstBad_3 : decode cX6_firstBad 3 = .ok (.istore_n 2, 1) := by decide +kernel
theorem dX6_firstBad_4 : decode cX6_firstBad 4 = .ok (.iload_n 2, 1) := by decide +kernel
theorem dX6_firstBad_5 : decode cX6_firstBad 5 = .ok (.aload_n 0, 1) := by decide +kernel
theorem dX6_firstBad_6 : decode cX6_firstBad 6 = .ok (.getfield 15, 3) := by decide +kernel
theorem dX6_firstBad_9 : decode cX6_firstBad 9 = .ok (.if_icmp .ge 28, 3) := by decide +kernel
theorem dX6_firstBad_12 : decode cX6_firstBad 12 = .ok (.iload_n 1, 1) := by decide +kernel
theorem dX6_firstBad_13 : decode cX6_firstBad 13 = .ok (.aload_n 0, 1) := by decide +kernel
theorem dX6_firstBad_14 : decode cX6_firstBad 14 = .ok (.getfield 9, 3) := by decide +kernel
theorem dX6_firstBad_17 : decode cX6_firstBad 17 = .ok (.iload_n 2, 1) := by decide +kernel
theorem dX6_firstBad_18 : decode cX6_firstBad 18 = .ok (.iaload, 1) := by decide +kernel
theorem dX6_firstBad_19 : decode cX6_firstBad 19 = .ok (.invokestatic 19, 3) := by decide +kernel
theorem dX6_firstBad_22 : decode cX6_firstBad 22 = .ok (.istore_n 1, 1) := by decide +kernel
theorem dX6_firstBad_23 : decode cX6_firstBad 23 = .ok (.iload_n 1, 1) := by decide +kernel
theorem dX6_firstBad_24 : decode cX6_firstBad 24 = .ok (.bipush 8, 2) := by decide +kernel
theorem dX6_firstBad_26 : decode cX6_firstBad 26 = .ok (.if_icmp .ne 5, 3) := by decide +kernel
theorem dX6_firstBad_29 : decode cX6_firstBad 29 = .ok (.iload_n 2, 1) := by decide +kernel
theorem dX6_firstBad_30 : decode cX6_firstBad 30 = .ok (.ireturn, 1) := by decide +kernel
theorem dX6_firstBad_31 : decode cX6_firstBad 31 = .ok (.iinc 2 1, 3) := by decide +kernel
theorem dX6_firstBad_34 : decode cX6_firstBad 34 = .ok (.goto (-30), 3) := by decide +kernel
theorem dX6_firstBad_37 : decode cX6_firstBad 37 = .ok (.aload_n 0, 1) := by decide +kernel
theorem dX6_firstBad_38 : decode cX6_firstBad 38 = .ok (.getfield 15, 3) := by decide +kernel
theorem dX6_firstBad_41 : decode cX6_firstBad 41 = .ok (.ireturn, 1) := by decide +kernel
set_option maxRecDepth 20000 in
theorem ggX6_isWhole_X6_stateBehind : GoodIn wsX6_isWhole wsX6_stateBehind := goodIn_r _ [6, 7, 8, 5, 9, 10, 11, 12, 13, 14, 15] (by decide +kernel) (by decide +kernel)
set_option maxRecDepth 20000 in
theorem gX6_isWhole_X6_stateBehind : GoodIn wsX6_isWhole (va_wsS RX6 19 yX6_stateBehind wsX6_stateBehind) := goodIn_app (goodIn_of _ (by decide +kernel)) ggX6_isWhole_X6_stateBehind
theorem dX6_isWhole_0 : decode cX6_isWhole 0 = .ok (.iconst 0, 1) := by decide +kernel
theorem dX6_isWhole_1 : decode cX6_isWhole 1 = .ok (.istore_n 1, 1) := by decide +kernel
theorem dX6_isWhole_2 : decode cX6_isWhole 2 = .ok (.iconst 0, 1) := by decide +kernel
theorem dX6_isWhole_3 : decode cX6_isWhole 3 = .ok (.istore_n 2, 1) := by decide +kernel
theorem dX6_isWhole_4 : decode cX6_isWhole 4 = .ok (.iload_n 2, 1) := by decide +kernel
theorem dX6_isWhole_5 : decode cX6_isWhole 5 = .ok (.aload_n 0, 1) := by decide +kernel
theorem dX6_isWhole_6 : decode cX6_isWhole 6 = .ok (.getfield 15, 3) := by decide +kernel
theorem dX6_isWhole_9 : decode cX6_isWhole 9 = .ok (.if_icmp .ge 20, 3) := by decide +kernel
theorem dX6_isWhole_12 : decode cX6_isWhole 12 = .ok (.iload_n 1, 1) := by decide +kernel
theorem dX6_isWhole_13 : decode cX6_isWhole 13 = .ok (.aload_n 0, 1) := by decide +kernel
theorem dX6_isWhole_14 : decode cX6_isWhole 14 = .ok (.getfield 9, 3) := by decide +kernel
theorem dX6_isWhole_17 : decode cX6_isWhole 17 = .ok (.iload_n 2, 1) := by decide +kernel
theorem dX6_isWhole_18 : decode cX6_isWhole 18 = .ok (.iaload, 1) := by decide +kernel
theorem dX6_isWhole_19 : decode cX6_isWhole 19 = .ok (.invokestatic 19, 3) := by decide +kernel
theorem dX6_isWhole_22 : decode cX6_isWhole 22 = .ok (.istore_n 1, 1) := by decide +kernel
theorem dX6_isWhole_23 : decode cX6_isWhole 23 = .ok (.iinc 2 1, 3) := by decide +kernel
theorem dX6_isWhole_26 : decode cX6_isWhole 26 = .ok (.goto (-22), 3) := by decide +kernel
theorem dX6_isWhole_29 : decode cX6_isWhole 29 = .ok (.iload_n 1, 1) := by decide +kernel
theorem dX6_isWhole_30 : decode cX6_isWhole 30 = .ok (.iconst 1, 1) := by decide +kernel
theorem dX6_isWhole_31 : decode cX6_isWhole 31 = .ok (.if_icmp .eq 9, 3) := by decide +kernel
theorem dX6_isWhole_34 : decode cX6_isWhole 34 = .ok (.iload_n 1, 1) := by decide +kernel
theorem dX6_isWhole_35 : decode cX6_isWhole 35 = .ok (.bipush 6, 2) := by decide +kernel
theorem dX6_isWhole_37 : decode cX6_isWhole 37 = .ok (.if_icmp .ne 7, 3) := by decide +kernel
theorem dX6_isWhole_40 : decode cX6_isWhole 40 = .ok (.iconst 1, 1) := by decide +kernel
theorem dX6_isWhole_41 : decode cX6_isWhole 41 = .ok (.goto 4, 3) := by decide +kernel
theorem dX6_isWhole_44 : decode cX6_isWhole 44 = .ok (.iconst 0, 1) := by decide +kernel
theorem dX6_isWhole_45 : decode cX6_isWhole 45 = .ok (.ireturn, 1) := by decide +kernel
set_option maxRecDepth 20000 in
theorem ggX6_stateBehind_X6_stateBehindStart : GoodIn wsX6_stateBehind wsX6_stateBehindStart := goodIn_r _ [4] (by decide +kernel) (by decide +kernel)
set_option maxRecDepth 20000 in
theorem gX6_stateBehind_X6_stateBehindStart : GoodIn wsX6_stateBehind (va_wsS RX6 23 yX6_stateBehindStart wsX6_stateBehindStart) := goodIn_app (goodIn_of _ (by decide +kernel)) ggX6_stateBehind_X6_stateBehindStart
set_option maxRecDepth 20000 in
theorem ggX6_stateBehind_X6_stateBehindDigit : GoodIn wsX6_stateBehind wsX6_stateBehindDigit := goodIn_r _ [7, 8, 9, 3, 10] (by decide +kernel) (by decide +kernel)
set_option maxRecDepth 20000 in
theorem gX6_stateBehind_X6_stateBehindDigit : GoodIn wsX6_stateBehind (va_wsS RX6 27 yX6_stateBehindDigit wsX6_stateBehindDigit) := goodIn_app (goodIn_of _ (by decide +kernel)) ggX6_stateBehind_X6_stateBehindDigit
set_option maxRecDepth 20000 in
theorem ggX6_stateBehind_X6_isDigit : GoodIn wsX6_stateBehind wsX6_isDigit := goodIn_r _ [10] (by decide +kernel) (by decide +kernel)
set_option maxRecDepth 20000 in
theorem gX6_stateBehind_X6_isDigit : GoodIn wsX6_stateBehind (va_wsS RX6 31 yX6_isDigit wsX6_isDigit) := goodIn_app (goodIn_of _ (by decide +kernel)) ggX6_stateBehind_X6_isDigit
theorem dX6_stateBehind_0 : decode cX6_stateBehind 0 = .ok (.iload_n 0, 1) := by decide +kernel
theorem dX6_stateBehind_1 : decode cX6_stateBehind 1 = .ok (.tableswitch 151 0 7 #[47, 52, 65, 72, 94, 107, 115, 137], 47) := by decide +kernel
theorem dX6_stateBehind_48 : decode cX6_stateBehind 48 = .ok (.iload_n 1, 1) := by decide +kernel
theorem dX6_stateBehind_49 : decode cX6_stateBehind 49 = .ok (.invokestatic 23, 3) := by decide +kernel
theorem dX6_stateBehind_52 : decode cX6_stateBehind 52 = .ok (.ireturn, 1) := by decide +kernel
theorem dX6_stateBehind_53 : decode cX6_stateBehind 53 = .ok (.iload_n 1, 1) := by decide +kernel
theorem dX6_stateBehind_54 : decode cX6_stateBehind 54 = .ok (.bipush 59, 2) := by decide +kernel
theorem dX6_stateBehind_56 : decode cX6_stateBehind 56 = .ok (.if_icmp .ne 7, 3) := by decide +kernel
theorem dX6_stateBehind_59 : decode cX6_stateBehind 59 = .ok (.iconst 0, 1) := by decide +kernel
theorem dX6_stateBehind_60 : decode cX6_stateBehind 60 = .ok (.goto 5, 3) := by decide +kernel
theorem dX6_stateBehind_63 : decode cX6_stateBehind 63 = .ok (.bipush 8, 2) := by decide +kernel
theorem dX6_stateBehind_65 : decode cX6_stateBehind 65 = .ok (.ireturn, 1) := by decide +kernel
theorem dX6_stateBehind_66 : decode cX6_stateBehind 66 = .ok (.iload_n 1, 1) := by decide +kernel
theorem dX6_stateBehind_67 : decode cX6_stateBehind 67 = .ok (.iconst 3, 1) := by decide +kernel
theorem dX6_stateBehind_68 : decode cX6_stateBehind 68 = .ok (.iconst 4, 1) := by decide +kernel
theorem dX6_stateBehind_69 : decode cX6_stateBehind 69 = .ok (.invokestatic 27, 3) := by decide +kernel
theorem dX6_stateBehind_72 : decode cX6_stateBehind 72 = .ok (.ireturn, 1) := by decide +kernel
theorem dX6_stateBehind_73 : decode cX6_stateBehind 73 = .ok (.iload_n 1, 1) := by decide +kernel
theorem dX6_stateBehind_74 : decode cX6_stateBehind 74 = .ok (.invokestatic 31, 3) := by decide +kernel
theorem dX6_stateBehind_77 : decode cX6_stateBehind 77 = .ok (.ifCond .eq 5, 3) := by decide +kernel
theorem dX6_stateBehind_80 : decode cX6_stateBehind 80 = .ok (.iconst 4, 1) := by decide +kernel
theorem dX6_stateBehind_81 : decode cX6_stateBehind 81 = .ok (.ireturn, 1) := by decide +kernel
theorem dX6_stateBehind_82 : decode cX6_stateBehind 82 = .ok (.iload_n 1, 1) := by decide +kernel
theorem dX6_stateBehind_83 : decode cX6_stateBehind 83 = .ok (.bipush 38, 2) := by decide +kernel
theorem dX6_stateBehind_85 : decode cX6_stateBehind 85 = .ok (.if_icmp .ne 7, 3) := by decide +kernel
theorem dX6_stateBehind_88 : decode cX6_stateBehind 88 = .ok (.iconst 5, 1) := by decide +kernel
theorem dX6_stateBehind_89 : decode cX6_stateBehind 89 = .ok (.goto 5, 3) := by decide +kernel
theorem dX6_stateBehind_92 : decode cX6_stateBehind 92 = .ok (.bipush 8, 2) := by decide +kernel
theorem dX6_stateBehind_94 : decode cX6_stateBehind 94 = .ok (.ireturn, 1) := by decide +kernel
theorem dX6_stateBehind_95 : decode cX6_stateBehind 95 = .ok (.iload_n 1, 1) := by decide +kernel
theorem dX6_stateBehind_96 : decode cX6_stateBehind 96 = .ok (.bipush 38, 2) := by decide +kernel
theorem dX6_stateBehind_98 : decode cX6_stateBehind 98 = .ok (.if_icmp .ne 7, 3) := by decide +kernel
theorem dX6_stateBehind_101 : decode cX6_stateBehind 101 = .ok (.iconst 5, 1) := by decide +kernel
theorem dX6_stateBehind_102 : decode cX6_stateBehind 102 = .ok (.goto 5, 3) := by decide +kernel
theorem dX6_stateBehind_105 : decode cX6_stateBehind 105 = .ok (.bipush 8, 2) := by decide +kernel
theorem dX6_stateBehind_107 : decode cX6_stateBehind 107 = .ok (.ireturn, 1) := by decide +kernel
theorem dX6_stateBehind_108 : decode cX6_stateBehind 108 = .ok (.iload_n 1, 1) := by decide +kernel
theorem dX6_stateBehind_109 : decode cX6_stateBehind 109 = .ok (.bipush 6, 2) := by decide +kernel
theorem dX6_stateBehind_111 : decode cX6_stateBehind 111 = .ok (.iconst 1, 1) := by decide +kernel
theorem dX6_stateBehind_112 : decode cX6_stateBehind 112 = .ok (.invokestatic 27, 3) := by decide +kernel
theorem dX6_stateBehind_115 : decode cX6_stateBehind 115 = .ok (.ireturn, 1) := by decide +kernel
theorem dX6_stateBehind_116 : decode cX6_stateBehind 116 = .ok (.iload_n 1, 1) := by decide +kernel
theorem dX6_stateBehind_117 : decode cX6_stateBehind 117 = .ok (.invokestatic 31, 3) := by decide +kernel
theorem dX6_stateBehind_120 : decode cX6_stateBehind 120 = .ok (.ifCond .eq 5, 3) := by decide +kernel
theorem dX6_stateBehind_123 : decode cX6_stateBehind 123 = .ok (.iconst 1, 1) := by decide +kernel
theorem dX6_stateBehind_124 : decode cX6_stateBehind 124 = .ok (.ireturn, 1) := by decide +kernel
theorem dX6_stateBehind_125 : decode cX6_stateBehind 125 = .ok (.iload_n 1, 1) := by decide +kernel
theorem dX6_stateBehind_126 : decode cX6_stateBehind 126 = .ok (.bipush 59, 2) := by decide +kernel
theorem dX6_stateBehind_128 : decode cX6_stateBehind 128 = .ok (.if_icmp .ne 7, 3) := by decide +kernel
theorem dX6_stateBehind_131 : decode cX6_stateBehind 131 = .ok (.iconst 0, 1) := by decide +kernel
theorem dX6_stateBehind_132 : decode cX6_stateBehind 132 = .ok (.goto 5, 3) := by decide +kernel
theorem dX6_stateBehind_135 : decode cX6_stateBehind 135 = .ok (.bipush 8, 2) := by decide +kernel
theorem dX6_stateBehind_137 : decode cX6_stateBehind 137 = .ok (.ireturn, 1) := by decide +kernel
theorem dX6_stateBehind_138 : decode cX6_stateBehind 138 = .ok (.iload_n 1, 1) := by decide +kernel
theorem dX6_stateBehind_139 : decode cX6_stateBehind 139 = .ok (.invokestatic 31, 3) := by decide +kernel
theorem dX6_stateBehind_142 : decode cX6_stateBehind 142 = .ok (.ifCond .eq 7, 3) := by decide +kernel
theorem dX6_stateBehind_145 : decode cX6_stateBehind 145 = .ok (.iconst 1, 1) := by decide +kernel
theorem dX6_stateBehind_146 : decode cX6_stateBehind 146 = .ok (.goto 5, 3) := by decide +kernel
theorem dX6_stateBehind_149 : decode cX6_stateBehind 149 = .ok (.bipush 8, 2) := by decide +kernel
theorem dX6_stateBehind_151 : decode cX6_stateBehind 151 = .ok (.ireturn, 1) := by decide +kernel
theorem dX6_stateBehind_152 : decode cX6_stateBehind 152 = .ok (.bipush 8, 2) := by decide +kernel
theorem dX6_stateBehind_154 : decode cX6_stateBehind 154 = .ok (.ireturn, 1) := by decide +kernel
theorem dX6_stateBehindStart_0 : decode cX6_stateBehindStart 0 = .ok (.iload_n 0, 1) := by decide +kernel
theorem dX6_stateBehindStart_1 : decode cX6_stateBehindStart 1 = .ok (.bipush 48, 2) := by decide +kernel
theorem dX6_stateBehindStart_3 : decode cX6_stateBehindStart 3 = .ok (.if_icmp .lt 11, 3) := by decide +kernel
theorem dX6_stateBehindStart_6 : decode cX6_stateBehindStart 6 = .ok (.iload_n 0, 1) := by decide +kernel
theorem dX6_stateBehindStart_7 : decode cX6_stateBehindStart 7 = .ok (.bipush 52, 2) := by decide +kernel
theorem dX6_stateBehindStart_9 : decode cX6_stateBehindStart 9 = .ok (.if_icmp .ge 5, 3) := by decide +kernel
theorem dX6_stateBehindStart_12 : decode cX6_stateBehindStart 12 = .ok (.iconst 1, 1) := by decide +kernel
theorem dX6_stateBehindStart_13 : decode cX6_stateBehindStart 13 = .ok (.ireturn, 1) := by decide +kernel
theorem dX6_stateBehindStart_14 : decode cX6_stateBehindStart 14 = .ok (.iload_n 0, 1) := by decide +kernel
theorem dX6_stateBehindStart_15 : decode cX6_stateBehindStart 15 = .ok (.bipush 43, 2) := by decide +kernel
theorem dX6_stateBehindStart_17 : decode cX6_stateBehindStart 17 = .ok (.if_icmp .ne 5, 3) := by decide +kernel
theorem dX6_stateBehindStart_20 : decode cX6_stateBehindStart 20 = .ok (.iconst 2, 1) := by decide +kernel
theorem dX6_stateBehindStart_21 : decode cX6_stateBehindStart 21 = .ok (.ireturn, 1) := by decide +kernel
theorem dX6_stateBehindStart_22 : decode cX6_stateBehindStart 22 = .ok (.iload_n 0, 1) := by decide +kernel
theorem dX6_stateBehindStart_23 : decode cX6_stateBehindStart 23 = .ok (.bipush 94, 2) := by decide +kernel
theorem dX6_stateBehindStart_25 : decode cX6_stateBehindStart 25 = .ok (.if_icmp .ne 8, 3) := by decide +kernel
theorem dX6_stateBehindStart_28 : decode cX6_stateBehindStart 28 = .ok (.bipush 7, 2) := by decide +kernel
theorem dX6_stateBehindStart_30 : decode cX6_stateBehindStart 30 = .ok (.goto 5, 3) := by decide +kernel
theorem dX6_stateBehindStart_33 : decode cX6_stateBehindStart 33 = .ok (.bipush 8, 2) := by decide +kernel
theorem dX6_stateBehindStart_35 : decode cX6_stateBehindStart 35 = .ok (.ireturn, 1) := by decide +kernel
set_option maxRecDepth 20000 in
theorem ggX6_stateBehindDigit_X6_isDigit : GoodIn wsX6_stateBehindDigit wsX6_isDigit := goodIn_r _ [4] (by decide +kernel) (by decide +kernel)
set_option maxRecDepth 20000 in
theorem gX6_stateBehindDigit_X6_isDigit : GoodIn wsX6_stateBehindDigit (va_wsS RX6 31 yX6_isDigit wsX6_isDigit) := goodIn_app (goodIn_of _ (by decide +kernel)) ggX6_stateBehindDigit_X6_isDigit
theorem dX6_stateBehindDigit_0 : decode cX6_stateBehindDigit 0 = .ok (.iload_n 0, 1) := by decide +kernel
theorem dX6_stateBehindDigit_1 : decode cX6_stateBehindDigit 1 = .ok (.invokestatic 31, 3) := by decide +kernel
theorem dX6_stateBehindDigit_4 : decode cX6_stateBehindDigit 4 = .ok (.ifCond .ne 6, 3) := by decide +kernel
theorem dX6_stateBehindDigit_7 : decode cX6_stateBehindDigit 7 = .ok (.bipush 8, 2) := by decide +kernel
theorem dX6_stateBehindDigit_9 : decode cX6_stateBehindDigit 9 = .ok (.ireturn, 1) := by decide +kernel
theorem dX6_stateBehindDigit_10 : decode cX6_stateBehindDigit 10 = .ok (.iload_n 0, 1) := by decide +kernel
theorem dX6_stateBehindDigit_11 : decode cX6_stateBehindDigit 11 = .ok (.bipush 49, 2) := by decide +kernel
theorem dX6_stateBehindDigit_13 : decode cX6_stateBehindDigit 13 = .ok (.if_icmp .ne 7, 3) := by decide +kernel
theorem dX6_stateBehindDigit_16 : decode cX6_stateBehindDigit 16 = .ok (.iload_n 1, 1) := by decide +kernel
theorem dX6_stateBehindDigit_17 : decode cX6_stateBehindDigit 17 = .ok (.goto 4, 3) := by decide +kernel
theorem dX6_stateBehindDigit_20 : decode cX6_stateBehindDigit 20 = .ok (.iload_n 2, 1) := by decide +kernel
theorem dX6_stateBehindDigit_21 : decode cX6_stateBehindDigit 21 = .ok (.ireturn, 1) := by decide +kernel
theorem dX6_isDigit_0 : decode cX6_isDigit 0 = .ok (.iload_n 0, 1) := by decide +kernel
theorem dX6_isDigit_1 : decode cX6_isDigit 1 = .ok (.bipush 48, 2) := by decide +kernel
theorem dX6_isDigit_3 : decode cX6_isDigit 3 = .ok (.if_icmp .lt 13, 3) := by decide +kernel
theorem dX6_isDigit_6 : decode cX6_isDigit 6 = .ok (.iload_n 0, 1) := by decide +kernel
theorem dX6_isDigit_7 : decode cX6_isDigit 7 = .ok (.bipush 57, 2) := by decide +kernel
theorem dX6_isDigit_9 : decode cX6_isDigit 9 = .ok (.if_icmp .gt 7, 3) := by decide +kernel
theorem dX6_isDigit_12 : decode cX6_isDigit 12 = .ok (.iconst 1, 1) := by decide +kernel
theorem dX6_isDigit_13 : decode cX6_isDigit 13 = .ok (.goto 4, 3) := by decide +kernel
theorem dX6_isDigit_16 : decode cX6_isDigit 16 = .ok (.iconst 0, 1) := by decide +kernel
theorem dX6_isDigit_17 : decode cX6_isDigit 17 = .ok (.ireturn, 1) := by decide +kernel
theorem dX6_startReading_0 : decode cX6_startReading 0 = .ok (.aload_n 0, 1) := by decide +kernel
theorem dX6_startReading_1 : decode cX6_startReading 1 = .ok (.iconst 0, 1) := by decide +kernel
theorem dX6_startReading_2 : decode cX6_startReading 2 = .ok (.putfield 35, 3) := by decide +kernel
theorem dX6_startReading_5 : decode cX6_startReading 5 = .ok (.return_, 1) := by decide +kernel
set_option maxRecDepth 20000 in
theorem ggX6_readItem_X6_codeAt : GoodIn wsX6_readItem wsX6_codeAt := goodIn_r _ [9, 10, 11, 19, 20, 21, 22, 23, 24] (by decide +kernel) (by decide +kernel)
set_option maxRecDepth 20000 in
theorem gX6_readItem_X6_codeAt : GoodIn wsX6_readItem (wsV RX6 38 RX6 yX6_codeAt wsX6_codeAt) := goodIn_app (goodIn_of _ (by decide +kernel)) ggX6_readItem_X6_codeAt
set_option maxRecDepth 20000 in
theorem ggX6_readItem_X6_readNumber : GoodIn wsX6_readItem wsX6_readNumber := goodIn_r _ [15, 1, 10, 5, 6, 7, 8, 9, 11, 16, 17, 18, 19, 20, 21, 22, 23, 24] (by decide +kernel) (by decide +kernel)
set_option maxRecDepth 20000 in
theorem gX6_readItem_X6_readNumber : GoodIn wsX6_readItem (wsV RX6 44 RX6 yX6_readNumber wsX6_readNumber) := goodIn_app (goodIn_of _ (by decide +kernel)) ggX6_readItem_X6_readNumber
theorem dX6_readItem_0 : decode cX6_readItem 0 = .ok (.aload_n 0, 1) := by decide +kernel
theorem dX6_readItem_1 : decode cX6_readItem 1 = .ok (.aload_n 0, 1) := by decide +kernel
theorem dX6_readItem_2 : decode cX6_readItem 2 = .ok (.getfield 35, 3) := by decide +kernel
theorem dX6_readItem_5 : decode cX6_readItem 5 = .ok (.invokevirtual 38, 3) := by decide +kernel
theorem dX6_readItem_8 : decode cX6_readItem 8 = .ok (.istore_n 1, 1) := by decide +kernel
theorem dX6_readItem_9 : decode cX6_readItem 9 = .ok (.iload_n 1, 1) := by decide +kernel
theorem dX6_readItem_10 : decode cX6_readItem 10 = .ok (.iconst (-1), 1) := by decide +kernel
theorem dX6_readItem_11 : decode cX6_readItem 11 = .ok (.if_icmp .ne 5, 3) := by decide +kernel
theorem dX6_readItem_14 : decode cX6_readItem 14 = .ok (.iconst 0, 1) := by decide +kernel
theorem dX6_readItem_15 : decode cX6_readItem 15 = .ok (.ireturn, 1) := by decide +kernel
theorem dX6_readItem_16 : decode cX6_readItem 16 = .ok (.iload_n 1, 1) := by decide +kernel
theorem dX6_readItem_17 : decode cX6_readItem 17 = .ok (.bipush 43, 2) := by decide +kernel
theorem dX6_readItem_19 : decode cX6_readItem 19 = .ok (.if_icmp .ne 47, 3) := by decide +kernel
theorem dX6_readItem_22 : decode cX6_readItem 22 = .ok (.aload_n 0, 1) := by decide +kernel
theorem dX6_readItem_23 : decode cX6_readItem 23 = .ok (.iconst 1, 1) := by decide +kernel
theorem dX6_readItem_24 : decode cX6_readItem 24 = .ok (.putfield 41, 3) := by decide +kernel
theorem dX6_readItem_27 : decode cX6_readItem 27 = .ok (.aload_n 0, 1) := by decide +kernel
theorem dX6_readItem_28 : decode cX6_readItem 28 = .ok (.dup, 1) := by decide +kernel
theorem dX6_readItem_29 : decode cX6_readItem 29 = .ok (.getfield 35, 3) := by decide +kernel
theorem dX6_readItem_32 : decode cX6_readItem 32 = .ok (.iconst 1, 1) := by decide +kernel
theorem dX6_readItem_33 : decode cX6_readItem 33 = .ok (.iadd, 1) := by decide +kernel
theorem dX6_readItem_34 : decode cX6_readItem 34 = .ok (.putfield 35, 3) := by decide +kernel
theorem dX6_readItem_37 : decode cX6_readItem 37 = .ok (.aload_n 0, 1) := by decide +kernel
theorem dX6_readItem_38 : decode cX6_readItem 38 = .ok (.aload_n 0, 1) := by decide +kernel
theorem dX6_readItem_39 : decode cX6_readItem 39 = .ok (.invokevirtual 44, 3) := by decide +kernel
theorem dX6_readItem_42 : decode cX6_readItem 42 = .ok (.putfield 48, 3) := by decide +kernel
theorem dX6_readItem_45 : decode cX6_readItem 45 = .ok (.aload_n 0, 1) := by decide +kernel
theorem dX6_readItem_46 : decode cX6_readItem 46 = .ok (.dup, 1) := by decide +kernel
theorem dX6_readItem_47 : decode cX6_readItem 47 = .ok (.getfield 35, 3) := by decide +kernel
theorem dX6_readItem_50 : decode cX6_readItem 50 = .ok (.iconst 1, 1) := by decide +kernel
theorem dX6_readItem_51 : decode cX6_readItem 51 = .ok (.iadd, 1) := by decide +kernel
theorem dX6_readItem_52 : decode cX6_readItem 52 = .ok (.putfield 35, 3) := by decide +kernel
theorem dX6_readItem_55 : decode cX6_readItem 55 = .ok (.aload_n 0, 1) := by decide +kernel
theorem dX6_readItem_56 : decode cX6_readItem 56 = .ok (.aload_n 0, 1) := by decide +kernel
theorem dX6_readItem_57 : decode cX6_readItem 57 = .ok (.invokevirtual 44, 3) := by decide +kernel
theorem dX6_readItem_60 : decode cX6_readItem 60 = .ok (.putfield 51, 3) := by decide +kernel
theorem dX6_readItem_63 : decode cX6_readItem 63 = .ok (.goto 48, 3) := by decide +kernel
theorem dX6_readItem_66 : decode cX6_readItem 66 = .ok (.iload_n 1, 1) := by decide +kernel
theorem dX6_readItem_67 : decode cX6_readItem 67 = .ok (.bipush 94, 2) := by decide +kernel
theorem dX6_readItem_69 : decode cX6_readItem 69 = .ok (.if_icmp .ne 29, 3) := by decide +kernel
theorem dX6_readItem_72 : decode cX6_readItem 72 = .ok (.aload_n 0, 1) := by decide +kernel
theorem dX6_readItem_73 : decode cX6_readItem 73 = .ok (.iconst 2, 1) := by decide +kernel
theorem dX6_readItem_74 : decode cX6_readItem 74 = .ok (.putfield 41, 3) := by decide +kernel
theorem dX6_readItem_77 : decode cX6_readItem 77 = .ok (.aload_n 0, 1) := by decide +kernel
theorem dX6_readItem_78 : decode cX6_readItem 78 = .ok (.dup, 1) := by decide +kernel
theorem dX6_readItem_79 : decode cX6_readItem 79 = .ok (.getfield 35, 3) := by decide +kernel
theorem dX6_readItem_82 : decode cX6_readItem 82 = .ok (.iconst 1, 1) := by decide +kernel
theorem dX6_readItem_83 : decode cX6_readItem 83 = .ok (.iadd, 1) := by decide +kernel
theorem dX6_readItem_84 : decode cX6_readItem 84 = .ok (.putfield 35, 3) := by decide +kernel
theorem dX6_readItem_87 : decode cX6_readItem 87 = .ok (.aload_n 0, 1) := by decide +kernel
theorem dX6_readItem_88 : decode cX6_readItem 88 = .ok (.aload_n 0, 1) := by decide +kernel
theorem dX6_readItem_89 : decode cX6_readItem 89 = .ok (.invokevirtual 44, 3) := by decide +kernel
theorem dX6_readItem_92 : decode cX6_readItem 92 = .ok (.putfield 48, 3) := by decide +kernel
theorem dX6_readItem_95 : decode cX6_readItem 95 = .ok (.goto 16, 3) := by decide +kernel
theorem dX6_readItem_98 : decode cX6_readItem 98 = .ok (.aload_n 0, 1) := by decide +kernel
theorem dX6_readItem_99 : decode cX6_readItem 99 = .ok (.iconst 0, 1) := by decide +kernel
theorem dX6_readItem_100 : decode cX6_readItem 100 = .ok (.putfield 41, 3) := by decide +kernel
theorem dX6_readItem_103 : decode cX6_readItem 103 = .ok (.aload_n 0, 1) := by decide +kernel
theorem dX6_readItem_104 : decode cX6_readItem 104 = .ok (.aload_n 0, 1) := by decide +kernel
theorem dX6_readItem_105 : decode cX6_readItem 105 = .ok (.invokevirtual 44, 3) := by decide +kernel
theorem dX6_readItem_108 : decode cX6_readItem 108 = .ok (.putfield 48, 3) := by decide +kernel
theorem dX6_readItem_111 : decode cX6_readItem 111 = .ok (.aload_n 0, 1) := by decide +kernel
theorem dX6_readItem_112 : decode cX6_readItem 112 = .ok (.dup, 1) := by decide +kernel
theorem dX6_readItem_113 : decode cX6_readItem 113 = .ok (.getfield 35, 3) := by decide +kernel
theorem dX6_readItem_116 : decode cX6_readItem 116 = .ok (.iconst 1, 1) := by decide +kernel
theorem dX6_readItem_117 : decode cX6_readItem 117 = .ok (.iadd, 1) := by decide +kernel
theorem dX6_readItem_118 : decode cX6_readItem 118 = .ok (.putfield 35, 3) := by decide +kernel
theorem dX6_readItem_121 : decode cX6_readItem 121 = .ok (.iconst 1, 1) := by decide +kernel
theorem dX6_readItem_122 : decode cX6_readItem 122 = .ok (.ireturn, 1) := by decide +kernel
set_option maxRecDepth 20000 in
theorem ggX6_readNumber_X6_codeAt : GoodIn wsX6_readNumber wsX6_codeAt := goodIn_r _ [7, 2, 8, 12, 13, 14, 15, 16, 17] (by decide +kernel) (by decide +kernel)
set_option maxRecDepth 20000 in
theorem gX6_readNumber_X6_codeAt : GoodIn wsX6_readNumber (wsV RX6 38 RX6 yX6_codeAt wsX6_codeAt) := goodIn_app (goodIn_of _ (by decide +kernel)) ggX6_readNumber_X6_codeAt
set_option maxRecDepth 20000 in
theorem ggX6_readNumber_X6_isDigit : GoodIn wsX6_readNumber wsX6_isDigit := goodIn_r _ [11] (by decide +kernel) (by decide +kernel)
set_option maxRecDepth 20000 in
theorem gX6_readNumber_X6_isDigit : GoodIn wsX6_readNumber (va_wsS RX6 31 yX6_isDigit wsX6_isDigit) := goodIn_app (goodIn_of _ (by decide +kernel)) ggX6_readNumber_X6_isDigit
theorem dX6_readNumber_0 : decode cX6_readNumber 0 = .ok (.iconst 0, 1) := by decide +kernel
theorem dX6_readNumber_1 : decode cX6_readNumber 1 = .ok (.istore_n 1, 1) := by decide +kernel
theorem dX6_readNumber_2 : decode cX6_readNumber 2 = .ok (.aload_n 0, 1) := by decide +kernel
theorem dX6_readNumber_3 : decode cX6_readNumber 3 = .ok (.aload_n 0, 1) := by decide +kernel
theorem dX6_readNumber_4 : decode cX6_readNumber 4 = .ok (.getfield 35, 3) := by decide +kernel
theorem dX6_readNumber_7 : decode cX6_readNumber 7 = .ok (.invokevirtual 38, 3) := by decide +kernel
theorem dX6_readNumber_10 : decode cX6_readNumber 10 = .ok (.invokestatic 31, 3) := by decide +kernel
theorem dX6_readNumber_13 : decode cX6_readNumber 13 = .ok (.ifCond .eq 44, 3) := by decide +kernel
theorem dX6_readNumber_16 : decode cX6_readNumber 16 = .ok (.aload_n 0, 1) := by decide +kernel
theorem dX6_readNumber_17 : decode cX6_readNumber 17 = .ok (.getfield 35, 3) := by decide +kernel
theorem dX6_readNumber_20 : decode cX6_readNumber 20 = .ok (.aload_n 0, 1) := by decide +kernel
theorem dX6_readNumber_21 : decode cX6_readNumber 21 = .ok (.getfield 15, 3) := by decide +kernel
theorem dX6_readNumber_24 : decode cX6_readNumber 24 = .ok (.if_icmp .ge 33, 3) := by decide +kernel
theorem dX6_readNumber_27 : decode cX6_readNumber 27 = .ok (.bipush 10, 2) := by decide +kernel
theorem dX6_readNumber_29 : decode cX6_readNumber 29 = .ok (.iload_n 1, 1) := by decide +kernel
theorem dX6_readNumber_30 : decode cX6_readNumber 30 = .ok (.imul, 1) := by decide +kernel
theorem dX6_readNumber_31 : decode cX6_readNumber 31 = .ok (.aload_n 0, 1) := by decide +kernel
theorem dX6_readNumber_32 : decode cX6_readNumber 32 = .ok (.aload_n 0, 1) := by decide +kernel
theorem dX6_readNumber_33 : decode cX6_readNumber 33 = .ok (.getfield 35, 3) := by decide +kernel
theorem dX6_readNumber_36 : decode cX6_readNumber 36 = .ok (.invokevirtual 38, 3) := by decide +kernel
theorem dX6_readNumber_39 : decode cX6_readNumber 39 = .ok (.iadd, 1) := by decide +kernel
theorem dX6_readNumber_40 : decode cX6_readNumber 40 = .ok (.bipush 48, 2) := by decide +kernel
theorem dX6_readNumber_42 : decode cX6_readNumber 42 = .ok (.isub, 1) := by decide +kernel
theorem dX6_readNumber_43 : decode cX6_readNumber 43 = .ok (.istore_n 1, 1) := by decide +kernel
theorem dX6_readNumber_44 : decode cX6_readNumber 44 = .ok (.aload_n 0, 1) := by decide +kernel
theorem dX6_readNumber_45 : decode cX6_readNumber 45 = .ok (.dup, 1) := by decide +kernel
theorem dX6_readNumber_46 : decode cX6_readNumber 46 = .ok (.getfield 35, 3) := by decide +kernel
theorem dX6_readNumber_49 : decode cX6_readNumber 49 = .ok (.iconst 1, 1) := by decide +kernel
theorem dX6_readNumber_50 : decode cX6_readNumber 50 = .ok (.iadd, 1) := by decide +kernel
theorem dX6_readNumber_51 : decode cX6_readNumber 51 = .ok (.putfield 35, 3) := by decide +kernel
theorem dX6_readNumber_54 : decode cX6_readNumber 54 = .ok (.goto (-52), 3) := by decide +kernel
theorem dX6_readNumber_57 : decode cX6_readNumber 57 = .ok (.iload_n 1, 1) := by decide +kernel
theorem dX6_readNumber_58 : decode cX6_readNumber 58 = .ok (.ireturn, 1) := by decide +kernel
theorem dX6_itemKind_0 : decode cX6_itemKind 0 = .ok (.aload_n 0, 1) := by decide +kernel
theorem dX6_itemKind_1 : decode cX6_itemKind 1 = .ok (.getfield 41, 3) := by decide +kernel
theorem dX6_itemKind_4 : decode cX6_itemKind 4 = .ok (.ireturn, 1) := by decide +kernel
theorem dX6_firstNumber_0 : decode cX6_firstNumber 0 = .ok (.aload_n 0, 1) := by decide +kernel
theorem dX6_firstNumber_1 : decode cX6_firstNumber 1 = .ok (.getfield 48, 3) := by decide +kernel
theorem dX6_firstNumber_4 : decode cX6_firstNumber 4 = .ok (.ireturn, 1) := by decide +kernel
theorem dX6_secondNumber_0 : decode cX6_secondNumber 0 = .ok (.aload_n 0, 1) := by decide +kernel
theorem dX6_secondNumber_1 : decode cX6_secondNumber 1 = .ok (.getfield 51, 3) := by decide +kernel
theorem dX6_secondNumber_4 : decode cX6_secondNumber 4 = .ok (.ireturn, 1) := by decide +kernel
set_option maxRecDepth 20000 in
theorem ggX7_init_X5_init : GoodIn wsX7_init wsX5_init := goodIn_r _ [32, 33, 2, 3, 34, 35, 36, 37, 38, 39, 40, 41, 76, 77, 78, 79, 80, 81, 82, 83, 84, 85] (by decide +kernel) (by decide +kernel)
set_option maxRecDepth 20000 in
theorem gX7_init_X5_init_n9 : GoodIn wsX7_init (wsX5_init) := ggX7_init_X5_init
set_option maxRecDepth 20000 in
theorem ggX7_init_X4_init : GoodIn wsX7_init wsX4_init := goodIn_r _ [44, 45, 2, 3, 46, 47, 5, 6, 31, 32, 33, 34, 35, 36, 37, 38, 39, 40, 41, 94, 95, 96, 76, 77, 78, 79, 80, 81, 82, 83, 84, 85] (by decide +kernel) (by decide +kernel)
set_option maxRecDepth 20000 in
theorem gX7_init_X4_init : GoodIn wsX7_init (wsX4_init) := ggX7_init_X4_init
set_option maxRecDepth 20000 in
theorem ggX7_init_X6_init : GoodIn wsX7_init wsX6_init := goodIn_r _ [49, 50, 2, 3, 34, 51, 97, 98, 99, 100, 101, 102] (by decide +kernel) (by decide +kernel)
set_option maxRecDepth 20000 in
theorem gX7_init_X6_init_n33 : GoodIn wsX7_init (wsX6_init) := ggX7_init_X6_init
set_option maxRecDepth 20000 in
theorem ggX7_init_X2_init : GoodIn wsX7_init wsX2_init := goodIn_r _ [53, 54, 2, 3, 34, 55, 56, 103, 104, 105] (by decide +kernel) (by decide +kernel)
set_option maxRecDepth 20000 in
theorem gX7_init_X2_init_n40 : GoodIn wsX7_init (wsX2_init) := ggX7_init_X2_init
set_option maxRecDepth 20000 in
theorem ggX7_init_X1_init : GoodIn wsX7_init wsX1_init := goodIn_r _ [58, 59, 2, 3, 34, 60, 61, 106, 107] (by decide +kernel) (by decide +kernel)
set_option maxRecDepth 20000 in
theorem gX7_init_X1_init_n47 : GoodIn wsX7_init (wsX1_init) := ggX7_init_X1_init
set_option maxRecDepth 20000 in
theorem ggX7_init_X3_init : GoodIn wsX7_init wsX3_init := goodIn_r _ [63, 64, 2, 3, 34, 65, 66, 67, 68, 69, 70, 71, 72, 73, 74, 75, 108, 109, 110, 111, 112, 113, 114, 115, 116, 117, 118, 119, 120] (by decide +kernel) (by decide +kernel)
set_option maxRecDepth 20000 in
theorem gX7_init_X3_init_n54 : GoodIn wsX7_init (wsX3_init) := ggX7_init_X3_init
theorem dX7_init_0 : decode cX7_init 0 = .ok (.aload_n 0, 1) := by decide +kernel
theorem dX7_init_1 : decode cX7_init 1 = .ok (.invokespecial 1, 3) := by decide +kernel
theorem dX7_init_4 : decode cX7_init 4 = .ok (.aload_n 0, 1) := by decide +kernel
theorem dX7_init_5 : decode cX7_init 5 = .ok (.new 7, 3) := by decide +kernel
theorem dX7_init_8 : decode cX7_init 8 = .ok (.dup, 1) := by decide +kernel
theorem dX7_init_9 : decode cX7_init 9 = .ok (.invokespecial 9, 3) := by decide +kernel
theorem dX7_init_12 : decode cX7_init 12 = .ok (.putfield 10, 3) := by decide +kernel
theorem dX7_init_15 : decode cX7_init 15 = .ok (.aload_n 0, 1) := by decide +kernel
theorem dX7_init_16 : decode cX7_init 16 = .ok (.iconst 2, 1) := by decide +kernel
theorem dX7_init_17 : decode cX7_init 17 = .ok (.anewarray 7, 3) := by decide +kernel
theorem dX7_init_20 : decode cX7_init 20 = .ok (.putfield 16, 3) := by decide +kernel
theorem dX7_init_23 : decode cX7_init 23 = .ok (.aload_n 0, 1) := by decide +kernel
theorem dX7_init_24 : decode cX7_init 24 = .ok (.iconst 2, 1) := by decide +kernel
theorem dX7_init_25 : decode cX7_init 25 = .ok (.newarray .boolean, 2) := by decide +kernel
theorem dX7_init_27 : decode cX7_init 27 = .ok (.putfield 20, 3) := by decide +kernel
theorem dX7_init_30 : decode cX7_init 30 = .ok (.aload_n 0, 1) := by decide +kernel
theorem dX7_init_31 : decode cX7_init 31 = .ok (.new 24, 3) := by decide +kernel
theorem dX7_init_34 : decode cX7_init 34 = .ok (.dup, 1) := by decide +kernel
theorem dX7_init_35 : decode cX7_init 35 = .ok (.invokespecial 26, 3) := by decide +kernel
theorem dX7_init_38 : decode cX7_init 38 = .ok (.putfield 27, 3) := by decide +kernel
theorem dX7_init_41 : decode cX7_init 41 = .ok (.aload_n 0, 1) := by decide +kernel
theorem dX7_init_42 : decode cX7_init 42 = .ok (.new 31, 3) := by decide +kernel
theorem dX7_init_45 : decode cX7_init 45 = .ok (.dup, 1) := by decide +kernel
theorem dX7_init_46 : decode cX7_init 46 = .ok (.invokespecial 33, 3) := by decide +kernel
theorem dX7_init_49 : decode cX7_init 49 = .ok (.putfield 34, 3) := by decide +kernel
theorem dX7_init_52 : decode cX7_init 52 = .ok (.aload_n 0, 1) := by decide +kernel
theorem dX7_init_53 : decode cX7_init 53 = .ok (.new 38, 3) := by decide +kernel
theorem dX7_init_56 : decode cX7_init 56 = .ok (.dup, 1) := by decide +kernel
theorem dX7_init_57 : decode cX7_init 57 = .ok (.invokespecial 40, 3) := by decide +kernel
theorem dX7_init_60 : decode cX7_init 60 = .ok (.putfield 41, 3) := by decide +kernel
theorem dX7_init_63 : decode cX7_init 63 = .ok (.aload_n 0, 1) := by decide +kernel
theorem dX7_init_64 : decode cX7_init 64 = .ok (.new 45, 3) := by decide +kernel
theorem dX7_init_67 : decode cX7_init 67 = .ok (.dup, 1) := by decide +kernel
theorem dX7_init_68 : decode cX7_init 68 = .ok (.invokespecial 47, 3) := by decide +kernel
theorem dX7_init_71 : decode cX7_init 71 = .ok (.putfield 48, 3) := by decide +kernel
theorem dX7_init_74 : decode cX7_init 74 = .ok (.aload_n 0, 1) := by decide +kernel
theorem dX7_init_75 : decode cX7_init 75 = .ok (.new 52, 3) := by decide +kernel
theorem dX7_init_78 : decode cX7_init 78 = .ok (.dup, 1) := by decide +kernel
theorem dX7_init_79 : decode cX7_init 79 = .ok (.invokespecial 54, 3) := by decide +kernel
theorem dX7_init_82 : decode cX7_init 82 = .ok (.putfield 55, 3) := by decide +kernel
theorem dX7_init_85 : decode cX7_init 85 = .ok (.iconst 0, 1) := by decide +kernel
theorem dX7_init_86 : decode cX7_init 86 = .ok (.istore_n 1, 1) := by decide +kernel
theorem dX7_init_87 : decode cX7_init 87 = .ok (.iload_n 1, 1) := by decide +kernel
theorem dX7_init_88 : decode cX7_init 88 = .ok (.iconst 2, 1) := by decide +kernel
theorem dX7_init_89 : decode cX7_init 89 = .ok (.if_icmp .ge 22, 3) := by decide +kernel
theorem dX7_init_92 : decode cX7_init 92 = .ok (.aload_n 0, 1) := by decide +kernel
theorem dX7_init_93 : decode cX7_init 93 = .ok (.getfield 16, 3) := by decide +kernel
theorem dX7_init_96 : decode cX7_init 96 = .ok (.iload_n 1, 1) := by decide +kernel
theorem dX7_init_97 : decode cX7_init 97 = .ok (.new 7, 3) := by decide +kernel
theorem dX7_init_100 : decode cX7_init 100 = .ok (.dup, 1) := by decide +kernel
theorem dX7_init_101 : decode cX7_init 101 = .ok (.invokespecial 9, 3) := by decide +kernel
theorem dX7_init_104 : decode cX7_init 104 = .ok (.aastore, 1) := by decide +kernel
theorem dX7_init_105 : decode cX7_init 105 = .ok (.iinc 1 1, 3) := by decide +kernel
theorem dX7_init_108 : decode cX7_init 108 = .ok (.goto (-21), 3) := by decide +kernel
theorem dX7_init_111 : decode cX7_init 111 = .ok (.return_, 1) := by decide +kernel
set_option maxRecDepth 20000 in
theorem ggX7_person_X7_isRow : GoodIn wsX7_person wsX7_isRow := goodIn_r _ [8] (by decide +kernel) (by decide +kernel)
set_option maxRecDepth 20000 in
theorem gX7_person_X7_isRow : GoodIn wsX7_person (va_wsS RX7 59 yX7_isRow wsX7_isRow) := goodIn_app (goodIn_of _ (by decide +kernel)) ggX7_person_X7_isRow
set_option maxRecDepth 20000 in
theorem ggX7_person_X4_push : GoodIn wsX7_person wsX4_push := goodIn_r _ [13, 14, 15, 16, 17, 18, 19, 20, 21, 22, 23, 24, 25, 26, 27, 28, 29, 30, 31, 32, 33, 34, 35, 60, 61, 62, 63, 64, 65, 66, 67, 68, 69, 70, 71, 72] (by decide +kernel) (by decide +kernel)
set_option maxRecDepth 20000 in
theorem gX7_person_X4_push : GoodIn wsX7_person (wsV RX7 70 RX4 yX4_push wsX4_push) := goodIn_app (goodIn_of _ (by decide +kernel)) ggX7_person_X4_push
set_option maxRecDepth 20000 in
theorem ggX7_person_X5_addPerson : GoodIn wsX7_person wsX5_addPerson := goodIn_r _ [39, 33, 35, 32, 22, 28, 40, 41, 42, 20, 43, 44, 45, 46, 47, 31, 27, 48, 49, 50, 51, 63, 64, 65, 66, 67, 68, 69, 70, 71, 72] (by decide +kernel) (by decide +kernel)
set_option maxRecDepth 20000 in
theorem gX7_person_X5_addPerson : GoodIn wsX7_person (wsV RX7 74 RX5 yX5_addPerson wsX5_addPerson) := goodIn_app (goodIn_of _ (by decide +kernel)) ggX7_person_X5_addPerson
theorem dX7_person_0 : decode cX7_person 0 = .ok (.iload_n 1, 1) := by decide +kernel
theorem dX7_person_1 : decode cX7_person 1 = .ok (.invokestatic 59, 3) := by decide +kernel
theorem dX7_person_4 : decode cX7_person 4 = .ok (.ifCond .ne 13, 3) := by decide +kernel
theorem dX7_person_7 : decode cX7_person 7 = .ok (.new 63, 3) := by decide +kernel
theorem dX7_person_10 : decode cX7_person 10 = .ok (.dup, 1) := by decide +kernel
theorem dX7_person_11 : decode cX7_person 11 = .ok (.ldc 65, 2) := by decide +kernel
theorem dX7_person_13 : decode cX7_person 13 = .ok (.invokespecial 67, 3) := by decide +kernel
theorem dX7_person_16 : decode cX7_person 16 = .ok (.athrow, 1) := by decide +kernel
theorem dX7_person_17 : decode cX7_person 17 = .ok (.aload_n 0, 1) := by decide +kernel
theorem dX7_person_18 : decode cX7_person 18 = .ok (.getfield 27, 3) := by decide +kernel
theorem dX7_person_21 : decode cX7_person 21 = .ok (.aload_n 0, 1) := by decide +kernel
theorem dX7_person_22 : decode cX7_person 22 = .ok (.getfield 10, 3) := by decide +kernel
theorem dX7_person_25 : decode cX7_person 25 = .ok (.invokevirtual 70, 3) := by decide +kernel
theorem dX7_person_28 : decode cX7_person 28 = .ok (.aload_n 0, 1) := by decide +kernel
theorem dX7_person_29 : decode cX7_person 29 = .ok (.getfield 10, 3) := by decide +kernel
theorem dX7_person_32 : decode cX7_person 32 = .ok (.iload_n 1, 1) := by decide +kernel
theorem dX7_person_33 : decode cX7_person 33 = .ok (.iconst (-1), 1) := by decide +kernel
theorem dX7_person_34 : decode cX7_person 34 = .ok (.invokevirtual 74, 3) := by decide +kernel
theorem dX7_person_37 : decode cX7_person 37 = .ok (.ireturn, 1) := by decide +kernel
set_option maxRecDepth 20000 in
theorem ggX7_marry_X5_isPerson : GoodIn wsX7_marry wsX5_isPerson := goodIn_r _ [11, 12, 78, 79, 80, 81, 82, 83, 84, 85, 86, 87] (by decide +kernel) (by decide +kernel)
set_option maxRecDepth 20000 in
theorem gX7_marry_X5_isPerson : GoodIn wsX7_marry (wsV RX7 78 RX5 yX5_isPerson wsX5_isPerson) := goodIn_app (goodIn_of _ (by decide +kernel)) ggX7_marry_X5_isPerson
set_option maxRecDepth 20000 in
theorem ggX7_marry_X4_push : GoodIn wsX7_marry wsX4_push := goodIn_r _ [17, 18, 19, 20, 21, 22, 23, 10, 24, 25, 26, 27, 28, 29, 30, 31, 32, 33, 34, 35, 12, 36, 37, 88, 89, 90, 78, 79, 80, 81, 82, 83, 84, 85, 86, 87] (by decide +kernel) (by decide +kernel)
set_option maxRecDepth 20000 in
theorem gX7_marry_X4_push : GoodIn wsX7_marry (wsV RX7 70 RX4 yX4_push wsX4_push) := goodIn_app (goodIn_of _ (by decide +kernel)) ggX7_marry_X4_push
set_option maxRecDepth 20000 in
theorem ggX7_marry_X5_addCouple : GoodIn wsX7_marry wsX5_addCouple := goodIn_r _ [41, 37, 36, 32, 42, 43, 44, 45, 33, 46, 47, 48, 49, 50, 51, 10, 52, 53, 54, 55, 56, 25, 57, 8, 9, 11, 12, 58, 59, 60, 61, 62, 63, 64, 65, 66, 67, 68, 69, 78, 79, 80, 81, 82, 83, 84, 85, 86, 87] (by decide +kernel) (by decide +kernel)
set_option maxRecDepth 20000 in
theorem gX7_marry_X5_addCouple : GoodIn wsX7_marry (wsV RX7 88 RX5 yX5_addCouple wsX5_addCouple) := goodIn_app (goodIn_of _ (by decide +kernel)) ggX7_marry_X5_addCouple
theorem dX7_marry_0 : decode cX7_marry 0 = .ok (.aload_n 0, 1) := by decide +kernel
theorem dX7_marry_1 : decode cX7_marry 1 = .ok (.getfield 10, 3) := by decide +kernel
theorem dX7_marry_4 : decode cX7_marry 4 = .ok (.iload_n 1, 1) := by decide +kernel
theorem dX7_marry_5 : decode cX7_marry 5 = .ok (.invokevirtual 78, 3) := by decide +kernel
theorem dX7_marry_8 : decode cX7_marry 8 = .ok (.ifCond .eq 14, 3) := by decide +kernel
theorem dX7_marry_11 : decode cX7_marry 11 = .ok (.aload_n 0, 1) := by decide +kernel
theorem dX7_marry_12 : decode cX7_marry 12 = .ok (.getfield 10, 3) := by decide +kernel
theorem dX7_marry_15 : decode cX7_marry 15 = .ok (.iload_n 2, 1) := by decide +kernel
theorem dX7_marry_16 : decode cX7_marry 16 = .ok (.invokevirtual 78, 3) := by decide +kernel
theorem dX7_marry_19 : decode cX7_marry 19 = .ok (.ifCond .ne 13, 3) := by decide +kernel
theorem dX7_marry_22 : decode cX7_marry 22 = .ok (.new 63, 3) := by decide +kernel
theorem dX7_marry_25 : decode cX7_marry 25 = .ok (.dup, 1) := by decide +kernel
theorem dX7_marry_26 : decode cX7_marry 26 = .ok (.ldc 81, 2) := by decide +kernel
theorem dX7_marry_28 : decode cX7_marry 28 = .ok (.invokespecial 67, 3) := by decide +kernel
theorem dX7_marry_31 : decode cX7_marry 31 = .ok (.athrow, 1) := by decide +kernel
theorem dX7_marry_32 : decode cX7_marry 32 = .ok (.iload_n 1, 1) := by decide +kernel
theorem dX7_marry_33 : decode cX7_marry 33 = .ok (.iload_n 2, 1) := by decide +kernel
theorem dX7_marry_34 : decode cX7_marry 34 = .ok (.if_icmp .ne 13, 3) := by decide +kernel
theorem dX7_marry_37 : decode cX7_marry 37 = .ok (.new 83, 3) := by decide +kernel
theorem dX7_marry_40 : decode cX7_marry 40 = .ok (.dup, 1) := by decide +kernel
theorem dX7_marry_41 : decode cX7_marry 41 = .ok (.ldc 85, 2) := by decide +kernel
theorem dX7_marry_43 : decode cX7_marry 43 = .ok (.invokespecial 87, 3) := by decide +kernel
theorem dX7_marry_46 : decode cX7_marry 46 = .ok (.athrow, 1) := by decide +kernel
theorem dX7_marry_47 : decode cX7_marry 47 = .ok (.aload_n 0, 1) := by decide +kernel
theorem dX7_marry_48 : decode cX7_marry 48 = .ok (.getfield 27, 3) := by decide +kernel
theorem dX7_marry_51 : decode cX7_marry 51 = .ok (.aload_n 0, 1) := by decide +kernel
theorem dX7_marry_52 : decode cX7_marry 52 = .ok (.getfield 10, 3) := by decide +kernel
theorem dX7_marry_55 : decode cX7_marry 55 = .ok (.invokevirtual 70, 3) := by decide +kernel
theorem dX7_marry_58 : decode cX7_marry 58 = .ok (.aload_n 0, 1) := by decide +kernel
theorem dX7_marry_59 : decode cX7_marry 59 = .ok (.getfield 10, 3) := by decide +kernel
theorem dX7_marry_62 : decode cX7_marry 62 = .ok (.iload_n 1, 1) := by decide +kernel
theorem dX7_marry_63 : decode cX7_marry 63 = .ok (.iload_n 2, 1) := by decide +kernel
theorem dX7_marry_64 : decode cX7_marry 64 = .ok (.invokevirtual 88, 3) := by decide +kernel
theorem dX7_marry_67 : decode cX7_marry 67 = .ok (.ireturn, 1) := by decide +kernel
set_option maxRecDepth 20000 in
theorem ggX7_child_X5_isCouple : GoodIn wsX7_child wsX5_isCouple := goodIn_r _ [9, 10, 73, 74, 75, 76, 77, 78, 79, 80, 81, 82] (by decide +kernel) (by decide +kernel)
set_option maxRecDepth 20000 in
theorem gX7_child_X5_isCouple : GoodIn wsX7_child (wsV RX7 91 RX5 yX5_isCouple wsX5_isCouple) := goodIn_app (goodIn_of _ (by decide +kernel)) ggX7_child_X5_isCouple
set_option maxRecDepth 20000 in
theorem ggX7_child_X4_push : GoodIn wsX7_child wsX4_push := goodIn_r _ [15, 16, 17, 18, 19, 20, 21, 8, 22, 23, 24, 25, 26, 27, 28, 29, 30, 31, 32, 33, 34, 10, 35, 83, 84, 85, 73, 74, 75, 76, 77, 78, 79, 80, 81, 82] (by decide +kernel) (by decide +kernel)
set_option maxRecDepth 20000 in
theorem gX7_child_X4_push : GoodIn wsX7_child (wsV RX7 70 RX4 yX4_push wsX4_push) := goodIn_app (goodIn_of _ (by decide +kernel)) ggX7_child_X4_push
set_option maxRecDepth 20000 in
theorem ggX7_child_X5_addChild : GoodIn wsX7_child wsX5_addChild := goodIn_r _ [39, 40, 41, 42, 8, 43, 30, 44, 6, 7, 9, 10, 45, 46, 47, 48, 23, 49, 50, 51, 52, 34, 53, 54, 55, 56, 35, 33, 29, 57, 58, 59, 60, 61, 62, 63, 64, 32, 28, 73, 74, 75, 76, 77, 78, 79, 80, 81, 82] (by decide +kernel) (by decide +kernel)
set_option maxRecDepth 20000 in
theorem gX7_child_X5_addChild : GoodIn wsX7_child (wsV RX7 96 RX5 yX5_addChild wsX5_addChild) := goodIn_app (goodIn_of _ (by decide +kernel)) ggX7_child_X5_addChild
theorem dX7_child_0 : decode cX7_child 0 = .ok (.aload_n 0, 1) := by decide +kernel
theorem dX7_child_1 : decode cX7_child 1 = .ok (.getfield 10, 3) := by decide +kernel
theorem dX7_child_4 : decode cX7_child 4 = .ok (.iload_n 1, 1) := by decide +kernel
theorem dX7_child_5 : decode cX7_child 5 = .ok (.invokevirtual 91, 3) := by decide +kernel
theorem dX7_child_8 : decode cX7_child 8 = .ok (.ifCond .ne 13, 3) := by decide +kernel
theorem dX7_child_11 : decode cX7_child 11 = .ok (.new 63, 3) := by decide +kernel
theorem dX7_child_14 : decode cX7_child 14 = .ok (.dup, 1) := by decide +kernel
theorem dX7_child_15 : decode cX7_child 15 = .ok (.ldc 94, 2) := by decide +kernel
theorem dX7_child_17 : decode cX7_child 17 = .ok (.invokespecial 67, 3) := by decide +kernel
theorem dX7_child_20 : decode cX7_child 20 = .ok (.athrow, 1) := by decide +kernel
theorem dX7_child_21 : decode cX7_child 21 = .ok (.aload_n 0, 1) := by decide +kernel
theorem dX7_child_22 : decode cX7_child 22 = .ok (.getfield 27, 3) := by decide +kernel
theorem dX7_child_25 : decode cX7_child 25 = .ok (.aload_n 0, 1) := by decide +kernel
theorem dX7_child_26 : decode cX7_child 26 = .ok (.getfield 10, 3) := by decide +kernel
theorem dX7_child_29 : decode cX7_child 29 = .ok (.invokevirtual 70, 3) := by decide +kernel
theorem dX7_child_32 : decode cX7_child 32 = .ok (.aload_n 0, 1) := by decide +kernel
theorem dX7_child_33 : decode cX7_child 33 = .ok (.getfield 10, 3) := by decide +kernel
theorem dX7_child_36 : decode cX7_child 36 = .ok (.iload_n 1, 1) := by decide +kernel
theorem dX7_child_37 : decode cX7_child 37 = .ok (.invokevirtual 96, 3) := by decide +kernel
theorem dX7_child_40 : decode cX7_child 40 = .ok (.ireturn, 1) := by decide +kernel
set_option maxRecDepth 20000 in
theorem ggX7_swap_X7_isRow : GoodIn wsX7_swap wsX7_isRow := goodIn_r _ [10] (by decide +kernel) (by decide +kernel)
set_option maxRecDepth 20000 in
theorem gX7_swap_X7_isRow : GoodIn wsX7_swap (va_wsS RX7 59 yX7_isRow wsX7_isRow) := goodIn_app (goodIn_of _ (by decide +kernel)) ggX7_swap_X7_isRow
set_option maxRecDepth 20000 in
theorem ggX7_swap_X5_sizeOf : GoodIn wsX7_swap wsX5_sizeOf := goodIn_r _ [15, 16, 106, 107, 108, 109, 110, 111, 112, 113, 114, 115] (by decide +kernel) (by decide +kernel)
set_option maxRecDepth 20000 in
theorem gX7_swap_X5_sizeOf : GoodIn wsX7_swap (wsV RX7 100 RX5 yX5_sizeOf wsX5_sizeOf) := goodIn_app (goodIn_of _ (by decide +kernel)) ggX7_swap_X5_sizeOf
set_option maxRecDepth 20000 in
theorem ggX7_swap_X4_push : GoodIn wsX7_swap wsX4_push := goodIn_r _ [21, 22, 23, 24, 25, 26, 27, 14, 28, 29, 30, 31, 32, 33, 34, 35, 36, 37, 38, 16, 39, 40, 41, 116, 117, 118, 106, 107, 108, 109, 110, 111, 112, 113, 114, 115] (by decide +kernel) (by decide +kernel)
set_option maxRecDepth 20000 in
theorem gX7_swap_X4_push : GoodIn wsX7_swap (wsV RX7 70 RX4 yX4_push wsX4_push) := goodIn_app (goodIn_of _ (by decide +kernel)) ggX7_swap_X4_push
set_option maxRecDepth 20000 in
theorem ggX7_swap_X7_allCrossings : GoodIn wsX7_swap wsX7_allCrossings := goodIn_r _ [45, 46, 5, 47, 48, 49, 50, 51, 52, 53, 54, 55, 12, 13, 14, 15, 16, 56, 57, 58, 59, 38, 60, 61, 62, 63, 64, 65, 66, 67, 68, 35, 69, 70, 71, 72, 39, 73, 74, 75, 76, 36, 37, 77, 78, 79, 80, 40, 81, 82, 83, 84, 34, 85, 86, 87, 88, 98, 99, 100, 101, 102, 103, 104, 105, 119, 120, 121, 106, 107, 108, 109, 110, 111, 112, 113, 114, 115] (by decide +kernel) (by decide +kernel)
set_option maxRecDepth 20000 in
theorem gX7_swap_X7_allCrossings : GoodIn wsX7_swap (wsV RX7 105 RX7 yX7_allCrossings wsX7_allCrossings) := goodIn_app (goodIn_of _ (by decide +kernel)) ggX7_swap_X7_allCrossings
set_option maxRecDepth 20000 in
theorem ggX7_swap_X5_exchange : GoodIn wsX7_swap wsX5_exchange := goodIn_r _ [92, 93, 57, 58, 14, 59, 38, 60, 12, 13, 15, 16, 94, 95, 96, 97, 34, 69, 70, 71, 72, 39, 106, 107, 108, 109, 110, 111, 112, 113, 114, 115] (by decide +kernel) (by decide +kernel)
set_option maxRecDepth 20000 in
theorem gX7_swap_X5_exchange : GoodIn wsX7_swap (wsV RX7 109 RX5 yX5_exchange wsX5_exchange) := goodIn_app (goodIn_of _ (by decide +kernel)) ggX7_swap_X5_exchange
theorem dX7_swap_0 : decode cX7_swap 0 = .ok (.iload_n 1, 1) := by decide +kernel
theorem dX7_swap_1 : decode cX7_swap 1 = .ok (.invokestatic 59, 3) := by decide +kernel
theorem dX7_swap_4 : decode cX7_swap 4 = .ok (.ifCond .ne 13, 3) := by decide +kernel
theorem dX7_swap_7 : decode cX7_swap 7 = .ok (.new 63, 3) := by decide +kernel
theorem dX7_swap_10 : decode cX7_swap 10 = .ok (.dup, 1) := by decide +kernel
theorem dX7_swap_11 : decode cX7_swap 11 = .ok (.ldc 65, 2) := by decide +kernel
theorem dX7_swap_13 : decode cX7_swap 13 = .ok (.invokespecial 67, 3) := by decide +kernel
theorem dX7_swap_16 : decode cX7_swap 16 = .ok (.athrow, 1) := by decide +kernel
theorem dX7_swap_17 : decode cX7_swap 17 = .ok (.iload_n 2, 1) := by decide +kernel
theorem dX7_swap_18 : decode cX7_swap 18 = .ok (.ifCond .lt 17, 3) := by decide +kernel
theorem dX7_swap_21 : decode cX7_swap 21 = .ok (.iload_n 2, 1) := by decide +kernel
theorem dX7_swap_22 : decode cX7_swap 22 = .ok (.aload_n 0, 1) := by decide +kernel
theorem dX7_swap_23 : decode cX7_swap 23 = .ok (.getfield 10, 3) := by decide +kernel
theorem dX7_swap_26 : decode cX7_swap 26 = .ok (.iload_n 1, 1) := by decide +kernel
theorem dX7_swap_27 : decode cX7_swap 27 = .ok (.invokevirtual 100, 3) := by decide +kernel
theorem dX7_swap_30 : decode cX7_swap 30 = .ok (.iconst 1, 1) := by decide +kernel
theorem dX7_swap_31 : decode cX7_swap 31 = .ok (.isub, 1) := by decide +kernel
theorem dX7_swap_32 : decode cX7_swap 32 = .ok (.if_icmp .lt 13, 3) := by decide +kernel
theorem dX7_swap_35 : decode cX7_swap 35 = .ok (.new 83, 3) := by decide +kernel
theorem dX7_swap_38 : decode cX7_swap 38 = .ok (.dup, 1) := by decide +kernel
theorem dX7_swap_39 : decode cX7_swap 39 = .ok (.ldc 103, 2) := by decide +kernel
theorem dX7_swap_41 : decode cX7_swap 41 = .ok (.invokespecial 87, 3) := by decide +kernel
theorem dX7_swap_44 : decode cX7_swap 44 = .ok (.athrow, 1) := by decide +kernel
theorem dX7_swap_45 : decode cX7_swap 45 = .ok (.aload_n 0, 1) := by decide +kernel
theorem dX7_swap_46 : decode cX7_swap 46 = .ok (.getfield 27, 3) := by decide +kernel
theorem dX7_swap_49 : decode cX7_swap 49 = .ok (.aload_n 0, 1) := by decide +kernel
theorem dX7_swap_50 : decode cX7_swap 50 = .ok (.getfield 10, 3) := by decide +kernel
theorem dX7_swap_53 : decode cX7_swap 53 = .ok (.invokevirtual 70, 3) := by decide +kernel
theorem dX7_swap_56 : decode cX7_swap 56 = .ok (.aload_n 0, 1) := by decide +kernel
theorem dX7_swap_57 : decode cX7_swap 57 = .ok (.invokevirtual 105, 3) := by decide +kernel
theorem dX7_swap_60 : decode cX7_swap 60 = .ok (.istore_n 3, 1) := by decide +kernel
theorem dX7_swap_61 : decode cX7_swap 61 = .ok (.aload_n 0, 1) := by decide +kernel
theorem dX7_swap_62 : decode cX7_swap 62 = .ok (.getfield 10, 3) := by decide +kernel
theorem dX7_swap_65 : decode cX7_swap 65 = .ok (.iload_n 1, 1) := by decide +kernel
theorem dX7_swap_66 : decode cX7_swap 66 = .ok (.iload_n 2, 1) := by decide +kernel
theorem dX7_swap_67 : decode cX7_swap 67 = .ok (.invokevirtual 109, 3) := by decide +kernel
theorem dX7_swap_70 : decode cX7_swap 70 = .ok (.aload_n 0, 1) := by decide +kernel
theorem dX7_swap_71 : decode cX7_swap 71 = .ok (.invokevirtual 105, 3) := by decide +kernel
theorem dX7_swap_74 : decode cX7_swap 74 = .ok (.iload_n 3, 1) := by decide +kernel
theorem dX7_swap_75 : decode cX7_swap 75 = .ok (.isub, 1) := by decide +kernel
theorem dX7_swap_76 : decode cX7_swap 76 = .ok (.bipush 100, 2) := by decide +kernel
theorem dX7_swap_78 : decode cX7_swap 78 = .ok (.iadd, 1) := by decide +kernel
theorem dX7_swap_79 : decode cX7_swap 79 = .ok (.ireturn, 1) := by decide +kernel
set_option maxRecDepth 20000 in
theorem ggX7_byParents_X7_isRow : GoodIn wsX7_byParents wsX7_isRow := goodIn_r _ [9] (by decide +kernel) (by decide +kernel)
