theorem dX1_placeByKey_45 : decode cX1_placeByKey 45 = .ok (.iload_n 1, 1) := by decide +kernel
theorem dX1_placeByKey_46 : decode cX1_placeByKey 46 = .ok (.if_icmp .ge 6, 3) := by decide +kernel
theorem dX1_placeByKey_49 : decode cX1_placeByKey 49 = .ok (.iinc 3 1, 3) := by decide +kernel
theorem dX1_placeByKey_52 : decode cX1_placeByKey 52 = .ok (.iinc 4 1, 3) := by decide +kernel
theorem dX1_placeByKey_55 : decode cX1_placeByKey 55 = .ok (.goto (-50), 3) := by decide +kernel
theorem dX1_placeByKey_58 : decode cX1_placeByKey 58 = .ok (.iload_n 3, 1) := by decide +kernel
theorem dX1_placeByKey_59 : decode cX1_placeByKey 59 = .ok (.ireturn, 1) := by decide +kernel
theorem dX2_init_0 : decode cX2_init 0 = .ok (.aload_n 0, 1) := by decide +kernel
theorem dX2_init_1 : decode cX2_init 1 = .ok (.invokespecial 3, 3) := by decide +kernel
theorem dX2_init_4 : decode cX2_init 4 = .ok (.aload_n 0, 1) := by decide +kernel
theorem dX2_init_5 : decode cX2_init 5 = .ok (.bipush 6, 2) := by decide +kernel
theorem dX2_init_7 : decode cX2_init 7 = .ok (.newarray .int, 2) := by decide +kernel
theorem dX2_init_9 : decode cX2_init 9 = .ok (.putfield 9, 3) := by decide +kernel
theorem dX2_init_12 : decode cX2_init 12 = .ok (.aload_n 0, 1) := by decide +kernel
theorem dX2_init_13 : decode cX2_init 13 = .ok (.bipush 6, 2) := by decide +kernel
theorem dX2_init_15 : decode cX2_init 15 = .ok (.newarray .int, 2) := by decide +kernel
theorem dX2_init_17 : decode cX2_init 17 = .ok (.putfield 15, 3) := by decide +kernel
theorem dX2_init_20 : decode cX2_init 20 = .ok (.return_, 1) := by decide +kernel
set_option maxRecDepth 20000 in
theorem ggX2_collect_X5_sizeOf : GoodIn wsX2_collect wsX5_sizeOf := goodIn_r _ [8, 9, 49, 50, 51, 52, 53, 54, 55, 56, 57, 58] (by decide +kernel) (by decide +kernel)
set_option maxRecDepth 20000 in
theorem gX2_collect_X5_sizeOf : GoodIn wsX2_collect (wsV RX2 22 RX5 yX5_sizeOf wsX5_sizeOf) := goodIn_app (goodIn_of _ (by decide +kernel)) ggX2_collect_X5_sizeOf
set_option maxRecDepth 20000 in
theorem ggX2_collect_X5_personAt : GoodIn wsX2_collect wsX5_personAt := goodIn_r _ [13, 14, 15, 5, 6, 7, 8, 9, 49, 50, 51, 52, 53, 54, 55, 56, 57, 58] (by decide +kernel) (by decide +kernel)
set_option maxRecDepth 20000 in
theorem gX2_collect_X5_personAt : GoodIn wsX2_collect (wsV RX2 28 RX5 yX5_personAt wsX5_personAt) := goodIn_app (goodIn_of _ (by decide +kernel)) ggX2_collect_X5_personAt
set_option maxRecDepth 20000 in
theorem ggX2_collect_X5_middleAbove : GoodIn wsX2_collect wsX5_middleAbove := goodIn_r _ [19, 20, 21, 22, 7, 23, 24, 25, 26, 27, 28, 29, 30, 31, 32, 33, 34, 35, 36, 37, 38, 39, 40, 41, 42, 43, 44, 45, 49, 50, 51, 52, 53, 54, 55, 56, 57, 58] (by decide +kernel) (by decide +kernel)
set_option maxRecDepth 20000 in
theorem gX2_collect_X5_middleAbove : GoodIn wsX2_collect (wsV RX2 32 RX5 yX5_middleAbove wsX5_middleAbove) := goodIn_app (goodIn_of _ (by decide +kernel)) ggX2_collect_X5_middleAbove
theorem dX2_collect_0 : decode cX2_collect 0 = .ok (.aload_n 0, 1) := by decide +kernel
theorem dX2_collect_1 : decode cX2_collect 1 = .ok (.iconst 0, 1) := by decide +kernel
theorem dX2_collect_2 : decode cX2_collect 2 = .ok (.putfield 18, 3) := by decide +kernel
theorem dX2_collect_5 : decode cX2_collect 5 = .ok (.iconst 0, 1) := by decide +kernel
theorem dX2_collect_6 : decode cX2_collect 6 = .ok (.istore_n 3, 1) := by decide +kernel
theorem dX2_collect_7 : decode cX2_collect 7 = .ok (.iload_n 3, 1) := by decide +kernel
theorem dX2_collect_8 : decode cX2_collect 8 = .ok (.aload_n 1, 1) := by decide +kernel
theorem dX2_collect_9 : decode cX2_collect 9 = .ok (.iload_n 2, 1) := by decide +kernel
theorem dX2_collect_10 : decode cX2_collect 10 = .ok (.invokevirtual 22, 3) := by decide +kernel
theorem dX2_collect_13 : decode cX2_collect 13 = .ok (.if_icmp .ge 64, 3) := by decide +kernel
theorem dX2_collect_16 : decode cX2_collect 16 = .ok (.iload_n 3, 1) := by decide +kernel
theorem dX2_collect_17 : decode cX2_collect 17 = .ok (.bipush 6, 2) := by decide +kernel
theorem dX2_collect_19 : decode cX2_collect 19 = .ok (.if_icmp .ge 58, 3) := by decide +kernel
theorem dX2_collect_22 : decode cX2_collect 22 = .ok (.aload_n 1, 1) := by decide +kernel
theorem dX2_collect_23 : decode cX2_collect 23 = .ok (.aload_n 1, 1) := by decide +kernel
theorem dX2_collect_24 : decode cX2_collect 24 = .ok (.iload_n 2, 1) := by decide +kernel
theorem dX2_collect_25 : decode cX2_collect 25 = .ok (.iload_n 3, 1) := by decide +kernel
theorem dX2_collect_26 : decode cX2_collect 26 = .ok (.invokevirtual 28, 3) := by decide +kernel
theorem dX2_collect_29 : decode cX2_collect 29 = .ok (.invokevirtual 32, 3) := by decide +kernel
theorem dX2_collect_32 : decode cX2_collect 32 = .ok (.istore 4, 2) := by decide +kernel
theorem dX2_collect_34 : decode cX2_collect 34 = .ok (.iload 4, 2) := by decide +kernel
theorem dX2_collect_36 : decode cX2_collect 36 = .ok (.iconst (-1), 1) := by decide +kernel
theorem dX2_collect_37 : decode cX2_collect 37 = .ok (.if_icmp .eq 34, 3) := by decide +kernel
theorem dX2_collect_40 : decode cX2_collect 40 = .ok (.aload_n 0, 1) := by decide +kernel
theorem dX2_collect_41 : decode cX2_collect 41 = .ok (.getfield 9, 3) := by decide +kernel
theorem dX2_collect_44 : decode cX2_collect 44 = .ok (.aload_n 0, 1) := by decide +kernel
theorem dX2_collect_45 : decode cX2_collect 45 = .ok (.getfield 18, 3) := by decide +kernel
theorem dX2_collect_48 : decode cX2_collect 48 = .ok (.iload 4, 2) := by decide +kernel
theorem dX2_collect_50 : decode cX2_collect 50 = .ok (.iastore, 1) := by decide +kernel
theorem dX2_collect_51 : decode cX2_collect 51 = .ok (.aload_n 0, 1) := by decide +kernel
theorem dX2_collect_52 : decode cX2_collect 52 = .ok (.getfield 15, 3) := by decide +kernel
theorem dX2_collect_55 : decode cX2_collect 55 = .ok (.aload_n 0, 1) := by decide +kernel
theorem dX2_collect_56 : decode cX2_collect 56 = .ok (.getfield 18, 3) := by decide +kernel
theorem dX2_collect_59 : decode cX2_collect 59 = .ok (.iload_n 3, 1) := by decide +kernel
theorem dX2_collect_60 : decode cX2_collect 60 = .ok (.iastore, 1) := by decide +kernel
theorem dX2_collect_61 : decode cX2_collect 61 = .ok (.aload_n 0, 1) := by decide +kernel
theorem dX2_collect_62 : decode cX2_collect 62 = .ok (.dup, 1) := by decide +kernel
theorem dX2_collect_63 : decode cX2_collect 63 = .ok (.getfield 18, 3) := by decide +kernel
theorem dX2_collect_66 : decode cX2_collect 66 = .ok (.iconst 1, 1) := by decide +kernel
theorem dX2_collect_67 : decode cX2_collect 67 = .ok (.iadd, 1) := by decide +kernel
theorem dX2_collect_68 : decode cX2_collect 68 = .ok (.putfield 18, 3) := by decide +kernel
theorem dX2_collect_71 : decode cX2_collect 71 = .ok (.iinc 3 1, 3) := by decide +kernel
theorem dX2_collect_74 : decode cX2_collect 74 = .ok (.goto (-67), 3) := by decide +kernel
theorem dX2_collect_77 : decode cX2_collect 77 = .ok (.return_, 1) := by decide +kernel
theorem dX2_crossedPairs_0 : decode cX2_crossedPairs 0 = .ok (.iconst 0, 1) := by decide +kernel
theorem dX2_crossedPairs_1 : decode cX2_crossedPairs 1 = .ok (.istore_n 1, 1) := by decide +kernel
theorem dX2_crossedPairs_2 : decode cX2_crossedPairs 2 = .ok (.iconst 0, 1) := by decide +kernel
theorem dX2_crossedPairs_3 : decode cX2_crossedPairs 3 = .ok (.istore_n 2, 1) := by decide +kernel
theorem dX2_crossedPairs_4 : decode cX2_crossedPairs 4 = .ok (.iload_n 2, 1) := by decide +kernel
theorem dX2_crossedPairs_5 : decode cX2_crossedPairs 5 = .ok (.aload_n 0, 1) := by decide +kernel
theorem dX2_crossedPairs_6 : decode cX2_crossedPairs 6 = .ok (.getfield 18, 3) := by decide +kernel
theorem dX2_crossedPairs_9 : decode cX2_crossedPairs 9 = .ok (.if_icmp .ge 45, 3) := by decide +kernel
theorem dX2_crossedPairs_12 : decode cX2_crossedPairs 12 = .ok (.iload_n 2, 1) := by decide +kernel
theorem dX2_crossedPairs_13 : decode cX2_crossedPairs 13 = .ok (.iconst 1, 1) := by decide +kernel
theorem dX2_crossedPairs_14 : decode cX2_crossedPairs 14 = .ok (.iadd, 1) := by decide +kernel
theorem dX2_crossedPairs_15 : decode cX2_crossedPairs 15 = .ok (.istore_n 3, 1) := by decide +kernel
theorem dX2_crossedPairs_16 : decode cX2_crossedPairs 16 = .ok (.iload_n 3, 1) := by decide +kernel
theorem dX2_crossedPairs_17 : decode cX2_crossedPairs 17 = .ok (.aload_n 0, 1) := by decide +kernel
theorem dX2_crossedPairs_18 : decode cX2_crossedPairs 18 = .ok (.getfield 18, 3) := by decide +kernel
theorem dX2_crossedPairs_21 : decode cX2_crossedPairs 21 = .ok (.if_icmp .ge 27, 3) := by decide +kernel
theorem dX2_crossedPairs_24 : decode cX2_crossedPairs 24 = .ok (.aload_n 0, 1) := by decide +kernel
theorem dX2_crossedPairs_25 : decode cX2_crossedPairs 25 = .ok (.getfield 9, 3) := by decide +kernel
theorem dX2_crossedPairs_28 : decode cX2_crossedPairs 28 = .ok (.iload_n 3, 1) := by decide +kernel
theorem dX2_crossedPairs_29 : decode cX2_crossedPairs 29 = .ok (.iaload, 1) := by decide +kernel
theorem dX2_crossedPairs_30 : decode cX2_crossedPairs 30 = .ok (.aload_n 0, 1) := by decide +kernel
theorem dX2_crossedPairs_31 : decode cX2_crossedPairs 31 = .ok (.getfield 9, 3) := by decide +kernel
theorem dX2_crossedPairs_34 : decode cX2_crossedPairs 34 = .ok (.iload_n 2, 1) := by decide +kernel
theorem dX2_crossedPairs_35 : decode cX2_crossedPairs 35 = .ok (.iaload, 1) := by decide +kernel
theorem dX2_crossedPairs_36 : decode cX2_crossedPairs 36 = .ok (.if_icmp .ge 6, 3) := by decide +kernel
theorem dX2_crossedPairs_39 : decode cX2_crossedPairs 39 = .ok (.iinc 1 1, 3) := by decide +kernel
theorem dX2_crossedPairs_42 : decode cX2_crossedPairs 42 = .ok (.iinc 3 1, 3) := by decide +kernel
theorem dX2_crossedPairs_45 : decode cX2_crossedPairs 45 = .ok (.goto (-29), 3) := by decide +kernel
theorem dX2_crossedPairs_48 : decode cX2_crossedPairs 48 = .ok (.iinc 2 1, 3) := by decide +kernel
theorem dX2_crossedPairs_51 : decode cX2_crossedPairs 51 = .ok (.goto (-47), 3) := by decide +kernel
theorem dX2_crossedPairs_54 : decode cX2_crossedPairs 54 = .ok (.iload_n 1, 1) := by decide +kernel
theorem dX2_crossedPairs_55 : decode cX2_crossedPairs 55 = .ok (.ireturn, 1) := by decide +kernel
set_option maxRecDepth 20000 in
theorem ggX2_crossedOneByOne_X2_sortByMiddles : GoodIn wsX2_crossedOneByOne wsX2_sortByMiddles := goodIn_r _ [8, 1, 2, 3, 9, 10, 11] (by decide +kernel) (by decide +kernel)
set_option maxRecDepth 20000 in
theorem gX2_crossedOneByOne_X2_sortByMiddles : GoodIn wsX2_crossedOneByOne (wsV RX2 35 RX2 yX2_sortByMiddles wsX2_sortByMiddles) := goodIn_app (goodIn_of _ (by decide +kernel)) ggX2_crossedOneByOne_X2_sortByMiddles
theorem dX2_crossedOneByOne_0 : decode cX2_crossedOneByOne 0 = .ok (.aload_n 0, 1) := by decide +kernel
theorem dX2_crossedOneByOne_1 : decode cX2_crossedOneByOne 1 = .ok (.invokevirtual 35, 3) := by decide +kernel
theorem dX2_crossedOneByOne_4 : decode cX2_crossedOneByOne 4 = .ok (.iconst 0, 1) := by decide +kernel
theorem dX2_crossedOneByOne_5 : decode cX2_crossedOneByOne 5 = .ok (.istore_n 1, 1) := by decide +kernel
theorem dX2_crossedOneByOne_6 : decode cX2_crossedOneByOne 6 = .ok (.iconst 0, 1) := by decide +kernel
theorem dX2_crossedOneByOne_7 : decode cX2_crossedOneByOne 7 = .ok (.istore_n 2, 1) := by decide +kernel
theorem dX2_crossedOneByOne_8 : decode cX2_crossedOneByOne 8 = .ok (.iload_n 2, 1) := by decide +kernel
theorem dX2_crossedOneByOne_9 : decode cX2_crossedOneByOne 9 = .ok (.aload_n 0, 1) := by decide +kernel
theorem dX2_crossedOneByOne_10 : decode cX2_crossedOneByOne 10 = .ok (.getfield 18, 3) := by decide +kernel
theorem dX2_crossedOneByOne_13 : decode cX2_crossedOneByOne 13 = .ok (.if_icmp .ge 55, 3) := by decide +kernel
theorem dX2_crossedOneByOne_16 : decode cX2_crossedOneByOne 16 = .ok (.iconst 0, 1) := by decide +kernel
theorem dX2_crossedOneByOne_17 : decode cX2_crossedOneByOne 17 = .ok (.istore_n 3, 1) := by decide +kernel
theorem dX2_crossedOneByOne_18 : decode cX2_crossedOneByOne 18 = .ok (.iload_n 3, 1) := by decide +kernel
theorem dX2_crossedOneByOne_19 : decode cX2_crossedOneByOne 19 = .ok (.iload_n 2, 1) := by decide +kernel
theorem dX2_crossedOneByOne_20 : decode cX2_crossedOneByOne 20 = .ok (.if_icmp .ge 42, 3) := by decide +kernel
theorem dX2_crossedOneByOne_23 : decode cX2_crossedOneByOne 23 = .ok (.aload_n 0, 1) := by decide +kernel
theorem dX2_crossedOneByOne_24 : decode cX2_crossedOneByOne 24 = .ok (.getfield 9, 3) := by decide +kernel
theorem dX2_crossedOneByOne_27 : decode cX2_crossedOneByOne 27 = .ok (.iload_n 3, 1) := by decide +kernel
theorem dX2_crossedOneByOne_28 : decode cX2_crossedOneByOne 28 = .ok (.iaload, 1) := by decide +kernel
theorem dX2_crossedOneByOne_29 : decode cX2_crossedOneByOne 29 = .ok (.aload_n 0, 1) := by decide +kernel
theorem dX2_crossedOneByOne_30 : decode cX2_crossedOneByOne 30 = .ok (.getfield 9, 3) := by decide +kernel
theorem dX2_crossedOneByOne_33 : decode cX2_crossedOneByOne 33 = .ok (.iload_n 2, 1) := by decide +kernel
theorem dX2_crossedOneByOne_34 : decode cX2_crossedOneByOne 34 = .ok (.iaload, 1) := by decide +kernel
theorem dX2_crossedOneByOne_35 : decode cX2_crossedOneByOne 35 = .ok (.if_icmp .ge 21, 3) := by decide +kernel
theorem dX2_crossedOneByOne_38 : decode cX2_crossedOneByOne 38 = .ok (.aload_n 0, 1) := by decide +kernel
theorem dX2_crossedOneByOne_39 : decode cX2_crossedOneByOne 39 = .ok (.getfield 15, 3) := by decide +kernel
theorem dX2_crossedOneByOne_42 : decode cX2_crossedOneByOne 42 = .ok (.iload_n 3, 1) := by decide +kernel
theorem dX2_crossedOneByOne_43 : decode cX2_crossedOneByOne 43 = .ok (.iaload, 1) := by decide +kernel
theorem dX2_crossedOneByOne_44 : decode cX2_crossedOneByOne 44 = .ok (.aload_n 0, 1) := by decide +kernel
theorem dX2_crossedOneByOne_45 : decode cX2_crossedOneByOne 45 = .ok (.getfield 15, 3) := by decide +kernel
theorem dX2_crossedOneByOne_48 : decode cX2_crossedOneByOne 48 = .ok (.iload_n 2, 1) := by decide +kernel
theorem dX2_crossedOneByOne_49 : decode cX2_crossedOneByOne 49 = .ok (.iaload, 1) := by decide +kernel
theorem dX2_crossedOneByOne_50 : decode cX2_crossedOneByOne 50 = .ok (.if_icmp .le 6, 3) := by decide +kernel
theorem dX2_crossedOneByOne_53 : decode cX2_crossedOneByOne 53 = .ok (.iinc 1 1, 3) := by decide +kernel
theorem dX2_crossedOneByOne_56 : decode cX2_crossedOneByOne 56 = .ok (.iinc 3 1, 3) := by decide +kernel
theorem dX2_crossedOneByOne_59 : decode cX2_crossedOneByOne 59 = .ok (.goto (-41), 3) := by decide +kernel
theorem dX2_crossedOneByOne_62 : decode cX2_crossedOneByOne 62 = .ok (.iinc 2 1, 3) := by decide +kernel
theorem dX2_crossedOneByOne_65 : decode cX2_crossedOneByOne 65 = .ok (.goto (-57), 3) := by decide +kernel
theorem dX2_crossedOneByOne_68 : decode cX2_crossedOneByOne 68 = .ok (.iload_n 1, 1) := by decide +kernel
theorem dX2_crossedOneByOne_69 : decode cX2_crossedOneByOne 69 = .ok (.ireturn, 1) := by decide +kernel
theorem dX2_sortByMiddles_0 : decode cX2_sortByMiddles 0 = .ok (.iconst 1, 1) := by decide +kernel
theorem dX2_sortByMiddles_1 : decode cX2_sortByMiddles 1 = .ok (.istore_n 1, 1) := by decide +kernel
theorem dX2_sortByMiddles_2 : decode cX2_sortByMiddles 2 = .ok (.iload_n 1, 1) := by decide +kernel
theorem dX2_sortByMiddles_3 : decode cX2_sortByMiddles 3 = .ok (.aload_n 0, 1) := by decide +kernel
theorem dX2_sortByMiddles_4 : decode cX2_sortByMiddles 4 = .ok (.getfield 18, 3) := by decide +kernel
theorem dX2_sortByMiddles_7 : decode cX2_sortByMiddles 7 = .ok (.if_icmp .ge 98, 3) := by decide +kernel
theorem dX2_sortByMiddles_10 : decode cX2_sortByMiddles 10 = .ok (.aload_n 0, 1) := by decide +kernel
theorem dX2_sortByMiddles_11 : decode cX2_sortByMiddles 11 = .ok (.getfield 9, 3) := by decide +kernel
theorem dX2_sortByMiddles_14 : decode cX2_sortByMiddles 14 = .ok (.iload_n 1, 1) := by decide +kernel
theorem dX2_sortByMiddles_15 : decode cX2_sortByMiddles 15 = .ok (.iaload, 1) := by decide +kernel
theorem dX2_sortByMiddles_16 : decode cX2_sortByMiddles 16 = .ok (.istore_n 2, 1) := by decide +kernel
theorem dX2_sortByMiddles_17 : decode cX2_sortByMiddles 17 = .ok (.aload_n 0, 1) := by decide +kernel
theorem dX2_sortByMiddles_18 : decode cX2_sortByMiddles 18 = .ok (.getfield 15, 3) := by decide +kernel
theorem dX2_sortByMiddles_21 : decode cX2_sortByMiddles 21 = .ok (.iload_n 1, 1) := by decide +kernel
theorem dX2_sortByMiddles_22 : decode cX2_sortByMiddles 22 = .ok (.iaload, 1) := by decide +kernel
theorem dX2_sortByMiddles_23 : decode cX2_sortByMiddles 23 = .ok (.istore_n 3, 1) := by decide +kernel
theorem dX2_sortByMiddles_24 : decode cX2_sortByMiddles 24 = .ok (.iload_n 1, 1) := by decide +kernel
theorem dX2_sortByMiddles_25 : decode cX2_sortByMiddles 25 = .ok (.istore 4, 2) := by decide +kernel
theorem dX2_sortByMiddles_27 : decode cX2_sortByMiddles 27 = .ok (.iload 4, 2) := by decide +kernel
theorem dX2_sortByMiddles_29 : decode cX2_sortByMiddles 29 = .ok (.ifCond .le 54, 3) := by decide +kernel
theorem dX2_sortByMiddles_32 : decode cX2_sortByMiddles 32 = .ok (.aload_n 0, 1) := by decide +kernel
theorem dX2_sortByMiddles_33 : decode cX2_sortByMiddles 33 = .ok (.getfield 9, 3) := by decide +kernel
theorem dX2_sortByMiddles_36 : decode cX2_sortByMiddles 36 = .ok (.iload 4, 2) := by decide +kernel
theorem dX2_sortByMiddles_38 : decode cX2_sortByMiddles 38 = .ok (.iconst 1, 1) := by decide +kernel
theorem dX2_sortByMiddles_39 : decode cX2_sortByMiddles 39 = .ok (.isub, 1) := by decide +kernel
theorem dX2_sortByMiddles_40 : decode cX2_sortByMiddles 40 = .ok (.iaload, 1) := by decide +kernel
theorem dX2_sortByMiddles_41 : decode cX2_sortByMiddles 41 = .ok (.iload_n 2, 1) := by decide +kernel
theorem dX2_sortByMiddles_42 : decode cX2_sortByMiddles 42 = .ok (.if_icmp .le 41, 3) := by decide +kernel
theorem dX2_sortByMiddles_45 : decode cX2_sortByMiddles 45 = .ok (.aload_n 0, 1) := by decide +kernel
theorem dX2_sortByMiddles_46 : decode cX2_sortByMiddles 46 = .ok (.getfield 9, 3) := by decide +kernel
theorem dX2_sortByMiddles_49 : decode cX2_sortByMiddles 49 = .ok (.iload 4, 2) := by decide +kernel
theorem dX2_sortByMiddles_51 : decode cX2_sortByMiddles 51 = .ok (.aload_n 0, 1) := by decide +kernel
theorem dX2_sortByMiddles_52 : decode cX2_sortByMiddles 52 = .ok (.getfield 9, 3) := by decide +kernel
theorem dX2_sortByMiddles_55 : decode cX2_sortByMiddles 55 = .ok (.iload 4, 2) := by decide +kernel
theorem dX2_sortByMiddles_57 : decode cX2_sortByMiddles 57 = .ok (.iconst 1, 1) := by decide +kernel
theorem dX2_sortByMiddles_58 : decode cX2_sortByMiddles 58 = .ok (.isub, 1) := by decide +kernel
theorem dX2_sortByMiddles_59 : decode cX2_sortByMiddles 59 = .ok (.iaload, 1) := by decide +kernel
theorem dX2_sortByMiddles_60 : decode cX2_sortByMiddles 60 = .ok (.iastore, 1) := by decide +kernel
theorem dX2_sortByMiddles_61 : decode cX2_sortByMiddles 61 = .ok (.aload_n 0, 1) := by decide +kernel
theorem dX2_sortByMiddles_62 : decode cX2_sortByMiddles 62 = .ok (.getfield 15, 3) := by decide +kernel
theorem dX2_sortByMiddles_65 : decode cX2_sortByMiddles 65 = .ok (.iload 4, 2) := by decide +kernel
theorem dX2_sortByMiddles_67 : decode cX2_sortByMiddles 67 = .ok (.aload_n 0, 1) := by decide +kernel
theorem dX2_sortByMiddles_68 : decode cX2_sortByMiddles 68 = .ok (.getfield 15, 3) := by decide +kernel
theorem dX2_sortByMiddles_71 : decode cX2_sortByMiddles 71 = .ok (.iload 4, 2) := by decide +kernel
theorem dX2_sortByMiddles_73 : decode cX2_sortByMiddles 73 = .ok (.iconst 1, 1) := by decide +kernel
theorem dX2_sortByMiddles_74 : decode cX2_sortByMiddles 74 = .ok (.isub, 1) := by decide +kernel
theorem dX2_sortByMiddles_75 : decode cX2_sortByMiddles 75 = .ok (.iaload, 1) := by decide +kernel
theorem dX2_sortByMiddles_76 : decode cX2_sortByMiddles 76 = .ok (.iastore, 1) := by decide +kernel
theorem dX2_sortByMiddles_77 : decode cX2_sortByMiddles 77 = .ok (.iinc 4 (-1), 3) := by decide +kernel
theorem dX2_sortByMiddles_80 : decode cX2_sortByMiddles 80 = .ok (.goto (-53), 3) := by decide +kernel
theorem dX2_sortByMiddles_83 : decode cX2_sortByMiddles 83 = .ok (.aload_n 0, 1) := by decide +kernel
theorem dX2_sortByMiddles_84 : decode cX2_sortByMiddles 84 = .ok (.getfield 9, 3) := by decide +kernel
theorem dX2_sortByMiddles_87 : decode cX2_sortByMiddles 87 = .ok (.iload 4, 2) := by decide +kernel
theorem dX2_sortByMiddles_89 : decode cX2_sortByMiddles 89 = .ok (.iload_n 2, 1) := by decide +kernel
theorem dX2_sortByMiddles_90 : decode cX2_sortByMiddles 90 = .ok (.iastore, 1) := by decide +kernel
theorem dX2_sortByMiddles_91 : decode cX2_sortByMiddles 91 = .ok (.aload_n 0, 1) := by decide +kernel
theorem dX2_sortByMiddles_92 : decode cX2_sortByMiddles 92 = .ok (.getfield 15, 3) := by decide +kernel
theorem dX2_sortByMiddles_95 : decode cX2_sortByMiddles 95 = .ok (.iload 4, 2) := by decide +kernel
theorem dX2_sortByMiddles_97 : decode cX2_sortByMiddles 97 = .ok (.iload_n 3, 1) := by decide +kernel
theorem dX2_sortByMiddles_98 : decode cX2_sortByMiddles 98 = .ok (.iastore, 1) := by decide +kernel
theorem dX2_sortByMiddles_99 : decode cX2_sortByMiddles 99 = .ok (.iinc 1 1, 3) := by decide +kernel
theorem dX2_sortByMiddles_102 : decode cX2_sortByMiddles 102 = .ok (.goto (-100), 3) := by decide +kernel
theorem dX2_sortByMiddles_105 : decode cX2_sortByMiddles 105 = .ok (.return_, 1) := by decide +kernel
theorem dX3_init_0 : decode cX3_init 0 = .ok (.aload_n 0, 1) := by decide +kernel
theorem dX3_init_1 : decode cX3_init 1 = .ok (.invokespecial 3, 3) := by decide +kernel
theorem dX3_init_4 : decode cX3_init 4 = .ok (.aload_n 0, 1) := by decide +kernel
theorem dX3_init_5 : decode cX3_init 5 = .ok (.bipush 6, 2) := by decide +kernel
theorem dX3_init_7 : decode cX3_init 7 = .ok (.newarray .int, 2) := by decide +kernel
theorem dX3_init_9 : decode cX3_init 9 = .ok (.putfield 9, 3) := by decide +kernel
theorem dX3_init_12 : decode cX3_init 12 = .ok (.aload_n 0, 1) := by decide +kernel
theorem dX3_init_13 : decode cX3_init 13 = .ok (.bipush 6, 2) := by decide +kernel
theorem dX3_init_15 : decode cX3_init 15 = .ok (.newarray .int, 2) := by decide +kernel
theorem dX3_init_17 : decode cX3_init 17 = .ok (.putfield 15, 3) := by decide +kernel
theorem dX3_init_20 : decode cX3_init 20 = .ok (.aload_n 0, 1) := by decide +kernel
theorem dX3_init_21 : decode cX3_init 21 = .ok (.bipush 20, 2) := by decide +kernel
theorem dX3_init_23 : decode cX3_init 23 = .ok (.newarray .int, 2) := by decide +kernel
theorem dX3_init_25 : decode cX3_init 25 = .ok (.putfield 18, 3) := by decide +kernel
theorem dX3_init_28 : decode cX3_init 28 = .ok (.aload_n 0, 1) := by decide +kernel
theorem dX3_init_29 : decode cX3_init 29 = .ok (.bipush 20, 2) := by decide +kernel
theorem dX3_init_31 : decode cX3_init 31 = .ok (.newarray .int, 2) := by decide +kernel
theorem dX3_init_33 : decode cX3_init 33 = .ok (.putfield 21, 3) := by decide +kernel
theorem dX3_init_36 : decode cX3_init 36 = .ok (.aload_n 0, 1) := by decide +kernel
theorem dX3_init_37 : decode cX3_init 37 = .ok (.bipush 6, 2) := by decide +kernel
theorem dX3_init_39 : decode cX3_init 39 = .ok (.newarray .int, 2) := by decide +kernel
theorem dX3_init_41 : decode cX3_init 41 = .ok (.putfield 24, 3) := by decide +kernel
theorem dX3_init_44 : decode cX3_init 44 = .ok (.aload_n 0, 1) := by decide +kernel
theorem dX3_init_45 : decode cX3_init 45 = .ok (.bipush 6, 2) := by decide +kernel
theorem dX3_init_47 : decode cX3_init 47 = .ok (.newarray .int, 2) := by decide +kernel
theorem dX3_init_49 : decode cX3_init 49 = .ok (.putfield 27, 3) := by decide +kernel
theorem dX3_init_52 : decode cX3_init 52 = .ok (.aload_n 0, 1) := by decide +kernel
theorem dX3_init_53 : decode cX3_init 53 = .ok (.bipush 6, 2) := by decide +kernel
theorem dX3_init_55 : decode cX3_init 55 = .ok (.newarray .int, 2) := by decide +kernel
theorem dX3_init_57 : decode cX3_init 57 = .ok (.putfield 30, 3) := by decide +kernel
theorem dX3_init_60 : decode cX3_init 60 = .ok (.aload_n 0, 1) := by decide +kernel
theorem dX3_init_61 : decode cX3_init 61 = .ok (.bipush 6, 2) := by decide +kernel
theorem dX3_init_63 : decode cX3_init 63 = .ok (.newarray .int, 2) := by decide +kernel
theorem dX3_init_65 : decode cX3_init 65 = .ok (.putfield 33, 3) := by decide +kernel
theorem dX3_init_68 : decode cX3_init 68 = .ok (.aload_n 0, 1) := by decide +kernel
theorem dX3_init_69 : decode cX3_init 69 = .ok (.bipush 6, 2) := by decide +kernel
theorem dX3_init_71 : decode cX3_init 71 = .ok (.newarray .int, 2) := by decide +kernel
theorem dX3_init_73 : decode cX3_init 73 = .ok (.putfield 36, 3) := by decide +kernel
theorem dX3_init_76 : decode cX3_init 76 = .ok (.aload_n 0, 1) := by decide +kernel
theorem dX3_init_77 : decode cX3_init 77 = .ok (.bipush 6, 2) := by decide +kernel
theorem dX3_init_79 : decode cX3_init 79 = .ok (.bipush 6, 2) := by decide +kernel
theorem dX3_init_81 : decode cX3_init 81 = .ok (.multianewarray 39 2, 4) := by decide +kernel
theorem dX3_init_85 : decode cX3_init 85 = .ok (.putfield 41, 3) := by decide +kernel
theorem dX3_init_88 : decode cX3_init 88 = .ok (.return_, 1) := by decide +kernel
set_option maxRecDepth 20000 in
theorem ggX3_prepare_X3_listPeople : GoodIn wsX3_prepare wsX3_listPeople := goodIn_r _ [5, 6, 7, 8, 9, 10, 11, 12, 13, 14, 15, 16, 17, 18, 19, 20, 21, 22, 91, 92, 93, 94, 95, 96, 97, 98, 99, 100, 101, 102, 103, 104, 105, 106, 107, 108, 109, 110, 111, 112, 113] (by decide +kernel) (by decide +kernel)
set_option maxRecDepth 20000 in
theorem gX3_prepare_X3_listPeople : GoodIn wsX3_prepare (wsV RX3 44 RX3 yX3_listPeople wsX3_listPeople) := goodIn_app (goodIn_of _ (by decide +kernel)) ggX3_prepare_X3_listPeople
set_option maxRecDepth 20000 in
theorem ggX3_prepare_X3_noteLinesTo : GoodIn wsX3_prepare wsX3_noteLinesTo := goodIn_r _ [26, 6, 7, 27, 28, 29, 30, 11, 31, 32, 33, 34, 35, 36, 19, 20, 21, 22, 13, 37, 38, 39, 40, 41, 42, 43, 44, 45, 46, 47, 48, 49, 50, 51, 52, 91, 92, 93, 94, 95, 96, 97, 98, 99, 100, 101, 102, 103, 104, 105, 106, 107, 108, 109, 110, 111, 112, 113] (by decide +kernel) (by decide +kernel)
set_option maxRecDepth 20000 in
theorem gX3_prepare_X3_noteLinesTo : GoodIn wsX3_prepare (wsV RX3 48 RX3 yX3_noteLinesTo wsX3_noteLinesTo) := goodIn_app (goodIn_of _ (by decide +kernel)) ggX3_prepare_X3_noteLinesTo
set_option maxRecDepth 20000 in
theorem ggX3_prepare_X3_listCouples : GoodIn wsX3_prepare wsX3_listCouples := goodIn_r _ [56, 57, 58, 59, 60, 61, 11, 62, 63, 64, 65, 66, 67, 68, 69, 70, 33, 34, 35, 36, 19, 20, 21, 22, 13, 71, 72, 73, 4, 74, 75, 76, 77, 78, 79, 80, 81, 41, 43, 44, 45, 46, 47, 82, 83, 84, 85, 42, 91, 92, 93, 94, 95, 96, 97, 98, 99, 100, 101, 102, 103, 104, 105, 106, 107, 108, 109, 110, 111, 112, 113] (by decide +kernel) (by decide +kernel)
set_option maxRecDepth 20000 in
theorem gX3_prepare_X3_listCouples : GoodIn wsX3_prepare (wsV RX3 52 RX3 yX3_listCouples wsX3_listCouples) := goodIn_app (goodIn_of _ (by decide +kernel)) ggX3_prepare_X3_listCouples
set_option maxRecDepth 20000 in
theorem ggX3_prepare_X5_sizeOf : GoodIn wsX3_prepare wsX5_sizeOf := goodIn_r _ [62, 63, 104, 105, 106, 107, 108, 109, 110, 111, 112, 113] (by decide +kernel) (by decide +kernel)
set_option maxRecDepth 20000 in
theorem gX3_prepare_X5_sizeOf : GoodIn wsX3_prepare (wsV RX3 55 RX5 yX5_sizeOf wsX5_sizeOf) := goodIn_app (goodIn_of _ (by decide +kernel)) ggX3_prepare_X5_sizeOf
set_option maxRecDepth 20000 in
theorem ggX3_prepare_X3_noteLinesFrom : GoodIn wsX3_prepare wsX3_noteLinesFrom := goodIn_r _ [89, 57, 90, 58, 91, 92, 93, 94, 95, 96, 97, 98, 99, 100, 101, 102, 103] (by decide +kernel) (by decide +kernel)
set_option maxRecDepth 20000 in
theorem gX3_prepare_X3_noteLinesFrom : GoodIn wsX3_prepare (wsV RX3 61 RX3 yX3_noteLinesFrom wsX3_noteLinesFrom) := goodIn_app (goodIn_of _ (by decide +kernel)) ggX3_prepare_X3_noteLinesFrom
theorem dX3_prepare_0 : decode cX3_prepare 0 = .ok (.aload_n 0, 1) := by decide +kernel
theorem dX3_prepare_1 : decode cX3_prepare 1 = .ok (.aload_n 1, 1) := by decide +kernel
theorem dX3_prepare_2 : decode cX3_prepare 2 = .ok (.iload_n 2, 1) := by decide +kernel
theorem dX3_prepare_3 : decode cX3_prepare 3 = .ok (.invokevirtual 44, 3) := by decide +kernel
theorem dX3_prepare_6 : decode cX3_prepare 6 = .ok (.aload_n 0, 1) := by decide +kernel
theorem dX3_prepare_7 : decode cX3_prepare 7 = .ok (.aload_n 1, 1) := by decide +kernel
theorem dX3_prepare_8 : decode cX3_prepare 8 = .ok (.invokevirtual 48, 3) := by decide +kernel
theorem dX3_prepare_11 : decode cX3_prepare 11 = .ok (.aload_n 0, 1) := by decide +kernel
theorem dX3_prepare_12 : decode cX3_prepare 12 = .ok (.aload_n 1, 1) := by decide +kernel
theorem dX3_prepare_13 : decode cX3_prepare 13 = .ok (.iload_n 2, 1) := by decide +kernel
theorem dX3_prepare_14 : decode cX3_prepare 14 = .ok (.iconst 1, 1) := by decide +kernel
theorem dX3_prepare_15 : decode cX3_prepare 15 = .ok (.iadd, 1) := by decide +kernel
theorem dX3_prepare_16 : decode cX3_prepare 16 = .ok (.invokevirtual 52, 3) := by decide +kernel
theorem dX3_prepare_19 : decode cX3_prepare 19 = .ok (.aload_n 0, 1) := by decide +kernel
theorem dX3_prepare_20 : decode cX3_prepare 20 = .ok (.aload_n 1, 1) := by decide +kernel
theorem dX3_prepare_21 : decode cX3_prepare 21 = .ok (.iload_n 2, 1) := by decide +kernel
theorem dX3_prepare_22 : decode cX3_prepare 22 = .ok (.iconst 1, 1) := by decide +kernel
theorem dX3_prepare_23 : decode cX3_prepare 23 = .ok (.iadd, 1) := by decide +kernel
theorem dX3_prepare_24 : decode cX3_prepare 24 = .ok (.invokevirtual 55, 3) := by decide +kernel
theorem dX3_prepare_27 : decode cX3_prepare 27 = .ok (.invokevirtual 61, 3) := by decide +kernel
theorem dX3_prepare_30 : decode cX3_prepare 30 = .ok (.return_, 1) := by decide +kernel
set_option maxRecDepth 20000 in
theorem ggX3_listPeople_X5_people : GoodIn wsX3_listPeople wsX5_people := goodIn_r _ [7, 8, 31, 32, 33, 34, 35, 36, 37, 38, 39, 40] (by decide +kernel) (by decide +kernel)
set_option maxRecDepth 20000 in
theorem gX3_listPeople_X5_people : GoodIn wsX3_listPeople (wsV RX3 69 RX5 yX5_people wsX5_people) := goodIn_app (goodIn_of _ (by decide +kernel)) ggX3_listPeople_X5_people
set_option maxRecDepth 20000 in
theorem ggX3_listPeople_X5_rowOf : GoodIn wsX3_listPeople wsX5_rowOf := goodIn_r _ [12, 13, 14, 15, 16, 6, 17, 8, 31, 32, 33, 34, 35, 36, 37, 38, 39, 40] (by decide +kernel) (by decide +kernel)
set_option maxRecDepth 20000 in
theorem gX3_listPeople_X5_rowOf : GoodIn wsX3_listPeople (wsV RX3 73 RX5 yX5_rowOf wsX5_rowOf) := goodIn_app (goodIn_of _ (by decide +kernel)) ggX3_listPeople_X5_rowOf
theorem dX3_listPeople_0 : decode cX3_listPeople 0 = .ok (.aload_n 0, 1) := by decide +kernel
theorem dX3_listPeople_1 : decode cX3_listPeople 1 = .ok (.iconst 0, 1) := by decide +kernel
theorem dX3_listPeople_2 : decode cX3_listPeople 2 = .ok (.putfield 65, 3) := by decide +kernel
theorem dX3_listPeople_5 : decode cX3_listPeople 5 = .ok (.iconst 0, 1) := by decide +kernel
theorem dX3_listPeople_6 : decode cX3_listPeople 6 = .ok (.istore_n 3, 1) := by decide +kernel
theorem dX3_listPeople_7 : decode cX3_listPeople 7 = .ok (.iload_n 3, 1) := by decide +kernel
theorem dX3_listPeople_8 : decode cX3_listPeople 8 = .ok (.aload_n 1, 1) := by decide +kernel
theorem dX3_listPeople_9 : decode cX3_listPeople 9 = .ok (.invokevirtual 69, 3) := by decide +kernel
theorem dX3_listPeople_12 : decode cX3_listPeople 12 = .ok (.if_icmp .ge 47, 3) := by decide +kernel
theorem dX3_listPeople_15 : decode cX3_listPeople 15 = .ok (.aload_n 0, 1) := by decide +kernel
theorem dX3_listPeople_16 : decode cX3_listPeople 16 = .ok (.getfield 65, 3) := by decide +kernel
theorem dX3_listPeople_19 : decode cX3_listPeople 19 = .ok (.bipush 6, 2) := by decide +kernel
theorem dX3_listPeople_21 : decode cX3_listPeople 21 = .ok (.if_icmp .ge 38, 3) := by decide +kernel
theorem dX3_listPeople_24 : decode cX3_listPeople 24 = .ok (.aload_n 1, 1) := by decide +kernel
theorem dX3_listPeople_25 : decode cX3_listPeople 25 = .ok (.iload_n 3, 1) := by decide +kernel
theorem dX3_listPeople_26 : decode cX3_listPeople 26 = .ok (.invokevirtual 73, 3) := by decide +kernel
theorem dX3_listPeople_29 : decode cX3_listPeople 29 = .ok (.iload_n 2, 1) := by decide +kernel
theorem dX3_listPeople_30 : decode cX3_listPeople 30 = .ok (.if_icmp .ne 23, 3) := by decide +kernel
theorem dX3_listPeople_33 : decode cX3_listPeople 33 = .ok (.aload_n 0, 1) := by decide +kernel
theorem dX3_listPeople_34 : decode cX3_listPeople 34 = .ok (.getfield 9, 3) := by decide +kernel
theorem dX3_listPeople_37 : decode cX3_listPeople 37 = .ok (.aload_n 0, 1) := by decide +kernel
theorem dX3_listPeople_38 : decode cX3_listPeople 38 = .ok (.getfield 65, 3) := by decide +kernel
theorem dX3_listPeople_41 : decode cX3_listPeople 41 = .ok (.iload_n 3, 1) := by decide +kernel
theorem dX3_listPeople_42 : decode cX3_listPeople 42 = .ok (.iastore, 1) := by decide +kernel
theorem dX3_listPeople_43 : decode cX3_listPeople 43 = .ok (.aload_n 0, 1) := by decide +kernel
theorem dX3_listPeople_44 : decode cX3_listPeople 44 = .ok (.dup, 1) := by decide +kernel
theorem dX3_listPeople_45 : decode cX3_listPeople 45 = .ok (.getfield 65, 3) := by decide +kernel
theorem dX3_listPeople_48 : decode cX3_listPeople 48 = .ok (.iconst 1, 1) := by decide +kernel
theorem dX3_listPeople_49 : decode cX3_listPeople 49 = .ok (.iadd, 1) := by decide +kernel
theorem dX3_listPeople_50 : decode cX3_listPeople 50 = .ok (.putfield 65, 3) := by decide +kernel
theorem dX3_listPeople_53 : decode cX3_listPeople 53 = .ok (.iinc 3 1, 3) := by decide +kernel
theorem dX3_listPeople_56 : decode cX3_listPeople 56 = .ok (.goto (-49), 3) := by decide +kernel
theorem dX3_listPeople_59 : decode cX3_listPeople 59 = .ok (.return_, 1) := by decide +kernel
set_option maxRecDepth 20000 in
theorem ggX3_noteLinesTo_X5_middleAbove : GoodIn wsX3_noteLinesTo wsX5_middleAbove := goodIn_r _ [8, 9, 10, 11, 7, 12, 13, 14, 15, 16, 17, 18, 19, 20, 21, 22, 23, 24, 25, 26, 27, 28, 29, 30, 31, 32, 33, 34, 48, 49, 50, 51, 52, 53, 54, 55, 56, 57] (by decide +kernel) (by decide +kernel)
set_option maxRecDepth 20000 in
theorem gX3_noteLinesTo_X5_middleAbove : GoodIn wsX3_noteLinesTo (wsV RX3 76 RX5 yX5_middleAbove wsX5_middleAbove) := goodIn_app (goodIn_of _ (by decide +kernel)) ggX3_noteLinesTo_X5_middleAbove
theorem dX3_noteLinesTo_0 : decode cX3_noteLinesTo 0 = .ok (.iconst 0, 1) := by decide +kernel
theorem dX3_noteLinesTo_1 : decode cX3_noteLinesTo 1 = .ok (.istore_n 2, 1) := by decide +kernel
theorem dX3_noteLinesTo_2 : decode cX3_noteLinesTo 2 = .ok (.iload_n 2, 1) := by decide +kernel
theorem dX3_noteLinesTo_3 : decode cX3_noteLinesTo 3 = .ok (.aload_n 0, 1) := by decide +kernel
theorem dX3_noteLinesTo_4 : decode cX3_noteLinesTo 4 = .ok (.getfield 65, 3) := by decide +kernel
theorem dX3_noteLinesTo_7 : decode cX3_noteLinesTo 7 = .ok (.if_icmp .ge 88, 3) := by decide +kernel
theorem dX3_noteLinesTo_10 : decode cX3_noteLinesTo 10 = .ok (.aload_n 1, 1) := by decide +kernel
theorem dX3_noteLinesTo_11 : decode cX3_noteLinesTo 11 = .ok (.aload_n 0, 1) := by decide +kernel
theorem dX3_noteLinesTo_12 : decode cX3_noteLinesTo 12 = .ok (.getfield 9, 3) := by decide +kernel
theorem dX3_noteLinesTo_15 : decode cX3_noteLinesTo 15 = .ok (.iload_n 2, 1) := by decide +kernel
theorem dX3_noteLinesTo_16 : decode cX3_noteLinesTo 16 = .ok (.iaload, 1) := by decide +kernel
theorem dX3_noteLinesTo_17 : decode cX3_noteLinesTo 17 = .ok (.invokevirtual 76, 3) := by decide +kernel
theorem dX3_noteLinesTo_20 : decode cX3_noteLinesTo 20 = .ok (.istore_n 3, 1) := by decide +kernel
theorem dX3_noteLinesTo_21 : decode cX3_noteLinesTo 21 = .ok (.iconst 0, 1) := by decide +kernel
theorem dX3_noteLinesTo_22 : decode cX3_noteLinesTo 22 = .ok (.istore 4, 2) := by decide +kernel
theorem dX3_noteLinesTo_24 : decode cX3_noteLinesTo 24 = .ok (.iconst 0, 1) := by decide +kernel
theorem dX3_noteLinesTo_25 : decode cX3_noteLinesTo 25 = .ok (.istore 5, 2) := by decide +kernel
theorem dX3_noteLinesTo_27 : decode cX3_noteLinesTo 27 = .ok (.iload 5, 2) := by decide +kernel
theorem dX3_noteLinesTo_29 : decode cX3_noteLinesTo 29 = .ok (.aload_n 0, 1) := by decide +kernel
theorem dX3_noteLinesTo_30 : decode cX3_noteLinesTo 30 = .ok (.getfield 65, 3) := by decide +kernel
theorem dX3_noteLinesTo_33 : decode cX3_noteLinesTo 33 = .ok (.if_icmp .ge 43, 3) := by decide +kernel
theorem dX3_noteLinesTo_36 : decode cX3_noteLinesTo 36 = .ok (.iload_n 3, 1) := by decide +kernel
theorem dX3_noteLinesTo_37 : decode cX3_noteLinesTo 37 = .ok (.iconst (-1), 1) := by decide +kernel
theorem dX3_noteLinesTo_38 : decode cX3_noteLinesTo 38 = .ok (.if_icmp .eq 38, 3) := by decide +kernel
theorem dX3_noteLinesTo_41 : decode cX3_noteLinesTo 41 = .ok (.aload_n 1, 1) := by decide +kernel
theorem dX3_noteLinesTo_42 : decode cX3_noteLinesTo 42 = .ok (.aload_n 0, 1) := by decide +kernel
theorem dX3_noteLinesTo_43 : decode cX3_noteLinesTo 43 = .ok (.getfield 9, 3) := by decide +kernel
theorem dX3_noteLinesTo_46 : decode cX3_noteLinesTo 46 = .ok (.iload 5, 2) := by decide +kernel
theorem dX3_noteLinesTo_48 : decode cX3_noteLinesTo 48 = .ok (.iaload, 1) := by decide +kernel
theorem dX3_noteLinesTo_49 : decode cX3_noteLinesTo 49 = .ok (.invokevirtual 76, 3) := by decide +kernel
theorem dX3_noteLinesTo_52 : decode cX3_noteLinesTo 52 = .ok (.iload_n 3, 1) := by decide +kernel
theorem dX3_noteLinesTo_53 : decode cX3_noteLinesTo 53 = .ok (.if_icmp .le 17, 3) := by decide +kernel
theorem dX3_noteLinesTo_56 : decode cX3_noteLinesTo 56 = .ok (.iload 4, 2) := by decide +kernel
theorem dX3_noteLinesTo_58 : decode cX3_noteLinesTo 58 = .ok (.iconst 1, 1) := by decide +kernel
theorem dX3_noteLinesTo_59 : decode cX3_noteLinesTo 59 = .ok (.aload_n 0, 1) := by decide +kernel
theorem dX3_noteLinesTo_60 : decode cX3_noteLinesTo 60 = .ok (.getfield 9, 3) := by decide +kernel
theorem dX3_noteLinesTo_63 : decode cX3_noteLinesTo 63 = .ok (.iload 5, 2) := by decide +kernel
theorem dX3_noteLinesTo_65 : decode cX3_noteLinesTo 65 = .ok (.iaload, 1) := by decide +kernel
theorem dX3_noteLinesTo_66 : decode cX3_noteLinesTo 66 = .ok (.ishl, 1) := by decide +kernel
theorem dX3_noteLinesTo_67 : decode cX3_noteLinesTo 67 = .ok (.ior, 1) := by decide +kernel
theorem dX3_noteLinesTo_68 : decode cX3_noteLinesTo 68 = .ok (.istore 4, 2) := by decide +kernel
theorem dX3_noteLinesTo_70 : decode cX3_noteLinesTo 70 = .ok (.iinc 5 1, 3) := by decide +kernel
theorem dX3_noteLinesTo_73 : decode cX3_noteLinesTo 73 = .ok (.goto (-46), 3) := by decide +kernel
theorem dX3_noteLinesTo_76 : decode cX3_noteLinesTo 76 = .ok (.aload_n 0, 1) := by decide +kernel
theorem dX3_noteLinesTo_77 : decode cX3_noteLinesTo 77 = .ok (.getfield 21, 3) := by decide +kernel
theorem dX3_noteLinesTo_80 : decode cX3_noteLinesTo 80 = .ok (.aload_n 0, 1) := by decide +kernel
theorem dX3_noteLinesTo_81 : decode cX3_noteLinesTo 81 = .ok (.getfield 9, 3) := by decide +kernel
theorem dX3_noteLinesTo_84 : decode cX3_noteLinesTo 84 = .ok (.iload_n 2, 1) := by decide +kernel
theorem dX3_noteLinesTo_85 : decode cX3_noteLinesTo 85 = .ok (.iaload, 1) := by decide +kernel
theorem dX3_noteLinesTo_86 : decode cX3_noteLinesTo 86 = .ok (.iload 4, 2) := by decide +kernel
theorem dX3_noteLinesTo_88 : decode cX3_noteLinesTo 88 = .ok (.iastore, 1) := by decide +kernel
theorem dX3_noteLinesTo_89 : decode cX3_noteLinesTo 89 = .ok (.iinc 2 1, 3) := by decide +kernel
theorem dX3_noteLinesTo_92 : decode cX3_noteLinesTo 92 = .ok (.goto (-90), 3) := by decide +kernel
theorem dX3_noteLinesTo_95 : decode cX3_noteLinesTo 95 = .ok (.return_, 1) := by decide +kernel
set_option maxRecDepth 20000 in
theorem ggX3_listCouples_X5_sizeOf : GoodIn wsX3_listCouples wsX5_sizeOf := goodIn_r _ [7, 8, 61, 62, 63, 64, 65, 66, 67, 68, 69, 70] (by decide +kernel) (by decide +kernel)
set_option maxRecDepth 20000 in
theorem gX3_listCouples_X5_sizeOf : GoodIn wsX3_listCouples (wsV RX3 55 RX5 yX5_sizeOf wsX5_sizeOf) := goodIn_app (goodIn_of _ (by decide +kernel)) ggX3_listCouples_X5_sizeOf
set_option maxRecDepth 20000 in
theorem ggX3_listCouples_X5_personAt : GoodIn wsX3_listCouples wsX5_personAt := goodIn_r _ [12, 13, 14, 4, 5, 6, 7, 8, 61, 62, 63, 64, 65, 66, 67, 68, 69, 70] (by decide +kernel) (by decide +kernel)
set_option maxRecDepth 20000 in
theorem gX3_listCouples_X5_personAt : GoodIn wsX3_listCouples (wsV RX3 82 RX5 yX5_personAt wsX5_personAt) := goodIn_app (goodIn_of _ (by decide +kernel)) ggX3_listCouples_X5_personAt
set_option maxRecDepth 20000 in
theorem ggX3_listCouples_X5_parentsOf : GoodIn wsX3_listCouples wsX5_parentsOf := goodIn_r _ [18, 19, 20, 21, 22, 6, 23, 24, 61, 62, 63, 64, 65, 66, 67, 68, 69, 70] (by decide +kernel) (by decide +kernel)
set_option maxRecDepth 20000 in
theorem gX3_listCouples_X5_parentsOf : GoodIn wsX3_listCouples (wsV RX3 86 RX5 yX5_parentsOf wsX5_parentsOf) := goodIn_app (goodIn_of _ (by decide +kernel)) ggX3_listCouples_X5_parentsOf
set_option maxRecDepth 20000 in
theorem ggX3_listCouples_X3_indexOfCouple : GoodIn wsX3_listCouples wsX3_indexOfCouple := goodIn_r _ [29, 1, 30, 31, 32, 33, 34, 35, 6, 36, 37, 38, 39, 40, 41, 42, 43, 44, 45, 46, 47, 48, 49, 50, 51, 52, 53, 54, 55, 56, 57, 58, 59, 60, 61, 62, 63, 64, 65, 66, 67, 68, 69, 70] (by decide +kernel) (by decide +kernel)
set_option maxRecDepth 20000 in
theorem gX3_listCouples_X3_indexOfCouple : GoodIn wsX3_listCouples (wsV RX3 89 RX3 yX3_indexOfCouple wsX3_indexOfCouple) := goodIn_app (goodIn_of _ (by decide +kernel)) ggX3_listCouples_X3_indexOfCouple
theorem dX3_listCouples_0 : decode cX3_listCouples 0 = .ok (.aload_n 0, 1) := by decide +kernel
theorem dX3_listCouples_1 : decode cX3_listCouples 1 = .ok (.iconst 0, 1) := by decide +kernel
theorem dX3_listCouples_2 : decode cX3_listCouples 2 = .ok (.putfield 79, 3) := by decide +kernel
theorem dX3_listCouples_5 : decode cX3_listCouples 5 = .ok (.iconst 0, 1) := by decide +kernel
theorem dX3_listCouples_6 : decode cX3_listCouples 6 = .ok (.istore_n 3, 1) := by decide +kernel
theorem dX3_listCouples_7 : decode cX3_listCouples 7 = .ok (.iload_n 3, 1) := by decide +kernel
theorem dX3_listCouples_8 : decode cX3_listCouples 8 = .ok (.aload_n 1, 1) := by decide +kernel
theorem dX3_listCouples_9 : decode cX3_listCouples 9 = .ok (.iload_n 2, 1) := by decide +kernel
theorem dX3_listCouples_10 : decode cX3_listCouples 10 = .ok (.invokevirtual 55, 3) := by decide +kernel
theorem dX3_listCouples_13 : decode cX3_listCouples 13 = .ok (.if_icmp .ge 50, 3) := by decide +kernel
theorem dX3_listCouples_16 : decode cX3_listCouples 16 = .ok (.iload_n 3, 1) := by decide +kernel
theorem dX3_listCouples_17 : decode cX3_listCouples 17 = .ok (.bipush 6, 2) := by decide +kernel
theorem dX3_listCouples_19 : decode cX3_listCouples 19 = .ok (.if_icmp .ge 44, 3) := by decide +kernel
theorem dX3_listCouples_22 : decode cX3_listCouples 22 = .ok (.aload_n 1, 1) := by decide +kernel
theorem dX3_listCouples_23 : decode cX3_listCouples 23 = .ok (.aload_n 1, 1) := by decide +kernel
theorem dX3_listCouples_24 : decode cX3_listCouples 24 = .ok (.iload_n 2, 1) := by decide +kernel
theorem dX3_listCouples_25 : decode cX3_listCouples 25 = .ok (.iload_n 3, 1) := by decide +kernel
theorem dX3_listCouples_26 : decode cX3_listCouples 26 = .ok (.invokevirtual 82, 3) := by decide +kernel
theorem dX3_listCouples_29 : decode cX3_listCouples 29 = .ok (.invokevirtual 86, 3) := by decide +kernel
theorem dX3_listCouples_32 : decode cX3_listCouples 32 = .ok (.istore 4, 2) := by decide +kernel
theorem dX3_listCouples_34 : decode cX3_listCouples 34 = .ok (.aload_n 0, 1) := by decide +kernel
theorem dX3_listCouples_35 : decode cX3_listCouples 35 = .ok (.getfield 36, 3) := by decide +kernel
theorem dX3_listCouples_38 : decode cX3_listCouples 38 = .ok (.iload_n 3, 1) := by decide +kernel
theorem dX3_listCouples_39 : decode cX3_listCouples 39 = .ok (.iload 4, 2) := by decide +kernel
theorem dX3_listCouples_41 : decode cX3_listCouples 41 = .ok (.iconst (-1), 1) := by decide +kernel
theorem dX3_listCouples_42 : decode cX3_listCouples 42 = .ok (.if_icmp .ne 7, 3) := by decide +kernel
theorem dX3_listCouples_45 : decode cX3_listCouples 45 = .ok (.iconst (-1), 1) := by decide +kernel
theorem dX3_listCouples_46 : decode cX3_listCouples 46 = .ok (.goto 10, 3) := by decide +kernel
theorem dX3_listCouples_49 : decode cX3_listCouples 49 = .ok (.aload_n 0, 1) := by decide +kernel
theorem dX3_listCouples_50 : decode cX3_listCouples 50 = .ok (.aload_n 1, 1) := by decide +kernel
theorem dX3_listCouples_51 : decode cX3_listCouples 51 = .ok (.iload 4, 2) := by decide +kernel
theorem dX3_listCouples_53 : decode cX3_listCouples 53 = .ok (.invokevirtual 89, 3) := by decide +kernel
theorem dX3_listCouples_56 : decode cX3_listCouples 56 = .ok (.iastore, 1) := by decide +kernel
theorem dX3_listCouples_57 : decode cX3_listCouples 57 = .ok (.iinc 3 1, 3) := by decide +kernel
theorem dX3_listCouples_60 : decode cX3_listCouples 60 = .ok (.goto (-53), 3) := by decide +kernel
theorem dX3_listCouples_63 : decode cX3_listCouples 63 = .ok (.return_, 1) := by decide +kernel
set_option maxRecDepth 20000 in
theorem ggX3_indexOfCouple_X5_lesserOf : GoodIn wsX3_indexOfCouple wsX5_lesserOf := goodIn_r _ [9, 10, 11, 12, 13, 8, 14, 15, 34, 35, 36, 37, 38, 39, 40, 41, 42, 43] (by decide +kernel) (by decide +kernel)
set_option maxRecDepth 20000 in
theorem gX3_indexOfCouple_X5_lesserOf : GoodIn wsX3_indexOfCouple (wsV RX3 93 RX5 yX5_lesserOf wsX5_lesserOf) := goodIn_app (goodIn_of _ (by decide +kernel)) ggX3_indexOfCouple_X5_lesserOf
set_option maxRecDepth 20000 in
theorem ggX3_indexOfCouple_X5_greaterOf : GoodIn wsX3_indexOfCouple wsX5_greaterOf := goodIn_r _ [19, 20, 11, 12, 13, 8, 14, 15, 34, 35, 36, 37, 38, 39, 40, 41, 42, 43] (by decide +kernel) (by decide +kernel)
set_option maxRecDepth 20000 in
theorem gX3_indexOfCouple_X5_greaterOf : GoodIn wsX3_indexOfCouple (wsV RX3 96 RX5 yX5_greaterOf wsX5_greaterOf) := goodIn_app (goodIn_of _ (by decide +kernel)) ggX3_indexOfCouple_X5_greaterOf
theorem dX3_indexOfCouple_0 : decode cX3_indexOfCouple 0 = .ok (.iconst 0, 1) := by decide +kernel
theorem dX3_indexOfCouple_1 : decode cX3_indexOfCouple 1 = .ok (.istore_n 3, 1) := by decide +kernel
theorem dX3_indexOfCouple_2 : decode cX3_indexOfCouple 2 = .ok (.iload_n 3, 1) := by decide +kernel
theorem dX3_indexOfCouple_3 : decode cX3_indexOfCouple 3 = .ok (.aload_n 0, 1) := by decide +kernel
theorem dX3_indexOfCouple_4 : decode cX3_indexOfCouple 4 = .ok (.getfield 79, 3) := by decide +kernel
theorem dX3_indexOfCouple_7 : decode cX3_indexOfCouple 7 = .ok (.if_icmp .ge 21, 3) := by decide +kernel
theorem dX3_indexOfCouple_10 : decode cX3_indexOfCouple 10 = .ok (.aload_n 0, 1) := by decide +kernel
theorem dX3_indexOfCouple_11 : decode cX3_indexOfCouple 11 = .ok (.getfield 24, 3) := by decide +kernel
theorem dX3_indexOfCouple_14 : decode cX3_indexOfCouple 14 = .ok (.iload_n 3, 1) := by decide +kernel
theorem dX3_indexOfCouple_15 : decode cX3_indexOfCouple 15 = .ok (.iaload, 1) := by decide +kernel
theorem dX3_indexOfCouple_16 : decode cX3_indexOfCouple 16 = .ok (.iload_n 2, 1) := by decide +kernel
theorem dX3_indexOfCouple_17 : decode cX3_indexOfCouple 17 = .ok (.if_icmp .ne 5, 3) := by decide +kernel
theorem dX3_indexOfCouple_20 : decode cX3_indexOfCouple 20 = .ok (.iload_n 3, 1) := by decide +kernel
theorem dX3_indexOfCouple_21 : decode cX3_indexOfCouple 21 = .ok (.ireturn, 1) := by decide +kernel
theorem dX3_indexOfCouple_22 : decode cX3_indexOfCouple 22 = .ok (.iinc 3 1, 3) := by decide +kernel
theorem dX3_indexOfCouple_25 : decode cX3_indexOfCouple 25 = .ok (.goto (-23), 3) := by decide +kernel
theorem dX3_indexOfCouple_28 : decode cX3_indexOfCouple 28 = .ok (.aload_n 0, 1) := by decide +kernel
theorem dX3_indexOfCouple_29 : decode cX3_indexOfCouple 29 = .ok (.getfield 79, 3) := by decide +kernel
theorem dX3_indexOfCouple_32 : decode cX3_indexOfCouple 32 = .ok (.bipush 6, 2) := by decide +kernel
theorem dX3_indexOfCouple_34 : decode cX3_indexOfCouple 34 = .ok (.if_icmp .lt 5, 3) := by decide +kernel
theorem dX3_indexOfCouple_37 : decode cX3_indexOfCouple 37 = .ok (.iconst (-1), 1) := by decide +kernel
theorem dX3_indexOfCouple_38 : decode cX3_indexOfCouple 38 = .ok (.ireturn, 1) := by decide +kernel
theorem dX3_indexOfCouple_39 : decode cX3_indexOfCouple 39 = .ok (.aload_n 0, 1) := by decide +kernel
theorem dX3_indexOfCouple_40 : decode cX3_indexOfCouple 40 = .ok (.getfield 79, 3) := by decide +kernel
theorem dX3_indexOfCouple_43 : decode cX3_indexOfCouple 43 = .ok (.istore_n 3, 1) := by decide +kernel
theorem dX3_indexOfCouple_44 : decode cX3_indexOfCouple 44 = .ok (.aload_n 0, 1) := by decide +kernel
theorem dX3_indexOfCouple_45 : decode cX3_indexOfCouple 45 = .ok (.dup, 1) := by decide +kernel
theorem dX3_indexOfCouple_46 : decode cX3_indexOfCouple 46 = .ok (.getfield 79, 3) := by decide +kernel
theorem dX3_indexOfCouple_49 : decode cX3_indexOfCouple 49 = .ok (.iconst 1, 1) := by decide +kernel
theorem dX3_indexOfCouple_50 : decode cX3_indexOfCouple 50 = .ok (.iadd, 1) := by decide +kernel
theorem dX3_indexOfCouple_51 : decode cX3_indexOfCouple 51 = .ok (.putfield 79, 3) := by decide +kernel
theorem dX3_indexOfCouple_54 : decode cX3_indexOfCouple 54 = .ok (.aload_n 0, 1) := by decide +kernel
theorem dX3_indexOfCouple_55 : decode cX3_indexOfCouple 55 = .ok (.getfield 24, 3) := by decide +kernel
theorem dX3_indexOfCouple_58 : decode cX3_indexOfCouple 58 = .ok (.iload_n 3, 1) := by decide +kernel
theorem dX3_indexOfCouple_59 : decode cX3_indexOfCouple 59 = .ok (.iload_n 2, 1) := by decide +kernel
theorem dX3_indexOfCouple_60 : decode cX3_indexOfCouple 60 = .ok (.iastore, 1) := by decide +kernel
theorem dX3_indexOfCouple_61 : decode cX3_indexOfCouple 61 = .ok (.aload_n 0, 1) := by decide +kernel
theorem dX3_indexOfCouple_62 : decode cX3_indexOfCouple 62 = .ok (.getfield 27, 3) := by decide +kernel
theorem dX3_indexOfCouple_65 : decode cX3_indexOfCouple 65 = .ok (.iload_n 3, 1) := by decide +kernel
theorem dX3_indexOfCouple_66 : decode cX3_indexOfCouple 66 = .ok (.aload_n 1, 1) := by decide +kernel
theorem dX3_indexOfCouple_67 : decode cX3_indexOfCouple 67 = .ok (.iload_n 2, 1) := by decide +kernel
theorem dX3_indexOfCouple_68 : decode cX3_indexOfCouple 68 = .ok (.invokevirtual 93, 3) := by decide +kernel
theorem dX3_indexOfCouple_71 : decode cX3_indexOfCouple 71 = .ok (.iastore, 1) := by decide +kernel
theorem dX3_indexOfCouple_72 : decode cX3_indexOfCouple 72 = .ok (.aload_n 0, 1) := by decide +kernel
theorem dX3_indexOfCouple_73 : decode cX3_indexOfCouple 73 = .ok (.getfield 30, 3) := by decide +kernel
theorem dX3_indexOfCouple_76 : decode cX3_indexOfCouple 76 = .ok (.iload_n 3, 1) := by decide +kernel
theorem dX3_indexOfCouple_77 : decode cX3_indexOfCouple 77 = .ok (.aload_n 1, 1) := by decide +kernel
theorem dX3_indexOfCouple_78 : decode cX3_indexOfCouple 78 = .ok (.iload_n 2, 1) := by decide +kernel
theorem dX3_indexOfCouple_79 : decode cX3_indexOfCouple 79 = .ok (.invokevirtual 96, 3) := by decide +kernel
theorem dX3_indexOfCouple_82 : decode cX3_indexOfCouple 82 = .ok (.iastore, 1) := by decide +kernel
theorem dX3_indexOfCouple_83 : decode cX3_indexOfCouple 83 = .ok (.iload_n 3, 1) := by decide +kernel
theorem dX3_indexOfCouple_84 : decode cX3_indexOfCouple 84 = .ok (.ireturn, 1) := by decide +kernel
theorem dX3_noteLinesFrom_0 : decode cX3_noteLinesFrom 0 = .ok (.iconst 0, 1) := by decide +kernel
theorem dX3_noteLinesFrom_1 : decode cX3_noteLinesFrom 1 = .ok (.istore_n 2, 1) := by decide +kernel
theorem dX3_noteLinesFrom_2 : decode cX3_noteLinesFrom 2 = .ok (.iload_n 2, 1) := by decide +kernel
theorem dX3_noteLinesFrom_3 : decode cX3_noteLinesFrom 3 = .ok (.aload_n 0, 1) := by decide +kernel
theorem dX3_noteLinesFrom_4 : decode cX3_noteLinesFrom 4 = .ok (.getfield 79, 3) := by decide +kernel
theorem dX3_noteLinesFrom_7 : decode cX3_noteLinesFrom 7 = .ok (.if_icmp .ge 34, 3) := by decide +kernel
theorem dX3_noteLinesFrom_10 : decode cX3_noteLinesFrom 10 = .ok (.iconst 0, 1) := by decide +kernel
theorem dX3_noteLinesFrom_11 : decode cX3_noteLinesFrom 11 = .ok (.istore_n 3, 1) := by decide +kernel
theorem dX3_noteLinesFrom_12 : decode cX3_noteLinesFrom 12 = .ok (.iload_n 3, 1) := by decide +kernel
theorem dX3_noteLinesFrom_13 : decode cX3_noteLinesFrom 13 = .ok (.aload_n 0, 1) := by decide +kernel
theorem dX3_noteLinesFrom_14 : decode cX3_noteLinesFrom 14 = .ok (.getfield 79, 3) := by decide +kernel
theorem dX3_noteLinesFrom_17 : decode cX3_noteLinesFrom 17 = .ok (.if_icmp .ge 18, 3) := by decide +kernel
theorem dX3_noteLinesFrom_20 : decode cX3_noteLinesFrom 20 = .ok (.aload_n 0, 1) := by decide +kernel
theorem dX3_noteLinesFrom_21 : decode cX3_noteLinesFrom 21 = .ok (.getfield 41, 3) := by decide +kernel
theorem dX3_noteLinesFrom_24 : decode cX3_noteLinesFrom 24 = .ok (.iload_n 2, 1) := by decide +kernel
theorem dX3_noteLinesFrom_25 : decode cX3_noteLinesFrom 25 = .ok (.aaload, 1) := by decide +kernel
theorem dX3_noteLinesFrom_26 : decode cX3_noteLinesFrom 26 = .ok (.iload_n 3, 1) := by decide +kernel
theorem dX3_noteLinesFrom_27 : decode cX3_noteLinesFrom 27 = .ok (.iconst 0, 1) := by decide +kernel
theorem dX3_noteLinesFrom_28 : decode cX3_noteLinesFrom 28 = .ok (.iastore, 1) := by decide +kernel
theorem dX3_noteLinesFrom_29 : decode cX3_noteLinesFrom 29 = .ok (.iinc 3 1, 3) := by decide +kernel
theorem dX3_noteLinesFrom_32 : decode cX3_noteLinesFrom 32 = .ok (.goto (-20), 3) := by decide +kernel
theorem dX3_noteLinesFrom_35 : decode cX3_noteLinesFrom 35 = .ok (.iinc 2 1, 3) := by decide +kernel
theorem dX3_noteLinesFrom_38 : decode cX3_noteLinesFrom 38 = .ok (.goto (-36), 3) := by decide +kernel
theorem dX3_noteLinesFrom_41 : decode cX3_noteLinesFrom 41 = .ok (.iconst 0, 1) := by decide +kernel
theorem dX3_noteLinesFrom_42 : decode cX3_noteLinesFrom 42 = .ok (.istore_n 2, 1) := by decide +kernel
theorem dX3_noteLinesFrom_43 : decode cX3_noteLinesFrom 43 = .ok (.iload_n 2, 1) := by decide +kernel
theorem dX3_noteLinesFrom_44 : decode cX3_noteLinesFrom 44 = .ok (.iload_n 1, 1) := by decide +kernel
theorem dX3_noteLinesFrom_45 : decode cX3_noteLinesFrom 45 = .ok (.if_icmp .ge 66, 3) := by decide +kernel
theorem dX3_noteLinesFrom_48 : decode cX3_noteLinesFrom 48 = .ok (.iload_n 2, 1) := by decide +kernel
theorem dX3_noteLinesFrom_49 : decode cX3_noteLinesFrom 49 = .ok (.iconst 1, 1) := by decide +kernel
theorem dX3_noteLinesFrom_50 : decode cX3_noteLinesFrom 50 = .ok (.iadd, 1) := by decide +kernel
theorem dX3_noteLinesFrom_51 : decode cX3_noteLinesFrom 51 = .ok (.istore_n 3, 1) := by decide +kernel
theorem dX3_noteLinesFrom_52 : decode cX3_noteLinesFrom 52 = .ok (.iload_n 3, 1) := by decide +kernel
theorem dX3_noteLinesFrom_53 : decode cX3_noteLinesFrom 53 = .ok (.iload_n 1, 1) := by decide +kernel
theorem dX3_noteLinesFrom_54 : decode cX3_noteLinesFrom 54 = .ok (.if_icmp .ge 51, 3) := by decide +kernel
theorem dX3_noteLinesFrom_57 : decode cX3_noteLinesFrom 57 = .ok (.aload_n 0, 1) := by decide +kernel
theorem dX3_noteLinesFrom_58 : decode cX3_noteLinesFrom 58 = .ok (.getfield 36, 3) := by decide +kernel
theorem dX3_noteLinesFrom_61 : decode cX3_noteLinesFrom 61 = .ok (.iload_n 2, 1) := by decide +kernel
theorem dX3_noteLinesFrom_62 : decode cX3_noteLinesFrom 62 = .ok (.iaload, 1) := by decide +kernel
theorem dX3_noteLinesFrom_63 : decode cX3_noteLinesFrom 63 = .ok (.iconst (-1), 1) := by decide +kernel
theorem dX3_noteLinesFrom_64 : decode cX3_noteLinesFrom 64 = .ok (.if_icmp .eq 35, 3) := by decide +kernel
theorem dX3_noteLinesFrom_67 : decode cX3_noteLinesFrom 67 = .ok (.aload_n 0, 1) := by decide +kernel
theorem dX3_noteLinesFrom_68 : decode cX3_noteLinesFrom 68 = .ok (.getfield 36, 3) := by decide +kernel
theorem dX3_noteLinesFrom_71 : decode cX3_noteLinesFrom 71 = .ok (.iload_n 3, 1) := by decide +kernel
theorem dX3_noteLinesFrom_72 : decode cX3_noteLinesFrom 72 = .ok (.iaload, 1) := by decide +kernel
theorem dX3_noteLinesFrom_73 : decode cX3_noteLinesFrom 73 = .ok (.iconst (-1), 1) := by decide +kernel
theorem dX3_noteLinesFrom_74 : decode cX3_noteLinesFrom 74 = .ok (.if_icmp .eq 25, 3) := by decide +kernel
theorem dX3_noteLinesFrom_77 : decode cX3_noteLinesFrom 77 = .ok (.aload_n 0, 1) := by decide +kernel
theorem dX3_noteLinesFrom_78 : decode cX3_noteLinesFrom 78 = .ok (.getfield 41, 3) := by decide +kernel
theorem dX3_noteLinesFrom_81 : decode cX3_noteLinesFrom 81 = .ok (.aload_n 0, 1) := by decide +kernel
theorem dX3_noteLinesFrom_82 : decode cX3_noteLinesFrom 82 = .ok (.getfield 36, 3) := by decide +kernel
theorem dX3_noteLinesFrom_85 : decode cX3_noteLinesFrom 85 = .ok (.iload_n 3, 1) := by decide +kernel
theorem dX3_noteLinesFrom_86 : decode cX3_noteLinesFrom 86 = .ok (.iaload, 1) := by decide +kernel
theorem dX3_noteLinesFrom_87 : decode cX3_noteLinesFrom 87 = .ok (.aaload, 1) := by decide +kernel
theorem dX3_noteLinesFrom_88 : decode cX3_noteLinesFrom 88 = .ok (.aload_n 0, 1) := by decide +kernel
theorem dX3_noteLinesFrom_89 : decode cX3_noteLinesFrom 89 = .ok (.getfield 36, 3) := by decide +kernel
theorem dX3_noteLinesFrom_92 : decode cX3_noteLinesFrom 92 = .ok (.iload_n 2, 1) := by decide +kernel
theorem dX3_noteLinesFrom_93 : decode cX3_noteLinesFrom 93 = .ok (.iaload, 1) := by decide +kernel
theorem dX3_noteLinesFrom_94 : decode cX3_noteLinesFrom 94 = .ok (.dup2, 1) := by decide +kernel
theorem dX3_noteLinesFrom_95 : decode cX3_noteLinesFrom 95 = .ok (.iaload, 1) := by decide +kernel
theorem dX3_noteLinesFrom_96 : decode cX3_noteLinesFrom 96 = .ok (.iconst 1, 1) := by decide +kernel
theorem dX3_noteLinesFrom_97 : decode cX3_noteLinesFrom 97 = .ok (.iadd, 1) := by decide +kernel
theorem dX3_noteLinesFrom_98 : decode cX3_noteLinesFrom 98 = .ok (.iastore, 1) := by decide +kernel
theorem dX3_noteLinesFrom_99 : decode cX3_noteLinesFrom 99 = .ok (.iinc 3 1, 3) := by decide +kernel
theorem dX3_noteLinesFrom_102 : decode cX3_noteLinesFrom 102 = .ok (.goto (-50), 3) := by decide +kernel
theorem dX3_noteLinesFrom_105 : decode cX3_noteLinesFrom 105 = .ok (.iinc 2 1, 3) := by decide +kernel
theorem dX3_noteLinesFrom_108 : decode cX3_noteLinesFrom 108 = .ok (.goto (-65), 3) := by decide +kernel
theorem dX3_noteLinesFrom_111 : decode cX3_noteLinesFrom 111 = .ok (.return_, 1) := by decide +kernel
set_option maxRecDepth 20000 in
theorem ggX3_leastByAllOrders_X3_crossingsOfFirst : GoodIn wsX3_leastByAllOrders wsX3_crossingsOfFirst := goodIn_r _ [13, 3, 14, 15, 16, 17, 18, 19, 20, 21, 22, 23, 24, 25, 12, 26, 27, 28, 29, 30, 31, 40, 41, 42, 43, 44, 45, 46, 47, 48, 49, 50, 51, 52] (by decide +kernel) (by decide +kernel)
set_option maxRecDepth 20000 in
theorem gX3_leastByAllOrders_X3_crossingsOfFirst : GoodIn wsX3_leastByAllOrders (wsV RX3 102 RX3 yX3_crossingsOfFirst wsX3_crossingsOfFirst) := goodIn_app (goodIn_of _ (by decide +kernel)) ggX3_leastByAllOrders_X3_crossingsOfFirst
set_option maxRecDepth 20000 in
theorem ggX3_leastByAllOrders_X3_goToNextOrder : GoodIn wsX3_leastByAllOrders wsX3_goToNextOrder := goodIn_r _ [35, 2, 3, 36, 37, 38, 12, 39, 40, 41, 42, 43, 44, 45, 46, 47, 48, 49, 50, 51, 52] (by decide +kernel) (by decide +kernel)
set_option maxRecDepth 20000 in
theorem gX3_leastByAllOrders_X3_goToNextOrder : GoodIn wsX3_leastByAllOrders (wsV RX3 111 RX3 yX3_goToNextOrder wsX3_goToNextOrder) := goodIn_app (goodIn_of _ (by decide +kernel)) ggX3_leastByAllOrders_X3_goToNextOrder
theorem dX3_leastByAllOrders_0 : decode cX3_leastByAllOrders 0 = .ok (.aload_n 0, 1) := by decide +kernel
theorem dX3_leastByAllOrders_1 : decode cX3_leastByAllOrders 1 = .ok (.sipush 1000, 3) := by decide +kernel
theorem dX3_leastByAllOrders_4 : decode cX3_leastByAllOrders 4 = .ok (.putfield 99, 3) := by decide +kernel
theorem dX3_leastByAllOrders_7 : decode cX3_leastByAllOrders 7 = .ok (.iconst 1, 1) := by decide +kernel
theorem dX3_leastByAllOrders_8 : decode cX3_leastByAllOrders 8 = .ok (.istore_n 1, 1) := by decide +kernel
theorem dX3_leastByAllOrders_9 : decode cX3_leastByAllOrders 9 = .ok (.iconst 0, 1) := by decide +kernel
theorem dX3_leastByAllOrders_10 : decode cX3_leastByAllOrders 10 = .ok (.istore_n 2, 1) := by decide +kernel
theorem dX3_leastByAllOrders_11 : decode cX3_leastByAllOrders 11 = .ok (.iload_n 2, 1) := by decide +kernel
theorem dX3_leastByAllOrders_12 : decode cX3_leastByAllOrders 12 = .ok (.sipush 720, 3) := by decide +kernel
theorem dX3_leastByAllOrders_15 : decode cX3_leastByAllOrders 15 = .ok (.if_icmp .ge 55, 3) := by decide +kernel
theorem dX3_leastByAllOrders_18 : decode cX3_leastByAllOrders 18 = .ok (.iload_n 1, 1) := by decide +kernel
theorem dX3_leastByAllOrders_19 : decode cX3_leastByAllOrders 19 = .ok (.ifCond .eq 51, 3) := by decide +kernel
theorem dX3_leastByAllOrders_22 : decode cX3_leastByAllOrders 22 = .ok (.aload_n 0, 1) := by decide +kernel
theorem dX3_leastByAllOrders_23 : decode cX3_leastByAllOrders 23 = .ok (.aload_n 0, 1) := by decide +kernel
theorem dX3_leastByAllOrders_24 : decode cX3_leastByAllOrders 24 = .ok (.getfield 65, 3) := by decide +kernel
theorem dX3_leastByAllOrders_27 : decode cX3_leastByAllOrders 27 = .ok (.invokevirtual 102, 3) := by decide +kernel
theorem dX3_leastByAllOrders_30 : decode cX3_leastByAllOrders 30 = .ok (.istore_n 3, 1) := by decide +kernel
theorem dX3_leastByAllOrders_31 : decode cX3_leastByAllOrders 31 = .ok (.iload_n 3, 1) := by decide +kernel
theorem dX3_leastByAllOrders_32 : decode cX3_leastByAllOrders 32 = .ok (.aload_n 0, 1) := by decide +kernel
theorem dX3_leastByAllOrders_33 : decode cX3_leastByAllOrders 33 = .ok (.getfield 99, 3) := by decide +kernel
theorem dX3_leastByAllOrders_36 : decode cX3_leastByAllOrders 36 = .ok (.if_icmp .ge 23, 3) := by decide +kernel
theorem dX3_leastByAllOrders_39 : decode cX3_leastByAllOrders 39 = .ok (.aload_n 0, 1) := by decide +kernel
theorem dX3_leastByAllOrders_40 : decode cX3_leastByAllOrders 40 = .ok (.iload_n 3, 1) := by decide +kernel
theorem dX3_leastByAllOrders_41 : decode cX3_leastByAllOrders 41 = .ok (.putfield 99, 3) := by decide +kernel
theorem dX3_leastByAllOrders_44 : decode cX3_leastByAllOrders 44 = .ok (.aload_n 0, 1) := by decide +kernel
theorem dX3_leastByAllOrders_45 : decode cX3_leastByAllOrders 45 = .ok (.getfield 9, 3) := by decide +kernel
theorem dX3_leastByAllOrders_48 : decode cX3_leastByAllOrders 48 = .ok (.iconst 0, 1) := by decide +kernel
theorem dX3_leastByAllOrders_49 : decode cX3_leastByAllOrders 49 = .ok (.aload_n 0, 1) := by decide +kernel
theorem dX3_leastByAllOrders_50 : decode cX3_leastByAllOrders 50 = .ok (.getfield 15, 3) := by decide +kernel
theorem dX3_leastByAllOrders_53 : decode cX3_leastByAllOrders 53 = .ok (.iconst 0, 1) := by decide +kernel
theorem dX3_leastByAllOrders_54 : decode cX3_leastByAllOrders 54 = .ok (.bipush 6, 2) := by decide +kernel
theorem dX3_leastByAllOrders_56 : decode cX3_leastByAllOrders 56 = .ok (.invokestatic 105, 3) := by decide +kernel
theorem dX3_leastByAllOrders_59 : decode cX3_leastByAllOrders 59 = .ok (.aload_n 0, 1) := by decide +kernel
theorem dX3_leastByAllOrders_60 : decode cX3_leastByAllOrders 60 = .ok (.invokevirtual 111, 3) := by decide +kernel
theorem dX3_leastByAllOrders_63 : decode cX3_leastByAllOrders 63 = .ok (.istore_n 1, 1) := by decide +kernel
theorem dX3_leastByAllOrders_64 : decode cX3_leastByAllOrders 64 = .ok (.iinc 2 1, 3) := by decide +kernel
theorem dX3_leastByAllOrders_67 : decode cX3_leastByAllOrders 67 = .ok (.goto (-56), 3) := by decide +kernel
theorem dX3_leastByAllOrders_70 : decode cX3_leastByAllOrders 70 = .ok (.aload_n 0, 1) := by decide +kernel
theorem dX3_leastByAllOrders_71 : decode cX3_leastByAllOrders 71 = .ok (.getfield 99, 3) := by decide +kernel
theorem dX3_leastByAllOrders_74 : decode cX3_leastByAllOrders 74 = .ok (.ireturn, 1) := by decide +kernel
set_option maxRecDepth 20000 in
theorem ggX3_layBest_X5_lay : GoodIn wsX3_layBest wsX5_lay := goodIn_r _ [7, 8, 9, 10, 11, 12, 6, 13, 14, 15, 16, 17, 18, 19, 33, 34, 35, 36, 37, 38, 39, 40, 41, 42] (by decide +kernel) (by decide +kernel)
set_option maxRecDepth 20000 in
theorem gX3_layBest_X5_lay : GoodIn wsX3_layBest (wsV RX3 115 RX5 yX5_lay wsX5_lay) := goodIn_app (goodIn_of _ (by decide +kernel)) ggX3_layBest_X5_lay
theorem dX3_layBest_0 : decode cX3_layBest 0 = .ok (.iconst 0, 1) := by decide +kernel
theorem dX3_layBest_1 : decode cX3_layBest 1 = .ok (.istore_n 3, 1) := by decide +kernel
theorem dX3_layBest_2 : decode cX3_layBest 2 = .ok (.iload_n 3, 1) := by decide +kernel
theorem dX3_layBest_3 : decode cX3_layBest 3 = .ok (.aload_n 0, 1) := by decide +kernel
theorem dX3_layBest_4 : decode cX3_layBest 4 = .ok (.getfield 65, 3) := by decide +kernel
theorem dX3_layBest_7 : decode cX3_layBest 7 = .ok (.if_icmp .ge 21, 3) := by decide +kernel
theorem dX3_layBest_10 : decode cX3_layBest 10 = .ok (.aload_n 1, 1) := by decide +kernel
theorem dX3_layBest_11 : decode cX3_layBest 11 = .ok (.iload_n 2, 1) := by decide +kernel
theorem dX3_layBest_12 : decode cX3_layBest 12 = .ok (.iload_n 3, 1) := by decide +kernel
theorem dX3_layBest_13 : decode cX3_layBest 13 = .ok (.aload_n 0, 1) := by decide +kernel
theorem dX3_layBest_14 : decode cX3_layBest 14 = .ok (.getfield 15, 3) := by decide +kernel
theorem dX3_layBest_17 : decode cX3_layBest 17 = .ok (.iload_n 3, 1) := by decide +kernel
theorem dX3_layBest_18 : decode cX3_layBest 18 = .ok (.iaload, 1) := by decide +kernel
theorem dX3_layBest_19 : decode cX3_layBest 19 = .ok (.invokevirtual 115, 3) := by decide +kernel
theorem dX3_layBest_22 : decode cX3_layBest 22 = .ok (.iinc 3 1, 3) := by decide +kernel
theorem dX3_layBest_25 : decode cX3_layBest 25 = .ok (.goto (-23), 3) := by decide +kernel
theorem dX3_layBest_28 : decode cX3_layBest 28 = .ok (.return_, 1) := by decide +kernel
set_option maxRecDepth 20000 in
theorem ggX3_goToNextOrder_X3_exchange : GoodIn wsX3_goToNextOrder wsX3_exchange := goodIn_r _ [7, 2, 8, 9, 10, 11, 12, 13, 14, 15, 16, 17, 18, 19, 20] (by decide +kernel) (by decide +kernel)
set_option maxRecDepth 20000 in
theorem gX3_goToNextOrder_X3_exchange : GoodIn wsX3_goToNextOrder (wsV RX3 119 RX3 yX3_exchange wsX3_exchange) := goodIn_app (goodIn_of _ (by decide +kernel)) ggX3_goToNextOrder_X3_exchange
theorem dX3_goToNextOrder_0 : decode cX3_goToNextOrder 0 = .ok (.aload_n 0, 1) := by decide +kernel
theorem dX3_goToNextOrder_1 : decode cX3_goToNextOrder 1 = .ok (.getfield 65, 3) := by decide +kernel
theorem dX3_goToNextOrder_4 : decode cX3_goToNextOrder 4 = .ok (.iconst 2, 1) := by decide +kernel
theorem dX3_goToNextOrder_5 : decode cX3_goToNextOrder 5 = .ok (.isub, 1) := by decide +kernel
theorem dX3_goToNextOrder_6 : decode cX3_goToNextOrder 6 = .ok (.istore_n 1, 1) := by decide +kernel
theorem dX3_goToNextOrder_7 : decode cX3_goToNextOrder 7 = .ok (.iload_n 1, 1) := by decide +kernel
theorem dX3_goToNextOrder_8 : decode cX3_goToNextOrder 8 = .ok (.ifCond .lt 26, 3) := by decide +kernel
theorem dX3_goToNextOrder_11 : decode cX3_goToNextOrder 11 = .ok (.aload_n 0, 1) := by decide +kernel
theorem dX3_goToNextOrder_12 : decode cX3_goToNextOrder 12 = .ok (.getfield 9, 3) := by decide +kernel
theorem dX3_goToNextOrder_15 : decode cX3_goToNextOrder 15 = .ok (.iload_n 1, 1) := by decide +kernel
theorem dX3_goToNextOrder_16 : decode cX3_goToNextOrder 16 = .ok (.iaload, 1) := by decide +kernel
theorem dX3_goToNextOrder_17 : decode cX3_goToNextOrder 17 = .ok (.aload_n 0, 1) := by decide +kernel
theorem dX3_goToNextOrder_18 : decode cX3_goToNextOrder 18 = .ok (.getfield 9, 3) := by decide +kernel
theorem dX3_goToNextOrder_21 : decode cX3_goToNextOrder 21 = .ok (.iload_n 1, 1) := by decide +kernel
theorem dX3_goToNextOrder_22 : decode cX3_goToNextOrder 22 = .ok (.iconst 1, 1) := by decide +kernel
theorem dX3_goToNextOrder_23 : decode cX3_goToNextOrder 23 = .ok (.iadd, 1) := by decide +kernel
theorem dX3_goToNextOrder_24 : decode cX3_goToNextOrder 24 = .ok (.iaload, 1) := by decide +kernel
theorem dX3_goToNextOrder_25 : decode cX3_goToNextOrder 25 = .ok (.if_icmp .le 9, 3) := by decide +kernel
theorem dX3_goToNextOrder_28 : decode cX3_goToNextOrder 28 = .ok (.iinc 1 (-1), 3) := by decide +kernel
theorem dX3_goToNextOrder_31 : decode cX3_goToNextOrder 31 = .ok (.goto (-24), 3) := by decide +kernel
theorem dX3_goToNextOrder_34 : decode cX3_goToNextOrder 34 = .ok (.iload_n 1, 1) := by decide +kernel
theorem dX3_goToNextOrder_35 : decode cX3_goToNextOrder 35 = .ok (.ifCond .ge 5, 3) := by decide +kernel
theorem dX3_goToNextOrder_38 : decode cX3_goToNextOrder 38 = .ok (.iconst 0, 1) := by decide +kernel
theorem dX3_goToNextOrder_39 : decode cX3_goToNextOrder 39 = .ok (.ireturn, 1) := by decide +kernel
theorem dX3_goToNextOrder_40 : decode cX3_goToNextOrder 40 = .ok (.aload_n 0, 1) := by decide +kernel
theorem dX3_goToNextOrder_41 : decode cX3_goToNextOrder 41 = .ok (.getfield 65, 3) := by decide +kernel
theorem dX3_goToNextOrder_44 : decode cX3_goToNextOrder 44 = .ok (.iconst 1, 1) := by decide +kernel
theorem dX3_goToNextOrder_45 : decode cX3_goToNextOrder 45 = .ok (.isub, 1) := by decide +kernel
theorem dX3_goToNextOrder_46 : decode cX3_goToNextOrder 46 = .ok (.istore_n 2, 1) := by decide +kernel
theorem dX3_goToNextOrder_47 : decode cX3_goToNextOrder 47 = .ok (.iload_n 2, 1) := by decide +kernel
theorem dX3_goToNextOrder_48 : decode cX3_goToNextOrder 48 = .ok (.iload_n 1, 1) := by decide +kernel
theorem dX3_goToNextOrder_49 : decode cX3_goToNextOrder 49 = .ok (.iconst 1, 1) := by decide +kernel
theorem dX3_goToNextOrder_50 : decode cX3_goToNextOrder 50 = .ok (.iadd, 1) := by decide +kernel
theorem dX3_goToNextOrder_51 : decode cX3_goToNextOrder 51 = .ok (.if_icmp .le 24, 3) := by decide +kernel
theorem dX3_goToNextOrder_54 : decode cX3_goToNextOrder 54 = .ok (.aload_n 0, 1) := by decide +kernel
theorem dX3_goToNextOrder_55 : decode cX3_goToNextOrder 55 = .ok (.getfield 9, 3) := by decide +kernel
theorem dX3_goToNextOrder_58 : decode cX3_goToNextOrder 58 = .ok (.iload_n 2, 1) := by decide +kernel
theorem dX3_goToNextOrder_59 : decode cX3_goToNextOrder 59 = .ok (.iaload, 1) := by decide +kernel
theorem dX3_goToNextOrder_60 : decode cX3_goToNextOrder 60 = .ok (.aload_n 0, 1) := by decide +kernel
theorem dX3_goToNextOrder_61 : decode cX3_goToNextOrder 61 = .ok (.getfield 9, 3) := by decide +kernel
theorem dX3_goToNextOrder_64 : decode cX3_goToNextOrder 64 = .ok (.iload_n 1, 1) := by decide +kernel
theorem dX3_goToNextOrder_65 : decode cX3_goToNextOrder 65 = .ok (.iaload, 1) := by decide +kernel
theorem dX3_goToNextOrder_66 : decode cX3_goToNextOrder 66 = .ok (.if_icmp .ge 9, 3) := by decide +kernel
theorem dX3_goToNextOrder_69 : decode cX3_goToNextOrder 69 = .ok (.iinc 2 (-1), 3) := by decide +kernel
theorem dX3_goToNextOrder_72 : decode cX3_goToNextOrder 72 = .ok (.goto (-25), 3) := by decide +kernel
theorem dX3_goToNextOrder_75 : decode cX3_goToNextOrder 75 = .ok (.aload_n 0, 1) := by decide +kernel
theorem dX3_goToNextOrder_76 : decode cX3_goToNextOrder 76 = .ok (.iload_n 1, 1) := by decide +kernel
theorem dX3_goToNextOrder_77 : decode cX3_goToNextOrder 77 = .ok (.iload_n 2, 1) := by decide +kernel
theorem dX3_goToNextOrder_78 : decode cX3_goToNextOrder 78 = .ok (.invokevirtual 119, 3) := by decide +kernel
theorem dX3_goToNextOrder_81 : decode cX3_goToNextOrder 81 = .ok (.iload_n 1, 1) := by decide +kernel
theorem dX3_goToNextOrder_82 : decode cX3_goToNextOrder 82 = .ok (.iconst 1, 1) := by decide +kernel
theorem dX3_goToNextOrder_83 : decode cX3_goToNextOrder 83 = .ok (.iadd, 1) := by decide +kernel
theorem dX3_goToNextOrder_84 : decode cX3_goToNextOrder 84 = .ok (.istore_n 3, 1) := by decide +kernel
theorem dX3_goToNextOrder_85 : decode cX3_goToNextOrder 85 = .ok (.aload_n 0, 1) := by decide +kernel
theorem dX3_goToNextOrder_86 : decode cX3_goToNextOrder 86 = .ok (.getfield 65, 3) := by decide +kernel
theorem dX3_goToNextOrder_89 : decode cX3_goToNextOrder 89 = .ok (.iconst 1, 1) := by decide +kernel
theorem dX3_goToNextOrder_90 : decode cX3_goToNextOrder 90 = .ok (.isub, 1) := by decide +kernel
theorem dX3_goToNextOrder_91 : decode cX3_goToNextOrder 91 = .ok (.istore 4, 2) := by decide +kernel
theorem dX3_goToNextOrder_93 : decode cX3_goToNextOrder 93 = .ok (.iload_n 3, 1) := by decide +kernel
theorem dX3_goToNextOrder_94 : decode cX3_goToNextOrder 94 = .ok (.iload 4, 2) := by decide +kernel
theorem dX3_goToNextOrder_96 : decode cX3_goToNextOrder 96 = .ok (.if_icmp .ge 19, 3) := by decide +kernel
theorem dX3_goToNextOrder_99 : decode cX3_goToNextOrder 99 = .ok (.aload_n 0, 1) := by decide +kernel
theorem dX3_goToNextOrder_100 : decode cX3_goToNextOrder 100 = .ok (.iload_n 3, 1) := by decide +kernel
theorem dX3_goToNextOrder_101 : decode cX3_goToNextOrder 101 = .ok (.iload 4, 2) := by decide +kernel
theorem dX3_goToNextOrder_103 : decode cX3_goToNextOrder 103 = .ok (.invokevirtual 119, 3) := by decide +kernel
theorem dX3_goToNextOrder_106 : decode cX3_goToNextOrder 106 = .ok (.iinc 3 1, 3) := by decide +kernel
theorem dX3_goToNextOrder_109 : decode cX3_goToNextOrder 109 = .ok (.iinc 4 (-1), 3) := by decide +kernel
theorem dX3_goToNextOrder_112 : decode cX3_goToNextOrder 112 = .ok (.goto (-19), 3) := by decide +kernel
theorem dX3_goToNextOrder_115 : decode cX3_goToNextOrder 115 = .ok (.iconst 1, 1) := by decide +kernel
theorem dX3_goToNextOrder_116 : decode cX3_goToNextOrder 116 = .ok (.ireturn, 1) := by decide +kernel
set_option maxRecDepth 20000 in
theorem ggX3_leastByLaying_X3_layOn : GoodIn wsX3_leastByLaying wsX3_layOn := goodIn_r _ [5, 1, 6, 7, 8, 9, 4, 10, 11, 12, 13, 14, 15, 16, 17, 18, 19, 20, 21, 22, 23, 24, 25, 26, 27, 28, 29, 30, 31, 32, 33, 2, 3, 34, 35, 36, 37, 38, 39, 40, 41, 42, 43, 44, 45, 46] (by decide +kernel) (by decide +kernel)
set_option maxRecDepth 20000 in
theorem gX3_leastByLaying_X3_layOn : GoodIn wsX3_leastByLaying (va_wsS RX3 123 yX3_layOn wsX3_layOn) := goodIn_app (goodIn_of _ (by decide +kernel)) ggX3_leastByLaying_X3_layOn
theorem dX3_leastByLaying_0 : decode cX3_leastByLaying 0 = .ok (.aload_n 0, 1) := by decide +kernel
theorem dX3_leastByLaying_1 : decode cX3_leastByLaying 1 = .ok (.sipush 1000, 3) := by decide +kernel
theorem dX3_leastByLaying_4 : decode cX3_leastByLaying 4 = .ok (.putfield 99, 3) := by decide +kernel
theorem dX3_leastByLaying_7 : decode cX3_leastByLaying 7 = .ok (.aload_n 0, 1) := by decide +kernel
theorem dX3_leastByLaying_8 : decode cX3_leastByLaying 8 = .ok (.iconst 0, 1) := by decide +kernel
theorem dX3_leastByLaying_9 : decode cX3_leastByLaying 9 = .ok (.invokestatic 123, 3) := by decide +kernel
theorem dX3_leastByLaying_12 : decode cX3_leastByLaying 12 = .ok (.aload_n 0, 1) := by decide +kernel
theorem dX3_leastByLaying_13 : decode cX3_leastByLaying 13 = .ok (.getfield 99, 3) := by decide +kernel
theorem dX3_leastByLaying_16 : decode cX3_leastByLaying 16 = .ok (.ireturn, 1) := by decide +kernel
set_option maxRecDepth 20000 in
theorem ggX3_layOn_X3_crossingsOfFirst : GoodIn wsX3_layOn wsX3_crossingsOfFirst := goodIn_r _ [7, 8, 9, 10, 11, 12, 13, 14, 15, 16, 17, 18, 19, 20, 6, 21, 22, 23, 24, 25, 26, 33, 34, 35, 36, 37, 38, 39, 40, 41, 42, 43, 44, 45] (by decide +kernel) (by decide +kernel)
set_option maxRecDepth 20000 in
theorem gX3_layOn_X3_crossingsOfFirst : GoodIn wsX3_layOn (wsV RX3 102 RX3 yX3_crossingsOfFirst wsX3_crossingsOfFirst) := goodIn_app (goodIn_of _ (by decide +kernel)) ggX3_layOn_X3_crossingsOfFirst
set_option maxRecDepth 20000 in
theorem ggX3_layOn_X3_exchange : GoodIn wsX3_layOn wsX3_exchange := goodIn_r _ [30, 8, 33, 34, 35, 36, 37, 38, 39, 40, 41, 42, 43, 44, 45] (by decide +kernel) (by decide +kernel)
set_option maxRecDepth 20000 in
theorem gX3_layOn_X3_exchange : GoodIn wsX3_layOn (wsV RX3 119 RX3 yX3_exchange wsX3_exchange) := goodIn_app (goodIn_of _ (by decide +kernel)) ggX3_layOn_X3_exchange
set_option maxRecDepth 20000 in
theorem ggX3_layOn_X3_layOn : GoodIn wsX3_layOn wsX3_layOn := goodIn_r _ [0, 1, 2, 3, 4, 5, 6, 7, 8, 9, 10, 11, 12, 13, 14, 15, 16, 17, 18, 19, 20, 21, 22, 23, 24, 25, 26, 27, 28, 29, 30, 31, 32, 33, 34, 35, 36, 37, 38, 39, 40, 41, 42, 43, 44, 45] (by decide +kernel) (by decide +kernel)
set_option maxRecDepth 20000 in
theorem gX3_layOn_X3_layOn : GoodIn wsX3_layOn (va_wsS RX3 123 yX3_layOn wsX3_layOn) := goodIn_app (goodIn_of _ (by decide +kernel)) ggX3_layOn_X3_layOn
theorem dX3_layOn_0 : decode cX3_layOn 0 = .ok (.aload_n 0, 1) := by decide +kernel
theorem dX3_layOn_1 : decode cX3_layOn 1 = .ok (.iload_n 1, 1) := by decide +kernel
theorem dX3_layOn_2 : decode cX3_layOn 2 = .ok (.invokevirtual 102, 3) := by decide +kernel
theorem dX3_layOn_5 : decode cX3_layOn 5 = .ok (.istore_n 2, 1) := by decide +kernel
theorem dX3_layOn_6 : decode cX3_layOn 6 = .ok (.iload_n 2, 1) := by decide +kernel
theorem dX3_layOn_7 : decode cX3_layOn 7 = .ok (.aload_n 0, 1) := by decide +kernel
theorem dX3_layOn_8 : decode cX3_layOn 8 = .ok (.getfield 99, 3) := by decide +kernel
theorem dX3_layOn_11 : decode cX3_layOn 11 = .ok (.if_icmp .lt 4, 3) := by decide +kernel
theorem dX3_layOn_14 : decode cX3_layOn 14 = .ok (.return_, 1) := by decide +kernel
theorem dX3_layOn_15 : decode cX3_layOn 15 = .ok (.iload_n 1, 1) := by decide +kernel
theorem dX3_layOn_16 : decode cX3_layOn 16 = .ok (.aload_n 0, 1) := by decide +kernel
theorem dX3_layOn_17 : decode cX3_layOn 17 = .ok (.getfield 65, 3) := by decide +kernel
theorem dX3_layOn_20 : decode cX3_layOn 20 = .ok (.if_icmp .ge 9, 3) := by decide +kernel
theorem dX3_layOn_23 : decode cX3_layOn 23 = .ok (.iload_n 1, 1) := by decide +kernel
theorem dX3_layOn_24 : decode cX3_layOn 24 = .ok (.bipush 6, 2) := by decide +kernel
theorem dX3_layOn_26 : decode cX3_layOn 26 = .ok (.if_icmp .lt 9, 3) := by decide +kernel
theorem dX3_layOn_29 : decode cX3_layOn 29 = .ok (.aload_n 0, 1) := by decide +kernel
theorem dX3_layOn_30 : decode cX3_layOn 30 = .ok (.iload_n 2, 1) := by decide +kernel
theorem dX3_layOn_31 : decode cX3_layOn 31 = .ok (.putfield 99, 3) := by decide +kernel
theorem dX3_layOn_34 : decode cX3_layOn 34 = .ok (.return_, 1) := by decide +kernel
theorem dX3_layOn_35 : decode cX3_layOn 35 = .ok (.iload_n 1, 1) := by decide +kernel
theorem dX3_layOn_36 : decode cX3_layOn 36 = .ok (.istore_n 3, 1) := by decide +kernel
theorem dX3_layOn_37 : decode cX3_layOn 37 = .ok (.iload_n 3, 1) := by decide +kernel
theorem dX3_layOn_38 : decode cX3_layOn 38 = .ok (.aload_n 0, 1) := by decide +kernel
theorem dX3_layOn_39 : decode cX3_layOn 39 = .ok (.getfield 65, 3) := by decide +kernel
theorem dX3_layOn_42 : decode cX3_layOn 42 = .ok (.if_icmp .ge 28, 3) := by decide +kernel
theorem dX3_layOn_45 : decode cX3_layOn 45 = .ok (.aload_n 0, 1) := by decide +kernel
theorem dX3_layOn_46 : decode cX3_layOn 46 = .ok (.iload_n 1, 1) := by decide +kernel
theorem dX3_layOn_47 : decode cX3_layOn 47 = .ok (.iload_n 3, 1) := by decide +kernel
theorem dX3_layOn_48 : decode cX3_layOn 48 = .ok (.invokevirtual 119, 3) := by decide +kernel
theorem dX3_layOn_51 : decode cX3_layOn 51 = .ok (.aload_n 0, 1) := by decide +kernel
theorem dX3_layOn_52 : decode cX3_layOn 52 = .ok (.iload_n 1, 1) := by decide +kernel
theorem dX3_layOn_53 : decode cX3_layOn 53 = .ok (.iconst 1, 1) := by decide +kernel
theorem dX3_layOn_54 : decode cX3_layOn 54 = .ok (.iadd, 1) := by decide +kernel
theorem dX3_layOn_55 : decode cX3_layOn 55 = .ok (.invokestatic 123, 3) := by decide +kernel
theorem dX3_layOn_58 : decode cX3_layOn 58 = .ok (.aload_n 0, 1) := by decide +kernel
theorem dX3_layOn_59 : decode cX3_layOn 59 = .ok (.iload_n 1, 1) := by decide +kernel
theorem dX3_layOn_60 : decode cX3_layOn 60 = .ok (.iload_n 3, 1) := by decide +kernel
theorem dX3_layOn_61 : decode cX3_layOn 61 = .ok (.invokevirtual 119, 3) := by decide +kernel
theorem dX3_layOn_64 : decode cX3_layOn 64 = .ok (.iinc 3 1, 3) := by decide +kernel
theorem dX3_layOn_67 : decode cX3_layOn 67 = .ok (.goto (-30), 3) := by decide +kernel
theorem dX3_layOn_70 : decode cX3_layOn 70 = .ok (.return_, 1) := by decide +kernel
theorem dX3_exchange_0 : decode cX3_exchange 0 = .ok (.aload_n 0, 1) := by decide +kernel
theorem dX3_exchange_1 : decode cX3_exchange 1 = .ok (.getfield 9, 3) := by decide +kernel
theorem dX3_exchange_4 : decode cX3_exchange 4 = .ok (.iload_n 1, 1) := by decide +kernel
theorem dX3_exchange_5 : decode cX3_exchange 5 = .ok (.iaload, 1) := by decide +kernel
theorem dX3_exchange_6 : decode cX3_exchange 6 = .ok (.istore_n 3, 1) := by decide +kernel
theorem dX3_exchange_7 : decode cX3_exchange 7 = .ok (.aload_n 0, 1) := by decide +kernel
theorem dX3_exchange_8 : decode cX3_exchange 8 = .ok (.getfield 9, 3) := by decide +kernel
theorem dX3_exchange_11 : decode cX3_exchange 11 = .ok (.iload_n 1, 1) := by decide +kernel
theorem dX3_exchange_12 : decode cX3_exchange 12 = .ok (.aload_n 0, 1) := by decide +kernel
theorem dX3_exchange_13 : decode cX3_exchange 13 = .ok (.getfield 9, 3) := by decide +kernel
theorem dX3_exchange_16 : decode cX3_exchange 16 = .ok (.iload_n 2, 1) := by decide +kernel
theorem dX3_exchange_17 : decode cX3_exchange 17 = .ok (.iaload, 1) := by decide +kernel
theorem dX3_exchange_18 : decode cX3_exchange 18 = .ok (.iastore, 1) := by decide +kernel
