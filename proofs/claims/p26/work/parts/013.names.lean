theorem dX0_kinCouples_2 : decode cX0_kinCouples 2 = .ok (.iconst 0, 1) := by decide +kernel
theorem dX0_kinCouples_3 : decode cX0_kinCouples 3 = .ok (.istore_n 2, 1) := by decide +kernel
theorem dX0_kinCouples_4 : decode cX0_kinCouples 4 = .ok (.iload_n 2, 1) := by decide +kernel
theorem dX0_kinCouples_5 : decode cX0_kinCouples 5 = .ok (.aload_n 0, 1) := by decide +kernel
theorem dX0_kinCouples_6 : decode cX0_kinCouples 6 = .ok (.invokevirtual 34, 3) := by decide +kernel
theorem dX0_kinCouples_9 : decode cX0_kinCouples 9 = .ok (.if_icmp .ge 20, 3) := by decide +kernel
theorem dX0_kinCouples_12 : decode cX0_kinCouples 12 = .ok (.aload_n 0, 1) := by decide +kernel
theorem dX0_kinCouples_13 : decode cX0_kinCouples 13 = .ok (.iload_n 2, 1) := by decide +kernel
theorem dX0_kinCouples_14 : decode cX0_kinCouples 14 = .ok (.invokestatic 37, 3) := by decide +kernel
theorem dX0_kinCouples_17 : decode cX0_kinCouples 17 = .ok (.ifCond .eq 6, 3) := by decide +kernel
theorem dX0_kinCouples_20 : decode cX0_kinCouples 20 = .ok (.iinc 1 1, 3) := by decide +kernel
theorem dX0_kinCouples_23 : decode cX0_kinCouples 23 = .ok (.iinc 2 1, 3) := by decide +kernel
theorem dX0_kinCouples_26 : decode cX0_kinCouples 26 = .ok (.goto (-22), 3) := by decide +kernel
theorem dX0_kinCouples_29 : decode cX0_kinCouples 29 = .ok (.iload_n 1, 1) := by decide +kernel
theorem dX0_kinCouples_30 : decode cX0_kinCouples 30 = .ok (.ireturn, 1) := by decide +kernel
set_option maxRecDepth 20000 in
theorem ggX0_fewestLines_X0_ancestors : GoodIn wsX0_fewestLines wsX0_ancestors := goodIn_r _ [4, 5, 6, 3, 7, 8, 9, 10, 11, 12, 13, 14, 15, 16, 17, 18, 19, 20, 21, 22, 23, 24, 25, 26, 27, 28, 29, 30, 31, 32, 33, 43, 44, 45, 46, 47, 48, 49, 50, 51, 52] (by decide +kernel) (by decide +kernel)
set_option maxRecDepth 20000 in
theorem gX0_fewestLines_X0_ancestors : GoodIn wsX0_fewestLines (va_wsS RX0 31 yX0_ancestors wsX0_ancestors) := goodIn_app (goodIn_of _ (by decide +kernel)) ggX0_fewestLines_X0_ancestors
set_option maxRecDepth 20000 in
theorem ggX0_fewestLines_X5_people : GoodIn wsX0_fewestLines wsX5_people := goodIn_r _ [37, 18, 43, 44, 45, 46, 47, 48, 49, 50, 51, 52] (by decide +kernel) (by decide +kernel)
set_option maxRecDepth 20000 in
theorem gX0_fewestLines_X5_people : GoodIn wsX0_fewestLines (wsV RX0 27 RX5 yX5_people wsX5_people) := goodIn_app (goodIn_of _ (by decide +kernel)) ggX0_fewestLines_X5_people
set_option maxRecDepth 20000 in
theorem ggX0_fewestLines_X5_rowOf : GoodIn wsX0_fewestLines wsX5_rowOf := goodIn_r _ [41, 42, 14, 15, 16, 11, 17, 18, 43, 44, 45, 46, 47, 48, 49, 50, 51, 52] (by decide +kernel) (by decide +kernel)
set_option maxRecDepth 20000 in
theorem gX0_fewestLines_X5_rowOf : GoodIn wsX0_fewestLines (wsV RX0 40 RX5 yX5_rowOf wsX5_rowOf) := goodIn_app (goodIn_of _ (by decide +kernel)) ggX0_fewestLines_X5_rowOf
theorem dX0_fewestLines_0 : decode cX0_fewestLines 0 = .ok (.aload_n 0, 1) := by decide +kernel
theorem dX0_fewestLines_1 : decode cX0_fewestLines 1 = .ok (.iload_n 1, 1) := by decide +kernel
theorem dX0_fewestLines_2 : decode cX0_fewestLines 2 = .ok (.invokestatic 31, 3) := by decide +kernel
theorem dX0_fewestLines_5 : decode cX0_fewestLines 5 = .ok (.iconst 1, 1) := by decide +kernel
theorem dX0_fewestLines_6 : decode cX0_fewestLines 6 = .ok (.iload_n 1, 1) := by decide +kernel
theorem dX0_fewestLines_7 : decode cX0_fewestLines 7 = .ok (.ishl, 1) := by decide +kernel
theorem dX0_fewestLines_8 : decode cX0_fewestLines 8 = .ok (.ior, 1) := by decide +kernel
theorem dX0_fewestLines_9 : decode cX0_fewestLines 9 = .ok (.aload_n 0, 1) := by decide +kernel
theorem dX0_fewestLines_10 : decode cX0_fewestLines 10 = .ok (.iload_n 2, 1) := by decide +kernel
theorem dX0_fewestLines_11 : decode cX0_fewestLines 11 = .ok (.invokestatic 31, 3) := by decide +kernel
theorem dX0_fewestLines_14 : decode cX0_fewestLines 14 = .ok (.iconst 1, 1) := by decide +kernel
theorem dX0_fewestLines_15 : decode cX0_fewestLines 15 = .ok (.iload_n 2, 1) := by decide +kernel
theorem dX0_fewestLines_16 : decode cX0_fewestLines 16 = .ok (.ishl, 1) := by decide +kernel
theorem dX0_fewestLines_17 : decode cX0_fewestLines 17 = .ok (.ior, 1) := by decide +kernel
theorem dX0_fewestLines_18 : decode cX0_fewestLines 18 = .ok (.iand, 1) := by decide +kernel
theorem dX0_fewestLines_19 : decode cX0_fewestLines 19 = .ok (.istore_n 3, 1) := by decide +kernel
theorem dX0_fewestLines_20 : decode cX0_fewestLines 20 = .ok (.iconst (-1), 1) := by decide +kernel
theorem dX0_fewestLines_21 : decode cX0_fewestLines 21 = .ok (.istore 4, 2) := by decide +kernel
theorem dX0_fewestLines_23 : decode cX0_fewestLines 23 = .ok (.iconst 0, 1) := by decide +kernel
theorem dX0_fewestLines_24 : decode cX0_fewestLines 24 = .ok (.istore 5, 2) := by decide +kernel
theorem dX0_fewestLines_26 : decode cX0_fewestLines 26 = .ok (.iload 5, 2) := by decide +kernel
theorem dX0_fewestLines_28 : decode cX0_fewestLines 28 = .ok (.aload_n 0, 1) := by decide +kernel
theorem dX0_fewestLines_29 : decode cX0_fewestLines 29 = .ok (.invokevirtual 27, 3) := by decide +kernel
theorem dX0_fewestLines_32 : decode cX0_fewestLines 32 = .ok (.if_icmp .ge 57, 3) := by decide +kernel
theorem dX0_fewestLines_35 : decode cX0_fewestLines 35 = .ok (.iload_n 3, 1) := by decide +kernel
theorem dX0_fewestLines_36 : decode cX0_fewestLines 36 = .ok (.iconst 1, 1) := by decide +kernel
theorem dX0_fewestLines_37 : decode cX0_fewestLines 37 = .ok (.iload 5, 2) := by decide +kernel
theorem dX0_fewestLines_39 : decode cX0_fewestLines 39 = .ok (.ishl, 1) := by decide +kernel
theorem dX0_fewestLines_40 : decode cX0_fewestLines 40 = .ok (.iand, 1) := by decide +kernel
theorem dX0_fewestLines_41 : decode cX0_fewestLines 41 = .ok (.ifCond .eq 42, 3) := by decide +kernel
theorem dX0_fewestLines_44 : decode cX0_fewestLines 44 = .ok (.aload_n 0, 1) := by decide +kernel
theorem dX0_fewestLines_45 : decode cX0_fewestLines 45 = .ok (.iload_n 1, 1) := by decide +kernel
theorem dX0_fewestLines_46 : decode cX0_fewestLines 46 = .ok (.invokevirtual 40, 3) := by decide +kernel
theorem dX0_fewestLines_49 : decode cX0_fewestLines 49 = .ok (.aload_n 0, 1) := by decide +kernel
theorem dX0_fewestLines_50 : decode cX0_fewestLines 50 = .ok (.iload_n 2, 1) := by decide +kernel
theorem dX0_fewestLines_51 : decode cX0_fewestLines 51 = .ok (.invokevirtual 40, 3) := by decide +kernel
theorem dX0_fewestLines_54 : decode cX0_fewestLines 54 = .ok (.iadd, 1) := by decide +kernel
theorem dX0_fewestLines_55 : decode cX0_fewestLines 55 = .ok (.iconst 2, 1) := by decide +kernel
theorem dX0_fewestLines_56 : decode cX0_fewestLines 56 = .ok (.aload_n 0, 1) := by decide +kernel
theorem dX0_fewestLines_57 : decode cX0_fewestLines 57 = .ok (.iload 5, 2) := by decide +kernel
theorem dX0_fewestLines_59 : decode cX0_fewestLines 59 = .ok (.invokevirtual 40, 3) := by decide +kernel
theorem dX0_fewestLines_62 : decode cX0_fewestLines 62 = .ok (.imul, 1) := by decide +kernel
theorem dX0_fewestLines_63 : decode cX0_fewestLines 63 = .ok (.isub, 1) := by decide +kernel
theorem dX0_fewestLines_64 : decode cX0_fewestLines 64 = .ok (.istore 6, 2) := by decide +kernel
theorem dX0_fewestLines_66 : decode cX0_fewestLines 66 = .ok (.iload 4, 2) := by decide +kernel
theorem dX0_fewestLines_68 : decode cX0_fewestLines 68 = .ok (.iconst (-1), 1) := by decide +kernel
theorem dX0_fewestLines_69 : decode cX0_fewestLines 69 = .ok (.if_icmp .eq 10, 3) := by decide +kernel
theorem dX0_fewestLines_72 : decode cX0_fewestLines 72 = .ok (.iload 6, 2) := by decide +kernel
theorem dX0_fewestLines_74 : decode cX0_fewestLines 74 = .ok (.iload 4, 2) := by decide +kernel
theorem dX0_fewestLines_76 : decode cX0_fewestLines 76 = .ok (.if_icmp .ge 7, 3) := by decide +kernel
theorem dX0_fewestLines_79 : decode cX0_fewestLines 79 = .ok (.iload 6, 2) := by decide +kernel
theorem dX0_fewestLines_81 : decode cX0_fewestLines 81 = .ok (.istore 4, 2) := by decide +kernel
theorem dX0_fewestLines_83 : decode cX0_fewestLines 83 = .ok (.iinc 5 1, 3) := by decide +kernel
theorem dX0_fewestLines_86 : decode cX0_fewestLines 86 = .ok (.goto (-60), 3) := by decide +kernel
theorem dX0_fewestLines_89 : decode cX0_fewestLines 89 = .ok (.iload 4, 2) := by decide +kernel
theorem dX0_fewestLines_91 : decode cX0_fewestLines 91 = .ok (.ireturn, 1) := by decide +kernel
theorem dX1_init_0 : decode cX1_init 0 = .ok (.aload_n 0, 1) := by decide +kernel
theorem dX1_init_1 : decode cX1_init 1 = .ok (.invokespecial 3, 3) := by decide +kernel
theorem dX1_init_4 : decode cX1_init 4 = .ok (.aload_n 0, 1) := by decide +kernel
theorem dX1_init_5 : decode cX1_init 5 = .ok (.bipush 6, 2) := by decide +kernel
theorem dX1_init_7 : decode cX1_init 7 = .ok (.newarray .int, 2) := by decide +kernel
theorem dX1_init_9 : decode cX1_init 9 = .ok (.putfield 9, 3) := by decide +kernel
theorem dX1_init_12 : decode cX1_init 12 = .ok (.aload_n 0, 1) := by decide +kernel
theorem dX1_init_13 : decode cX1_init 13 = .ok (.bipush 6, 2) := by decide +kernel
theorem dX1_init_15 : decode cX1_init 15 = .ok (.newarray .int, 2) := by decide +kernel
theorem dX1_init_17 : decode cX1_init 17 = .ok (.putfield 15, 3) := by decide +kernel
theorem dX1_init_20 : decode cX1_init 20 = .ok (.return_, 1) := by decide +kernel
set_option maxRecDepth 20000 in
theorem ggX1_lay_X5_sizeOf : GoodIn wsX1_lay wsX5_sizeOf := goodIn_r _ [11, 12, 60, 61, 62, 63, 64, 65, 66, 67, 68, 69] (by decide +kernel) (by decide +kernel)
set_option maxRecDepth 20000 in
theorem gX1_lay_X5_sizeOf : GoodIn wsX1_lay (wsV RX1 18 RX5 yX5_sizeOf wsX5_sizeOf) := goodIn_app (goodIn_of _ (by decide +kernel)) ggX1_lay_X5_sizeOf
set_option maxRecDepth 20000 in
theorem ggX1_lay_X5_personAt : GoodIn wsX1_lay wsX5_personAt := goodIn_r _ [16, 17, 18, 8, 9, 10, 11, 12, 60, 61, 62, 63, 64, 65, 66, 67, 68, 69] (by decide +kernel) (by decide +kernel)
set_option maxRecDepth 20000 in
theorem gX1_lay_X5_personAt : GoodIn wsX1_lay (wsV RX1 30 RX5 yX5_personAt wsX5_personAt) := goodIn_app (goodIn_of _ (by decide +kernel)) ggX1_lay_X5_personAt
set_option maxRecDepth 20000 in
theorem ggX1_lay_X5_middleAbove : GoodIn wsX1_lay wsX5_middleAbove := goodIn_r _ [22, 23, 24, 25, 10, 26, 27, 28, 29, 30, 31, 32, 33, 34, 35, 36, 37, 38, 39, 40, 41, 42, 43, 44, 45, 46, 47, 48, 60, 61, 62, 63, 64, 65, 66, 67, 68, 69] (by decide +kernel) (by decide +kernel)
set_option maxRecDepth 20000 in
theorem gX1_lay_X5_middleAbove : GoodIn wsX1_lay (wsV RX1 33 RX5 yX5_middleAbove wsX5_middleAbove) := goodIn_app (goodIn_of _ (by decide +kernel)) ggX1_lay_X5_middleAbove
set_option maxRecDepth 20000 in
theorem ggX1_lay_X1_placeByKey : GoodIn wsX1_lay wsX1_placeByKey := goodIn_r _ [53, 5, 58, 59] (by decide +kernel) (by decide +kernel)
set_option maxRecDepth 20000 in
theorem gX1_lay_X1_placeByKey : GoodIn wsX1_lay (wsV RX1 36 RX1 yX1_placeByKey wsX1_placeByKey) := goodIn_app (goodIn_of _ (by decide +kernel)) ggX1_lay_X1_placeByKey
set_option maxRecDepth 20000 in
theorem ggX1_lay_X5_lay : GoodIn wsX1_lay wsX5_lay := goodIn_r _ [57, 17, 48, 28, 29, 30, 10, 31, 32, 18, 8, 9, 11, 12, 60, 61, 62, 63, 64, 65, 66, 67, 68, 69] (by decide +kernel) (by decide +kernel)
set_option maxRecDepth 20000 in
theorem gX1_lay_X5_lay : GoodIn wsX1_lay (wsV RX1 39 RX5 yX5_lay wsX5_lay) := goodIn_app (goodIn_of _ (by decide +kernel)) ggX1_lay_X5_lay
theorem dX1_lay_0 : decode cX1_lay 0 = .ok (.aload_n 1, 1) := by decide +kernel
theorem dX1_lay_1 : decode cX1_lay 1 = .ok (.iload_n 2, 1) := by decide +kernel
theorem dX1_lay_2 : decode cX1_lay 2 = .ok (.invokevirtual 18, 3) := by decide +kernel
theorem dX1_lay_5 : decode cX1_lay 5 = .ok (.bipush 6, 2) := by decide +kernel
theorem dX1_lay_7 : decode cX1_lay 7 = .ok (.invokestatic 24, 3) := by decide +kernel
theorem dX1_lay_10 : decode cX1_lay 10 = .ok (.istore_n 3, 1) := by decide +kernel
theorem dX1_lay_11 : decode cX1_lay 11 = .ok (.iconst 0, 1) := by decide +kernel
theorem dX1_lay_12 : decode cX1_lay 12 = .ok (.istore 4, 2) := by decide +kernel
theorem dX1_lay_14 : decode cX1_lay 14 = .ok (.iload 4, 2) := by decide +kernel
theorem dX1_lay_16 : decode cX1_lay 16 = .ok (.iload_n 3, 1) := by decide +kernel
theorem dX1_lay_17 : decode cX1_lay 17 = .ok (.if_icmp .ge 43, 3) := by decide +kernel
theorem dX1_lay_20 : decode cX1_lay 20 = .ok (.aload_n 1, 1) := by decide +kernel
theorem dX1_lay_21 : decode cX1_lay 21 = .ok (.aload_n 1, 1) := by decide +kernel
theorem dX1_lay_22 : decode cX1_lay 22 = .ok (.iload_n 2, 1) := by decide +kernel
theorem dX1_lay_23 : decode cX1_lay 23 = .ok (.iload 4, 2) := by decide +kernel
theorem dX1_lay_25 : decode cX1_lay 25 = .ok (.invokevirtual 30, 3) := by decide +kernel
theorem dX1_lay_28 : decode cX1_lay 28 = .ok (.invokevirtual 33, 3) := by decide +kernel
theorem dX1_lay_31 : decode cX1_lay 31 = .ok (.istore 5, 2) := by decide +kernel
theorem dX1_lay_33 : decode cX1_lay 33 = .ok (.aload_n 0, 1) := by decide +kernel
theorem dX1_lay_34 : decode cX1_lay 34 = .ok (.getfield 9, 3) := by decide +kernel
theorem dX1_lay_37 : decode cX1_lay 37 = .ok (.iload 4, 2) := by decide +kernel
theorem dX1_lay_39 : decode cX1_lay 39 = .ok (.iload 5, 2) := by decide +kernel
theorem dX1_lay_41 : decode cX1_lay 41 = .ok (.iconst (-1), 1) := by decide +kernel
theorem dX1_lay_42 : decode cX1_lay 42 = .ok (.if_icmp .ne 9, 3) := by decide +kernel
theorem dX1_lay_45 : decode cX1_lay 45 = .ok (.sipush 1000, 3) := by decide +kernel
theorem dX1_lay_48 : decode cX1_lay 48 = .ok (.goto 5, 3) := by decide +kernel
theorem dX1_lay_51 : decode cX1_lay 51 = .ok (.iload 5, 2) := by decide +kernel
theorem dX1_lay_53 : decode cX1_lay 53 = .ok (.iastore, 1) := by decide +kernel
theorem dX1_lay_54 : decode cX1_lay 54 = .ok (.iinc 4 1, 3) := by decide +kernel
theorem dX1_lay_57 : decode cX1_lay 57 = .ok (.goto (-43), 3) := by decide +kernel
theorem dX1_lay_60 : decode cX1_lay 60 = .ok (.iconst 0, 1) := by decide +kernel
theorem dX1_lay_61 : decode cX1_lay 61 = .ok (.istore 4, 2) := by decide +kernel
theorem dX1_lay_63 : decode cX1_lay 63 = .ok (.iconst 0, 1) := by decide +kernel
theorem dX1_lay_64 : decode cX1_lay 64 = .ok (.istore 5, 2) := by decide +kernel
theorem dX1_lay_66 : decode cX1_lay 66 = .ok (.iload 5, 2) := by decide +kernel
theorem dX1_lay_68 : decode cX1_lay 68 = .ok (.iload_n 3, 1) := by decide +kernel
theorem dX1_lay_69 : decode cX1_lay 69 = .ok (.if_icmp .ge 42, 3) := by decide +kernel
theorem dX1_lay_72 : decode cX1_lay 72 = .ok (.aload_n 0, 1) := by decide +kernel
theorem dX1_lay_73 : decode cX1_lay 73 = .ok (.iload 5, 2) := by decide +kernel
theorem dX1_lay_75 : decode cX1_lay 75 = .ok (.iload_n 3, 1) := by decide +kernel
theorem dX1_lay_76 : decode cX1_lay 76 = .ok (.invokevirtual 36, 3) := by decide +kernel
theorem dX1_lay_79 : decode cX1_lay 79 = .ok (.istore 6, 2) := by decide +kernel
theorem dX1_lay_81 : decode cX1_lay 81 = .ok (.aload_n 0, 1) := by decide +kernel
theorem dX1_lay_82 : decode cX1_lay 82 = .ok (.getfield 15, 3) := by decide +kernel
theorem dX1_lay_85 : decode cX1_lay 85 = .ok (.iload 6, 2) := by decide +kernel
theorem dX1_lay_87 : decode cX1_lay 87 = .ok (.aload_n 1, 1) := by decide +kernel
theorem dX1_lay_88 : decode cX1_lay 88 = .ok (.iload_n 2, 1) := by decide +kernel
theorem dX1_lay_89 : decode cX1_lay 89 = .ok (.iload 5, 2) := by decide +kernel
theorem dX1_lay_91 : decode cX1_lay 91 = .ok (.invokevirtual 30, 3) := by decide +kernel
theorem dX1_lay_94 : decode cX1_lay 94 = .ok (.iastore, 1) := by decide +kernel
theorem dX1_lay_95 : decode cX1_lay 95 = .ok (.iload 6, 2) := by decide +kernel
theorem dX1_lay_97 : decode cX1_lay 97 = .ok (.iload 5, 2) := by decide +kernel
theorem dX1_lay_99 : decode cX1_lay 99 = .ok (.if_icmp .eq 6, 3) := by decide +kernel
theorem dX1_lay_102 : decode cX1_lay 102 = .ok (.iinc 4 1, 3) := by decide +kernel
theorem dX1_lay_105 : decode cX1_lay 105 = .ok (.iinc 5 1, 3) := by decide +kernel
theorem dX1_lay_108 : decode cX1_lay 108 = .ok (.goto (-42), 3) := by decide +kernel
theorem dX1_lay_111 : decode cX1_lay 111 = .ok (.iconst 0, 1) := by decide +kernel
theorem dX1_lay_112 : decode cX1_lay 112 = .ok (.istore 5, 2) := by decide +kernel
theorem dX1_lay_114 : decode cX1_lay 114 = .ok (.iload 5, 2) := by decide +kernel
theorem dX1_lay_116 : decode cX1_lay 116 = .ok (.iload_n 3, 1) := by decide +kernel
theorem dX1_lay_117 : decode cX1_lay 117 = .ok (.if_icmp .ge 23, 3) := by decide +kernel
theorem dX1_lay_120 : decode cX1_lay 120 = .ok (.aload_n 1, 1) := by decide +kernel
theorem dX1_lay_121 : decode cX1_lay 121 = .ok (.iload_n 2, 1) := by decide +kernel
theorem dX1_lay_122 : decode cX1_lay 122 = .ok (.iload 5, 2) := by decide +kernel
theorem dX1_lay_124 : decode cX1_lay 124 = .ok (.aload_n 0, 1) := by decide +kernel
theorem dX1_lay_125 : decode cX1_lay 125 = .ok (.getfield 15, 3) := by decide +kernel
theorem dX1_lay_128 : decode cX1_lay 128 = .ok (.iload 5, 2) := by decide +kernel
theorem dX1_lay_130 : decode cX1_lay 130 = .ok (.iaload, 1) := by decide +kernel
theorem dX1_lay_131 : decode cX1_lay 131 = .ok (.invokevirtual 39, 3) := by decide +kernel
theorem dX1_lay_134 : decode cX1_lay 134 = .ok (.iinc 5 1, 3) := by decide +kernel
theorem dX1_lay_137 : decode cX1_lay 137 = .ok (.goto (-23), 3) := by decide +kernel
theorem dX1_lay_140 : decode cX1_lay 140 = .ok (.iload 4, 2) := by decide +kernel
theorem dX1_lay_142 : decode cX1_lay 142 = .ok (.ireturn, 1) := by decide +kernel
theorem dX1_placeByKey_0 : decode cX1_placeByKey 0 = .ok (.iconst 0, 1) := by decide +kernel
theorem dX1_placeByKey_1 : decode cX1_placeByKey 1 = .ok (.istore_n 3, 1) := by decide +kernel
theorem dX1_placeByKey_2 : decode cX1_placeByKey 2 = .ok (.iconst 0, 1) := by decide +kernel
theorem dX1_placeByKey_3 : decode cX1_placeByKey 3 = .ok (.istore 4, 2) := by decide +kernel
theorem dX1_placeByKey_5 : decode cX1_placeByKey 5 = .ok (.iload 4, 2) := by decide +kernel
theorem dX1_placeByKey_7 : decode cX1_placeByKey 7 = .ok (.iload_n 2, 1) := by decide +kernel
theorem dX1_placeByKey_8 : decode cX1_placeByKey 8 = .ok (.if_icmp .ge 50, 3) := by decide +kernel
theorem dX1_placeByKey_11 : decode cX1_placeByKey 11 = .ok (.aload_n 0, 1) := by decide +kernel
theorem dX1_placeByKey_12 : decode cX1_placeByKey 12 = .ok (.getfield 9, 3) := by decide +kernel
theorem dX1_placeByKey_15 : decode cX1_placeByKey 15 = .ok (.iload 4, 2) := by decide +kernel
theorem dX1_placeByKey_17 : decode cX1_placeByKey 17 = .ok (.iaload, 1) := by decide +kernel
theorem dX1_placeByKey_18 : decode cX1_placeByKey 18 = .ok (.aload_n 0, 1) := by decide +kernel
theorem dX1_placeByKey_19 : decode cX1_placeByKey 19 = .ok (.getfield 9, 3) := by decide +kernel
theorem dX1_placeByKey_22 : decode cX1_placeByKey 22 = .ok (.iload_n 1, 1) := by decide +kernel
theorem dX1_placeByKey_23 : decode cX1_placeByKey 23 = .ok (.iaload, 1) := by decide +kernel
theorem dX1_placeByKey_24 : decode cX1_placeByKey 24 = .ok (.if_icmp .lt 25, 3) := by decide +kernel
theorem dX1_placeByKey_27 : decode cX1_placeByKey 27 = .ok (.aload_n 0, 1) := by decide +kernel
theorem dX1_placeByKey_28 : decode cX1_placeByKey 28 = .ok (.getfield 9, 3) := by decide +kernel
theorem dX1_placeByKey_31 : decode cX1_placeByKey 31 = .ok (.iload 4, 2) := by decide +kernel
theorem dX1_placeByKey_33 : decode cX1_placeByKey 33 = .ok (.iaload, 1) := by decide +kernel
theorem dX1_placeByKey_34 : decode cX1_placeByKey 34 = .ok (.aload_n 0, 1) := by decide +kernel
theorem dX1_placeByKey_35 : decode cX1_placeByKey 35 = .ok (.getfield 9, 3) := by decide +kernel
theorem dX1_placeByKey_38 : decode cX1_placeByKey 38 = .ok (.iload_n 1, 1) := by decide +kernel
theorem dX1_placeByKey_39 : decode cX1_placeByKey 39 = .ok (.iaload, 1) := by decide +kernel
theorem dX1_placeByKey_40 : decode cX1_placeByKey 40 = .ok (.if_icmp .ne 12, 3) := by decide +kernel
theorem dX1_placeByKey_43 : decode cX1_placeByKey 43 = .ok (.iload 4, 2) := by decide +kernel
theorem dX1_placeByKey_45 : decode cX1_placeByKey 45 = .ok (.iload_n 1, 1) := by decide +kernel
theorem dX1_placeByKey_46 : decode cX1_placeByKey 46 = .ok (.if_icmp .ge 6, 3) := by decide +kernel
theorem dX1_placeByKey_49 : decode cX1_placeByKey 49 = .ok (.iinc 3 1, 3) := by decide +kernel
theorem dX1_placeByKey_52 : decode cX1_placeByKey 52 = .ok (.iinc 4 1, 3) := by decide +kernel
theorem dX1_placeByKey_55 : decode cX1_placeByKey 55 = .ok (.goto (-50), 3) := by decide +kernel
theorem dX1_placeByKey_58 : decode cX1_placeByKey 58 = .ok (.iload_n 3, 1) := by decide +kernel
theorem dX1_placeByKey_59 : decode cX1_placeByKey 59 = .ok (.ireturn, 1) := by decide +kernel
theorem dX2_init_0 : decode cX2_init 0 = .ok (.aload_n 0, 1) := by decide +kernel
theorem dX2_init_1 : decode cX2_init 1 = .ok (.invokespecial 3, 3) := by decide +kernel
theorem dX2_init_4 : decode cX2_init 4 = .ok (.aload_n 0, 1) := by decide +kernel
theorem dX2_init_5 : decode cX2_init 5 = .ok (.bipush 6, 2) := by decide +kernel
theorem dX2_init_7 : decode cX2_init 7 = .ok (.newarray .int, 2) := by decide +kernel
theorem dX2_init_9 : decode cX2_init 9 = .ok (.putfield 9, 3) := by decide +kernel
theorem dX2_init_12 : decode cX2_init 12 = .ok (.aload_n 0, 1) := by decide +kernel
theorem dX2_init_13 : decode cX2_init 13 = .ok (.bipush 6, 2) := by decide +kernel
theorem dX2_init_15 : decode cX2_init 15 = .ok (.newarray .int, 2) := by decide +kernel
theorem dX2_init_17 : decode cX2_init 17 = .ok (.putfield 15, 3) := by decide +kernel
theorem dX2_init_20 : decode cX2_init 20 = .ok (.return_, 1) := by decide +kernel
set_option maxRecDepth 20000 in
theorem ggX2_collect_X5_sizeOf : GoodIn wsX2_collect wsX5_sizeOf := goodIn_r _ [8, 9, 49, 50, 51, 52, 53, 54, 55, 56, 57, 58] (by decide +kernel) (by decide +kernel)
set_option maxRecDepth 20000 in
theorem gX2_collect_X5_sizeOf : GoodIn wsX2_collect (wsV RX2 22 RX5 yX5_sizeOf wsX5_sizeOf) := goodIn_app (goodIn_of _ (by decide +kernel)) ggX2_collect_X5_sizeOf
set_option maxRecDepth 20000 in
theorem ggX2_collect_X5_personAt : GoodIn wsX2_collect wsX5_personAt := goodIn_r _ [13, 14, 15, 5, 6, 7, 8, 9, 49, 50, 51, 52, 53, 54, 55, 56, 57, 58] (by decide +kernel) (by decide +kernel)
set_option maxRecDepth 20000 in
theorem gX2_collect_X5_personAt : GoodIn wsX2_collect (wsV RX2 28 RX5 yX5_personAt wsX5_personAt) := goodIn_app (goodIn_of _ (by decide +kernel)) ggX2_collect_X5_personAt
set_option maxRecDepth 20000 in
theorem ggX2_collect_X5_middleAbove : GoodIn wsX2_collect wsX5_middleAbove := goodIn_r _ [19, 20, 21, 22, 7, 23, 24, 25, 26, 27, 28, 29, 30, 31, 32, 33, 34, 35, 36, 37, 38, 39, 40, 41, 42, 43, 44, 45, 49, 50, 51, 52, 53, 54, 55, 56, 57, 58] (by decide +kernel) (by decide +kernel)
set_option maxRecDepth 20000 in
theorem gX2_collect_X5_middleAbove : GoodIn wsX2_collect (wsV RX2 32 RX5 yX5_middleAbove wsX5_middleAbove) := goodIn_app (goodIn_of _ (by decide +kernel)) ggX2_collect_X5_middleAbove
theorem dX2_collect_0 : decode cX2_collect 0 = .ok (.aload_n 0, 1) := by decide +kernel
theorem dX2_collect_1 : decode cX2_collect 1 = .ok (.iconst 0, 1) := by decide +kernel
theorem dX2_collect_2 : decode cX2_collect 2 = .ok (.putfield 18, 3) := by decide +kernel
theorem dX2_collect_5 : decode cX2_collect 5 = .ok (.iconst 0, 1) := by decide +kernel
theorem dX2_collect_6 : decode cX2_collect 6 = .ok (.istore_n 3, 1) := by decide +kernel
theorem dX2_collect_7 : decode cX2_collect 7 = .ok (.iload_n 3, 1) := by decide +kernel
theorem dX2_collect_8 : decode cX2_collect 8 = .ok (.aload_n 1, 1) := by decide +kernel
theorem dX2_collect_9 : decode cX2_collect 9 = .ok (.iload_n 2, 1) := by decide +kernel
theorem dX2_collect_10 : decode cX2_collect 10 = .ok (.invokevirtual 22, 3) := by decide +kernel
theorem dX2_collect_13 : decode cX2_collect 13 = .ok (.if_icmp .ge 64, 3) := by decide +kernel
theorem dX2_collect_16 : decode cX2_collect 16 = .ok (.iload_n 3, 1) := by decide +kernel
theorem dX2_collect_17 : decode cX2_collect 17 = .ok (.bipush 6, 2) := by decide +kernel
theorem dX2_collect_19 : decode cX2_collect 19 = .ok (.if_icmp .ge 58, 3) := by decide +kernel
theorem dX2_collect_22 : decode cX2_collect 22 = .ok (.aload_n 1, 1) := by decide +kernel
theorem dX2_collect_23 : decode cX2_collect 23 = .ok (.aload_n 1, 1) := by decide +kernel
theorem dX2_collect_24 : decode cX2_collect 24 = .ok (.iload_n 2, 1) := by decide +kernel
theorem dX2_collect_25 : decode cX2_collect 25 = .ok (.iload_n 3, 1) := by decide +kernel
theorem dX2_collect_26 : decode cX2_collect 26 = .ok (.invokevirtual 28, 3) := by decide +kernel
theorem dX2_collect_29 : decode cX2_collect 29 = .ok (.invokevirtual 32, 3) := by decide +kernel
theorem dX2_collect_32 : decode cX2_collect 32 = .ok (.istore 4, 2) := by decide +kernel
theorem dX2_collect_34 : decode cX2_collect 34 = .ok (.iload 4, 2) := by decide +kernel
theorem dX2_collect_36 : decode cX2_collect 36 = .ok (.iconst (-1), 1) := by decide +kernel
theorem dX2_collect_37 : decode cX2_collect 37 = .ok (.if_icmp .eq 34, 3) := by decide +kernel
theorem dX2_collect_40 : decode cX2_collect 40 = .ok (.aload_n 0, 1) := by decide +kernel
theorem dX2_collect_41 : decode cX2_collect 41 = .ok (.getfield 9, 3) := by decide +kernel
theorem dX2_collect_44 : decode cX2_collect 44 = .ok (.aload_n 0, 1) := by decide +kernel
theorem dX2_collect_45 : decode cX2_collect 45 = .ok (.getfield 18, 3) := by decide +kernel
theorem dX2_collect_48 : decode cX2_collect 48 = .ok (.iload 4, 2) := by decide +kernel
theorem dX2_collect_50 : decode cX2_collect 50 = .ok (.iastore, 1) := by decide +kernel
theorem dX2_collect_51 : decode cX2_collect 51 = .ok (.aload_n 0, 1) := by decide +kernel
theorem dX2_collect_52 : decode cX2_collect 52 = .ok (.getfield 15, 3) := by decide +kernel
theorem dX2_collect_55 : decode cX2_collect 55 = .ok (.aload_n 0, 1) := by decide +kernel
theorem dX2_collect_56 : decode cX2_collect 56 = .ok (.getfield 18, 3) := by decide +kernel
theorem dX2_collect_59 : decode cX2_collect 59 = .ok (.iload_n 3, 1) := by decide +kernel
theorem dX2_collect_60 : decode cX2_collect 60 = .ok (.iastore, 1) := by decide +kernel
theorem dX2_collect_61 : decode cX2_collect 61 = .ok (.aload_n 0, 1) := by decide +kernel
theorem dX2_collect_62 : decode cX2_collect 62 = .ok (.dup, 1) := by decide +kernel
theorem dX2_collect_63 : decode cX2_collect 63 = .ok (.getfield 18, 3) := by decide +kernel
theorem dX2_collect_66 : decode cX2_collect 66 = .ok (.iconst 1, 1) := by decide +kernel
theorem dX2_collect_67 : decode cX2_collect 67 = .ok (.iadd, 1) := by decide +kernel
theorem dX2_collect_68 : decode cX2_collect 68 = .ok (.putfield 18, 3) := by decide +kernel
theorem dX2_collect_71 : decode cX2_collect 71 = .ok (.iinc 3 1, 3) := by decide +kernel
theorem dX2_collect_74 : decode cX2_collect 74 = .ok (.goto (-67), 3) := by decide +kernel
theorem dX2_collect_77 : decode cX2_collect 77 = .ok (.return_, 1) := by decide +kernel
theorem dX2_crossedPairs_0 : decode cX2_crossedPairs 0 = .ok (.iconst 0, 1) := by decide +kernel
theorem dX2_crossedPairs_1 : decode cX2_crossedPairs 1 = .ok (.istore_n 1, 1) := by decide +kernel
theorem dX2_crossedPairs_2 : decode cX2_crossedPairs 2 = .ok (.iconst 0, 1) := by decide +kernel
theorem dX2_crossedPairs_3 : decode cX2_crossedPairs 3 = .ok (.istore_n 2, 1) := by decide +kernel
theorem dX2_crossedPairs_4 : decode cX2_crossedPairs 4 = .ok (.iload_n 2, 1) := by decide +kernel
theorem dX2_crossedPairs_5 : decode cX2_crossedPairs 5 = .ok (.aload_n 0, 1) := by decide +kernel
theorem dX2_crossedPairs_6 : decode cX2_crossedPairs 6 = .ok (.getfield 18, 3) := by decide +kernel
theorem dX2_crossedPairs_9 : decode cX2_crossedPairs 9 = .ok (.if_icmp .ge 45, 3) := by decide +kernel
theorem dX2_crossedPairs_12 : decode cX2_crossedPairs 12 = .ok (.iload_n 2, 1) := by decide +kernel
theorem dX2_crossedPairs_13 : decode cX2_crossedPairs 13 = .ok (.iconst 1, 1) := by decide +kernel
theorem dX2_crossedPairs_14 : decode cX2_crossedPairs 14 = .ok (.iadd, 1) := by decide +kernel
theorem dX2_crossedPairs_15 : decode cX2_crossedPairs 15 = .ok (.istore_n 3, 1) := by decide +kernel
theorem dX2_crossedPairs_16 : decode cX2_crossedPairs 16 = .ok (.iload_n 3, 1) := by decide +kernel
theorem dX2_crossedPairs_17 : decode cX2_crossedPairs 17 = .ok (.aload_n 0, 1) := by decide +kernel
theorem dX2_crossedPairs_18 : decode cX2_crossedPairs 18 = .ok (.getfield 18, 3) := by decide +kernel
theorem dX2_crossedPairs_21 : decode cX2_crossedPairs 21 = .ok (.if_icmp .ge 27, 3) := by decide +kernel
theorem dX2_crossedPairs_24 : decode cX2_crossedPairs 24 = .ok (.aload_n 0, 1) := by decide +kernel
theorem dX2_crossedPairs_25 : decode cX2_crossedPairs 25 = .ok (.getfield 9, 3) := by decide +kernel
theorem dX2_crossedPairs_28 : decode cX2_crossedPairs 28 = .ok (.iload_n 3, 1) := by decide +kernel
theorem dX2_crossedPairs_29 : decode cX2_crossedPairs 29 = .ok (.iaload, 1) := by decide +kernel
theorem dX2_crossedPairs_30 : decode cX2_crossedPairs 30 = .ok (.aload_n 0, 1) := by decide +kernel
theorem dX2_crossedPairs_31 : decode cX2_crossedPairs 31 = .ok (.getfield 9, 3) := by decide +kernel
theorem dX2_crossedPairs_34 : decode cX2_crossedPairs 34 = .ok (.iload_n 2, 1) := by decide +kernel
theorem dX2_crossedPairs_35 : decode cX2_crossedPairs 35 = .ok (.iaload, 1) := by decide +kernel
theorem dX2_crossedPairs_36 : decode cX2_crossedPairs 36 = .ok (.if_icmp .ge 6, 3) := by decide +kernel
theorem dX2_crossedPairs_39 : decode cX2_crossedPairs 39 = .ok (.iinc 1 1, 3) := by decide +kernel
theorem dX2_crossedPairs_42 : decode cX2_crossedPairs 42 = .ok (.iinc 3 1, 3) := by decide +kernel
theorem dX2_crossedPairs_45 : decode cX2_crossedPairs 45 = .ok (.goto (-29), 3) := by decide +kernel
theorem dX2_crossedPairs_48 : decode cX2_crossedPairs 48 = .ok (.iinc 2 1, 3) := by decide +kernel
theorem dX2_crossedPairs_51 : decode cX2_crossedPairs 51 = .ok (.goto (-47), 3) := by decide +kernel
theorem dX2_crossedPairs_54 : decode cX2_crossedPairs 54 = .ok (.iload_n 1, 1) := by decide +kernel
theorem dX2_crossedPairs_55 : decode cX2_crossedPairs 55 = .ok (.ireturn, 1) := by decide +kernel
set_option maxRecDepth 20000 in
theorem ggX2_crossedOneByOne_X2_sortByMiddles : GoodIn wsX2_crossedOneByOne wsX2_sortByMiddles := goodIn_r _ [8, 1, 2, 3, 9, 10, 11] (by decide +kernel) (by decide +kernel)
set_option maxRecDepth 20000 in
theorem gX2_crossedOneByOne_X2_sortByMiddles : GoodIn wsX2_crossedOneByOne (wsV RX2 35 RX2 yX2_sortByMiddles wsX2_sortByMiddles) := goodIn_app (goodIn_of _ (by decide +kernel)) ggX2_crossedOneByOne_X2_sortByMiddles
theorem dX2_crossedOneByOne_0 : decode cX2_crossedOneByOne 0 = .ok (.aload_n 0, 1) := by decide +kernel
theorem dX2_crossedOneByOne_1 : decode cX2_crossedOneByOne 1 = .ok (.invokevirtual 35, 3) := by decide +kernel
theorem dX2_crossedOneByOne_4 : decode cX2_crossedOneByOne 4 = .ok (.iconst 0, 1) := by decide +kernel
theorem dX2_crossedOneByOne_5 : decode cX2_crossedOneByOne 5 = .ok (.istore_n 1, 1) := by decide +kernel
theorem dX2_crossedOneByOne_6 : decode cX2_crossedOneByOne 6 = .ok (.iconst 0, 1) := by decide +kernel
theorem dX2_crossedOneByOne_7 : decode cX2_crossedOneByOne 7 = .ok (.istore_n 2, 1) := by decide +kernel
theorem dX2_crossedOneByOne_8 : decode cX2_crossedOneByOne 8 = .ok (.iload_n 2, 1) := by decide +kernel
theorem dX2_crossedOneByOne_9 : decode cX2_crossedOneByOne 9 = .ok (.aload_n 0, 1) := by decide +kernel
theorem dX2_crossedOneByOne_10 : decode cX2_crossedOneByOne 10 = .ok (.getfield 18, 3) := by decide +kernel
theorem dX2_crossedOneByOne_13 : decode cX2_crossedOneByOne 13 = .ok (.if_icmp .ge 55, 3) := by decide +kernel
theorem dX2_crossedOneByOne_16 : decode cX2_crossedOneByOne 16 = .ok (.iconst 0, 1) := by decide +kernel
theorem dX2_crossedOneByOne_17 : decode cX2_crossedOneByOne 17 = .ok (.istore_n 3, 1) := by decide +kernel
theorem dX2_crossedOneByOne_18 : decode cX2_crossedOneByOne 18 = .ok (.iload_n 3, 1) := by decide +kernel
theorem dX2_crossedOneByOne_19 : decode cX2_crossedOneByOne 19 = .ok (.iload_n 2, 1) := by decide +kernel
theorem dX2_crossedOneByOne_20 : decode cX2_crossedOneByOne 20 = .ok (.if_icmp .ge 42, 3) := by decide +kernel
theorem dX2_crossedOneByOne_23 : decode cX2_crossedOneByOne 23 = .ok (.aload_n 0, 1) := by decide +kernel
theorem dX2_crossedOneByOne_24 : decode cX2_crossedOneByOne 24 = .ok (.getfield 9, 3) := by decide +kernel
theorem dX2_crossedOneByOne_27 : decode cX2_crossedOneByOne 27 = .ok (.iload_n 3, 1) := by decide +kernel
theorem dX2_crossedOneByOne_28 : decode cX2_crossedOneByOne 28 = .ok (.iaload, 1) := by decide +kernel
theorem dX2_crossedOneByOne_29 : decode cX2_crossedOneByOne 29 = .ok (.aload_n 0, 1) := by decide +kernel
theorem dX2_crossedOneByOne_30 : decode cX2_crossedOneByOne 30 = .ok (.getfield 9, 3) := by decide +kernel
theorem dX2_crossedOneByOne_33 : decode cX2_crossedOneByOne 33 = .ok (.iload_n 2, 1) := by decide +kernel
theorem dX2_crossedOneByOne_34 : decode cX2_crossedOneByOne 34 = .ok (.iaload, 1) := by decide +kernel
theorem dX2_crossedOneByOne_35 : decode cX2_crossedOneByOne 35 = .ok (.if_icmp .ge 21, 3) := by decide +kernel
theorem dX2_crossedOneByOne_38 : decode cX2_crossedOneByOne 38 = .ok (.aload_n 0, 1) := by decide +kernel
theorem dX2_crossedOneByOne_39 : decode cX2_crossedOneByOne 39 = .ok (.getfield 15, 3) := by decide +kernel
theorem dX2_crossedOneByOne_42 : decode cX2_crossedOneByOne 42 = .ok (.iload_n 3, 1) := by decide +kernel
theorem dX2_crossedOneByOne_43 : decode cX2_crossedOneByOne 43 = .ok (.iaload, 1) := by decide +kernel
theorem dX2_crossedOneByOne_44 : decode cX2_crossedOneByOne 44 = .ok (.aload_n 0, 1) := by decide +kernel
theorem dX2_crossedOneByOne_45 : decode cX2_crossedOneByOne 45 = .ok (.getfield 15, 3) := by decide +kernel
theorem dX2_crossedOneByOne_48 : decode cX2_crossedOneByOne 48 = .ok (.iload_n 2, 1) := by decide +kernel
theorem dX2_crossedOneByOne_49 : decode cX2_crossedOneByOne 49 = .ok (.iaload, 1) := by decide +kernel
theorem dX2_crossedOneByOne_50 : decode cX2_crossedOneByOne 50 = .ok (.if_icmp .le 6, 3) := by decide +kernel
theorem dX2_crossedOneByOne_53 : decode cX2_crossedOneByOne 53 = .ok (.iinc 1 1, 3) := by decide +kernel
theorem dX2_crossedOneByOne_56 : decode cX2_crossedOneByOne 56 = .ok (.iinc 3 1, 3) := by decide +kernel
theorem dX2_crossedOneByOne_59 : decode cX2_crossedOneByOne 59 = .ok (.goto (-41), 3) := by decide +kernel
theorem dX2_crossedOneByOne_62 : decode cX2_crossedOneByOne 62 = .ok (.iinc 2 1, 3) := by decide +kernel
theorem dX2_crossedOneByOne_65 : decode cX2_crossedOneByOne 65 = .ok (.goto (-57), 3) := by decide +kernel
theorem dX2_crossedOneByOne_68 : decode cX2_crossedOneByOne 68 = .ok (.iload_n 1, 1) := by decide +kernel
theorem dX2_crossedOneByOne_69 : decode cX2_crossedOneByOne 69 = .ok (.ireturn, 1) := by decide +kernel
theorem dX2_sortByMiddles_0 : decode cX2_sortByMiddles 0 = .ok (.iconst 1, 1) := by decide +kernel
theorem dX2_sortByMiddles_1 : decode cX2_sortByMiddles 1 = .ok (.istore_n 1, 1) := by decide +kernel
theorem dX2_sortByMiddles_2 : decode cX2_sortByMiddles 2 = .ok (.iload_n 1, 1) := by decide +kernel
theorem dX2_sortByMiddles_3 : decode cX2_sortByMiddles 3 = .ok (.aload_n 0, 1) := by decide +kernel
theorem dX2_sortByMiddles_4 : decode cX2_sortByMiddles 4 = .ok (.getfield 18, 3) := by decide +kernel
theorem dX2_sortByMiddles_7 : decode cX2_sortByMiddles 7 = .ok (.if_icmp .ge 98, 3) := by decide +kernel
theorem dX2_sortByMiddles_10 : decode cX2_sortByMiddles 10 = .ok (.aload_n 0, 1) := by decide +kernel
theorem dX2_sortByMiddles_11 : decode cX2_sortByMiddles 11 = .ok (.getfield 9, 3) := by decide +kernel
theorem dX2_sortByMiddles_14 : decode cX2_sortByMiddles 14 = .ok (.iload_n 1, 1) := by decide +kernel
theorem dX2_sortByMiddles_15 : decode cX2_sortByMiddles 15 = .ok (.iaload, 1) := by decide +kernel
theorem dX2_sortByMiddles_16 : decode cX2_sortByMiddles 16 = .ok (.istore_n 2, 1) := by decide +kernel
theorem dX2_sortByMiddles_17 : decode cX2_sortByMiddles 17 = .ok (.aload_n 0, 1) := by decide +kernel
theorem dX2_sortByMiddles_18 : decode cX2_sortByMiddles 18 = .ok (.getfield 15, 3) := by decide +kernel
theorem dX2_sortByMiddles_21 : decode cX2_sortByMiddles 21 = .ok (.iload_n 1, 1) := by decide +kernel
theorem dX2_sortByMiddles_22 : decode cX2_sortByMiddles 22 = .ok (.iaload, 1) := by decide +kernel
theorem dX2_sortByMiddles_23 : decode cX2_sortByMiddles 23 = .ok (.istore_n 3, 1) := by decide +kernel
theorem dX2_sortByMiddles_24 : decode cX2_sortByMiddles 24 = .ok (.iload_n 1, 1) := by decide +kernel
theorem dX2_sortByMiddles_25 : decode cX2_sortByMiddles 25 = .ok (.istore 4, 2) := by decide +kernel
theorem dX2_sortByMiddles_27 : decode cX2_sortByMiddles 27 = .ok (.iload 4, 2) := by decide +kernel
theorem dX2_sortByMiddles_29 : decode cX2_sortByMiddles 29 = .ok (.ifCond .le 54, 3) := by decide +kernel
theorem dX2_sortByMiddles_32 : decode cX2_sortByMiddles 32 = .ok (.aload_n 0, 1) := by decide +kernel
theorem dX2_sortByMiddles_33 : decode cX2_sortByMiddles 33 = .ok (.getfield 9, 3) := by decide +kernel
theorem dX2_sortByMiddles_36 : decode cX2_sortByMiddles 36 = .ok (.iload 4, 2) := by decide +kernel
theorem dX2_sortByMiddles_38 : decode cX2_sortByMiddles 38 = .ok (.iconst 1, 1) := by decide +kernel
theorem dX2_sortByMiddles_39 : decode cX2_sortByMiddles 39 = .ok (.isub, 1) := by decide +kernel
theorem dX2_sortByMiddles_40 : decode cX2_sortByMiddles 40 = .ok (.iaload, 1) := by decide +kernel
theorem dX2_sortByMiddles_41 : decode cX2_sortByMiddles 41 = .ok (.iload_n 2, 1) := by decide +kernel
theorem dX2_sortByMiddles_42 : decode cX2_sortByMiddles 42 = .ok (.if_icmp .le 41, 3) := by decide +kernel
theorem dX2_sortByMiddles_45 : decode cX2_sortByMiddles 45 = .ok (.aload_n 0, 1) := by decide +kernel
theorem dX2_sortByMiddles_46 : decode cX2_sortByMiddles 46 = .ok (.getfield 9, 3) := by decide +kernel
theorem dX2_sortByMiddles_49 : decode cX2_sortByMiddles 49 = .ok (.iload 4, 2) := by decide +kernel
theorem dX2_sortByMiddles_51 : decode cX2_sortByMiddles 51 = .ok (.aload_n 0, 1) := by decide +kernel
theorem dX2_sortByMiddles_52 : decode cX2_sortByMiddles 52 = .ok (.getfield 9, 3) := by decide +kernel
theorem dX2_sortByMiddles_55 : decode cX2_sortByMiddles 55 = .ok (.iload 4, 2) := by decide +kernel
theorem dX2_sortByMiddles_57 : decode cX2_sortByMiddles 57 = .ok (.iconst 1, 1) := by decide +kernel
theorem dX2_sortByMiddles_58 : decode cX2_sortByMiddles 58 = .ok (.isub, 1) := by decide +kernel
theorem dX2_sortByMiddles_59 : decode cX2_sortByMiddles 59 = .ok (.iaload, 1) := by decide +kernel
theorem dX2_sortByMiddles_60 : decode cX2_sortByMiddles 60 = .ok (.iastore, 1) := by decide +kernel
theorem dX2_sortByMiddles_61 : decode cX2_sortByMiddles 61 = .ok (.aload_n 0, 1) := by decide +kernel
theorem dX2_sortByMiddles_62 : decode cX2_sortByMiddles 62 = .ok (.getfield 15, 3) := by decide +kernel
theorem dX2_sortByMiddles_65 : decode cX2_sortByMiddles 65 = .ok (.iload 4, 2) := by decide +kernel
theorem dX2_sortByMiddles_67 : decode cX2_sortByMiddles 67 = .ok (.aload_n 0, 1) := by decide +kernel
theorem dX2_sortByMiddles_68 : decode cX2_sortByMiddles 68 = .ok (.getfield 15, 3) := by decide +kernel
theorem dX2_sortByMiddles_71 : decode cX2_sortByMiddles 71 = .ok (.iload 4, 2) := by decide +kernel
theorem dX2_sortByMiddles_73 : decode cX2_sortByMiddles 73 = .ok (.iconst 1, 1) := by decide +kernel
theorem dX2_sortByMiddles_74 : decode cX2_sortByMiddles 74 = .ok (.isub, 1) := by decide +kernel
theorem dX2_sortByMiddles_75 : decode cX2_sortByMiddles 75 = .ok (.iaload, 1) := by decide +kernel
theorem dX2_sortByMiddles_76 : decode cX2_sortByMiddles 76 = .ok (.iastore, 1) := by decide +kernel
theorem dX2_sortByMiddles_77 : decode cX2_sortByMiddles 77 = .ok (.iinc 4 (-1), 3) := by decide +kernel
theorem dX2_sortByMiddles_80 : decode cX2_sortByMiddles 80 = .ok (.goto (-53), 3) := by decide +kernel
theorem dX2_sortByMiddles_83 : decode cX2_sortByMiddles 83 = .ok (.aload_n 0, 1) := by decide +kernel
theorem dX2_sortByMiddles_84 : decode cX2_sortByMiddles 84 = .ok (.getfield 9, 3) := by decide +kernel
theorem dX2_sortByMiddles_87 : decode cX2_sortByMiddles 87 = .ok (.iload 4, 2) := by decide +kernel
theorem dX2_sortByMiddles_89 : decode cX2_sortByMiddles 89 = .ok (.iload_n 2, 1) := by decide +kernel
theorem dX2_sortByMiddles_90 : decode cX2_sortByMiddles 90 = .ok (.iastore, 1) := by decide +kernel
theorem dX2_sortByMiddles_91 : decode cX2_sortByMiddles 91 = .ok (.aload_n 0, 1) := by decide +kernel
theorem dX2_sortByMiddles_92 : decode cX2_sortByMiddles 92 = .ok (.getfield 15, 3) := by decide +kernel
theorem dX2_sortByMiddles_95 : decode cX2_sortByMiddles 95 = .ok (.iload 4, 2) := by decide +kernel
theorem dX2_sortByMiddles_97 : decode cX2_sortByMiddles 97 = .ok (.iload_n 3, 1) := by decide +kernel
theorem dX2_sortByMiddles_98 : decode cX2_sortByMiddles 98 = .ok (.iastore, 1) := by decide +kernel
theorem dX2_sortByMiddles_99 : decode cX2_sortByMiddles 99 = .ok (.iinc 1 1, 3) := by decide +kernel
theorem dX2_sortByMiddles_102 : decode cX2_sortByMiddles 102 = .ok (.goto (-100), 3) := by decide +kernel
theorem dX2_sortByMiddles_105 : decode cX2_sortByMiddles 105 = .ok (.return_, 1) := by decide +kernel
theorem dX3_init_0 : decode cX3_init 0 = .ok (.aload_n 0, 1) := by decide +kernel
theorem dX3_init_1 : decode cX3_init 1 = .ok (.invokespecial 3, 3) := by decide +kernel
theorem dX3_init_4 : decode cX3_init 4 = .ok (.aload_n 0, 1) := by decide +kernel
theorem dX3_init_5 : decode cX3_init 5 = .ok (.bipush 6, 2) := by decide +kernel
theorem dX3_init_7 : decode cX3_init 7 = .ok (.newarray .int, 2) := by decide +kernel
theorem dX3_init_9 : decode cX3_init 9 = .ok (.putfield 9, 3) := by decide +kernel
theorem dX3_init_12 : decode cX3_init 12 = .ok (.aload_n 0, 1) := by decide +kernel
theorem dX3_init_13 : decode cX3_init 13 = .ok (.bipush 6, 2) := by decide +kernel
theorem dX3_init_15 : decode cX3_init 15 = .ok (.newarray .int, 2) := by decide +kernel
theorem dX3_init_17 : decode cX3_init 17 = .ok (.putfield 15, 3) := by decide +kernel
theorem dX3_init_20 : decode cX3_init 20 = .ok (.aload_n 0, 1) := by decide +kernel
theorem dX3_init_21 : decode cX3_init 21 = .ok (.bipush 20, 2) := by decide +kernel
theorem dX3_init_23 : decode cX3_init 23 = .ok (.newarray .int, 2) := by decide +kernel
theorem dX3_init_25 : decode cX3_init 25 = .ok (.putfield 18, 3) := by decide +kernel
theorem dX3_init_28 : decode cX3_init 28 = .ok (.aload_n 0, 1) := by decide +kernel
theorem dX3_init_29 : decode cX3_init 29 = .ok (.bipush 20, 2) := by decide +kernel
theorem dX3_init_31 : decode cX3_init 31 = .ok (.newarray .int, 2) := by decide +kernel
theorem dX3_init_33 : decode cX3_init 33 = .ok (.putfield 21, 3) := by decide +kernel
theorem dX3_init_36 : decode cX3_init 36 = .ok (.aload_n 0, 1) := by decide +kernel
theorem dX3_init_37 : decode cX3_init 37 = .ok (.bipush 6, 2) := by decide +kernel
theorem dX3_init_39 : decode cX3_init 39 = .ok (.newarray .int, 2) := by decide +kernel
theorem dX3_init_41 : decode cX3_init 41 = .ok (.putfield 24, 3) := by decide +kernel
theorem dX3_init_44 : decode cX3_init 44 = .ok (.aload_n 0, 1) := by decide +kernel
theorem dX3_init_45 : decode cX3_init 45 = .ok (.bipush 6, 2) := by decide +kernel
theorem dX3_init_47 : decode cX3_init 47 = .ok (.newarray .int, 2) := by decide +kernel
theorem dX3_init_49 : decode cX3_init 49 = .ok (.putfield 27, 3) := by decide +kernel
theorem dX3_init_52 : decode cX3_init 52 = .ok (.aload_n 0, 1) := by decide +kernel
theorem dX3_init_53 : decode cX3_init 53 = .ok (.bipush 6, 2) := by decide +kernel
theorem dX3_init_55 : decode cX3_init 55 = .ok (.newarray .int, 2) := by decide +kernel
theorem dX3_init_57 : decode cX3_init 57 = .ok (.putfield 30, 3) := by decide +kernel
theorem dX3_init_60 : decode cX3_init 60 = .ok (.aload_n 0, 1) := by decide +kernel
theorem dX3_init_61 : decode cX3_init 61 = .ok (.bipush 6, 2) := by decide +kernel
theorem dX3_init_63 : decode cX3_init 63 = .ok (.newarray .int, 2) := by decide +kernel
theorem dX3_init_65 : decode cX3_init 65 = .ok (.putfield 33, 3) := by decide +kernel
theorem dX3_init_68 : decode cX3_init 68 = .ok (.aload_n 0, 1) := by decide +kernel
theorem dX3_init_69 : decode cX3_init 69 = .ok (.bipush 6, 2) := by decide +kernel
theorem dX3_init_71 : decode cX3_init 71 = .ok (.newarray .int, 2) := by decide +kernel
theorem dX3_init_73 : decode cX3_init 73 = .ok (.putfield 36, 3) := by decide +kernel
theorem dX3_init_76 : decode cX3_init 76 = .ok (.aload_n 0, 1) := by decide +kernel
theorem dX3_init_77 : decode cX3_init 77 = .ok (.bipush 6, 2) := by decide +kernel
theorem dX3_init_79 : decode cX3_init 79 = .ok (.bipush 6, 2) := by decide +kernel
theorem dX3_init_81 : decode cX3_init 81 = .ok (.multianewarray 39 2, 4) := by decide +kernel
theorem dX3_init_85 : decode cX3_init 85 = .ok (.putfield 41, 3) := by decide +kernel
theorem dX3_init_88 : decode cX3_init 88 = .ok (.return_, 1) := by decide +kernel
set_option maxRecDepth 20000 in
theorem ggX3_prepare_X3_listPeople : GoodIn wsX3_prepare wsX3_listPeople := goodIn_r _ [5, 6, 7, 8, 9, 10, 11, 12, 13, 14, 15, 16, 17, 18, 19, 20, 21, 22, 91, 92, 93, 94, 95, 96, 97, 98, 99, 100, 101, 102, 103, 104, 105, 106, 107, 108, 109, 110, 111, 112, 113] (by decide +kernel) (by decide +kernel)
set_option maxRecDepth 20000 in
theorem gX3_prepare_X3_listPeople : GoodIn wsX3_prepare (wsV RX3 44 RX3 yX3_listPeople wsX3_listPeople) := goodIn_app (goodIn_of _ (by decide +kernel)) ggX3_prepare_X3_listPeople
set_option maxRecDepth 20000 in
theorem ggX3_prepare_X3_noteLinesTo : GoodIn wsX3_prepare wsX3_noteLinesTo := goodIn_r _ [26, 6, 7, 27, 28, 29, 30, 11, 31, 32, 33, 34, 35, 36, 19, 20, 21, 22, 13, 37, 38, 39, 40, 41, 42, 43, 44, 45, 46, 47, 48, 49, 50, 51, 52, 91, 92, 93, 94, 95, 96, 97, 98, 99, 100, 101, 102, 103, 104, 105, 106, 107, 108, 109, 110, 111, 112, 113] (by decide +kernel) (by decide +kernel)
set_option maxRecDepth 20000 in
theorem gX3_prepare_X3_noteLinesTo : GoodIn wsX3_prepare (wsV RX3 48 RX3 yX3_noteLinesTo wsX3_noteLinesTo) := goodIn_app (goodIn_of _ (by decide +kernel)) ggX3_prepare_X3_noteLinesTo
set_option maxRecDepth 20000 in
theorem ggX3_prepare_X3_listCouples : GoodIn wsX3_prepare wsX3_listCouples := goodIn_r _ [56, 57, 58, 59, 60, 61, 11, 62, 63, 64, 65, 66, 67, 68, 69, 70, 33, 34, 35, 36, 19, 20, 21, 22, 13, 71, 72, 73, 4, 74, 75, 76, 77, 78, 79, 80, 81, 41, 43, 44, 45, 46, 47, 82, 83, 84, 85, 42, 91, 92, 93, 94, 95, 96, 97, 98, 99, 100, 101, 102, 103, 104, 105, 106, 107, 108, 109, 110, 111, 112, 113] (by decide +kernel) (by decide +kernel)
set_option maxRecDepth 20000 in
theorem gX3_prepare_X3_listCouples : GoodIn wsX3_prepare (wsV RX3 52 RX3 yX3_listCouples wsX3_listCouples) := goodIn_app (goodIn_of _ (by decide +kernel)) ggX3_prepare_X3_listCouples
set_option maxRecDepth 20000 in
theorem ggX3_prepare_X5_sizeOf : GoodIn wsX3_prepare wsX5_sizeOf := goodIn_r _ [62, 63, 104, 105, 106, 107, 108, 109, 110, 111, 112, 113] (by decide +kernel) (by decide +kernel)
set_option maxRecDepth 20000 in
theorem gX3_prepare_X5_sizeOf : GoodIn wsX3_prepare (wsV RX3 55 RX5 yX5_sizeOf wsX5_sizeOf) := goodIn_app (goodIn_of _ (by decide +kernel)) ggX3_prepare_X5_sizeOf
set_option maxRecDepth 20000 in
theorem ggX3_prepare_X3_noteLinesFrom : GoodIn wsX3_prepare wsX3_noteLinesFrom := goodIn_r _ [89, 57, 90, 58, 91, 92, 93, 94, 95, 96, 97, 98, 99, 100, 101, 102, 103] (by decide +kernel) (by decide +kernel)
set_option maxRecDepth 20000 in
theorem gX3_prepare_X3_noteLinesFrom : GoodIn wsX3_prepare (wsV RX3 61 RX3 yX3_noteLinesFrom wsX3_noteLinesFrom) := goodIn_app (goodIn_of _ (by decide +kernel)) ggX3_prepare_X3_noteLinesFrom
theorem dX3_prepare_0 : decode cX3_prepare 0 = .ok (.aload_n 0, 1) := by decide +kernel
theorem dX3_prepare_1 : decode cX3_prepare 1 = .ok (.aload_n 1, 1) := by decide +kernel
theorem dX3_prepare_2 : decode cX3_prepare 2 = .ok (.iload_n 2, 1) := by decide +kernel
theorem dX3_prepare_3 : decode cX3_prepare 3 = .ok (.invokevirtual 44, 3) := by decide +kernel
theorem dX3_prepare_6 : decode cX3_prepare 6 = .ok (.aload_n 0, 1) := by decide +kernel
theorem dX3_prepare_7 : decode cX3_prepare 7 = .ok (.aload_n 1, 1) := by decide +kernel
theorem dX3_prepare_8 : decode cX3_prepare 8 = .ok (.invokevirtual 48, 3) := by decide +kernel
theorem dX3_prepare_11 : decode cX3_prepare 11 = .ok (.aload_n 0, 1) := by decide +kernel
theorem dX3_prepare_12 : decode cX3_prepare 12 = .ok (.aload_n 1, 1) := by decide +kernel
theorem dX3_prepare_13 : decode cX3_prepare 13 = .ok (.iload_n 2, 1) := by decide +kernel
theorem dX3_prepare_14 : decode cX3_prepare 14 = .ok (.iconst 1, 1) := by decide +kernel
theorem dX3_prepare_15 : decode cX3_prepare 15 = .ok (.iadd, 1) := by decide +kernel
theorem dX3_prepare_16 : decode cX3_prepare 16 = .ok (.invokevirtual 52, 3) := by decide +kernel
theorem dX3_prepare_19 : decode cX3_prepare 19 = .ok (.aload_n 0, 1) := by decide +kernel
theorem dX3_prepare_20 : decode cX3_prepare 20 = .ok (.aload_n 1, 1) := by decide +kernel
theorem dX3_prepare_21 : decode cX3_prepare 21 = .ok (.iload_n 2, 1) := by decide +kernel
theorem dX3_prepare_22 : decode cX3_prepare 22 = .ok (.iconst 1, 1) := by decide +kernel
theorem dX3_prepare_23 : decode cX3_prepare 23 = .ok (.iadd, 1) := by decide +kernel
theorem dX3_prepare_24 : decode cX3_prepare 24 = .ok (.invokevirtual 55, 3) := by decide +kernel
theorem dX3_prepare_27 : decode cX3_prepare 27 = .ok (.invokevirtual 61, 3) := by decide +kernel
theorem dX3_prepare_30 : decode cX3_prepare 30 = .ok (.return_, 1) := by decide +kernel
set_option maxRecDepth 20000 in
theorem ggX3_listPeople_X5_people : GoodIn wsX3_listPeople wsX5_people := goodIn_r _ [7, 8, 31, 32, 33, 34, 35, 36, 37, 38, 39, 40] (by decide +kernel) (by decide +kernel)
set_option maxRecDepth 20000 in
theorem gX3_listPeople_X5_people : GoodIn wsX3_listPeople (wsV RX3 69 RX5 yX5_people wsX5_people) := goodIn_app (goodIn_of _ (by decide +kernel)) ggX3_listPeople_X5_people
set_option maxRecDepth 20000 in
theorem ggX3_listPeople_X5_rowOf : GoodIn wsX3_listPeople wsX5_rowOf := goodIn_r _ [12, 13, 14, 15, 16, 6, 17, 8, 31, 32, 33, 34, 35, 36, 37, 38, 39, 40] (by decide +kernel) (by decide +kernel)
set_option maxRecDepth 20000 in
theorem gX3_listPeople_X5_rowOf : GoodIn wsX3_listPeople (wsV RX3 73 RX5 yX5_rowOf wsX5_rowOf) := goodIn_app (goodIn_of _ (by decide +kernel)) ggX3_listPeople_X5_rowOf
theorem dX3_listPeople_0 : decode cX3_listPeople 0 = .ok (.aload_n 0, 1) := by decide +kernel
theorem dX3_listPeople_1 : decode cX3_listPeople 1 = .ok (.iconst 0, 1) := by decide +kernel
theorem dX3_listPeople_2 : decode cX3_listPeople 2 = .ok (.putfield 65, 3) := by decide +kernel
theorem dX3_listPeople_5 : decode cX3_listPeople 5 = .ok (.iconst 0, 1) := by decide +kernel
theorem dX3_listPeople_6 : decode cX3_listPeople 6 = .ok (.istore_n 3, 1) := by decide +kernel
theorem dX3_listPeople_7 : decode cX3_listPeople 7 = .ok (.iload_n 3, 1) := by decide +kernel
theorem dX3_listPeople_8 : decode cX3_listPeople 8 = .ok (.aload_n 1, 1) := by decide +kernel
theorem dX3_listPeople_9 : decode cX3_listPeople 9 = .ok (.invokevirtual 69, 3) := by decide +kernel
theorem dX3_listPeople_12 : decode cX3_listPeople 12 = .ok (.if_icmp .ge 47, 3) := by decide +kernel
theorem dX3_listPeople_15 : decode cX3_listPeople 15 = .ok (.aload_n 0, 1) := by decide +kernel
theorem dX3_listPeople_16 : decode cX3_listPeople 16 = .ok (.getfield 65, 3) := by decide +kernel
theorem dX3_listPeople_19 : decode cX3_listPeople 19 = .ok (.bipush 6, 2) := by decide +kernel
theorem dX3_listPeople_21 : decode cX3_listPeople 21 = .ok (.if_icmp .ge 38, 3) := by decide +kernel
theorem dX3_listPeople_24 : decode cX3_listPeople 24 = .ok (.aload_n 1, 1) := by decide +kernel
theorem dX3_listPeople_25 : decode cX3_listPeople 25 = .ok (.iload_n 3, 1) := by decide +kernel
theorem dX3_listPeople_26 : decode cX3_listPeople 26 = .ok (.invokevirtual 73, 3) := by decide +kernel
theorem dX3_listPeople_29 : decode cX3_listPeople 29 = .ok (.iload_n 2, 1) := by decide +kernel
theorem dX3_listPeople_30 : decode cX3_listPeople 30 = .ok (.if_icmp .ne 23, 3) := by decide +kernel
theorem dX3_listPeople_33 : decode cX3_listPeople 33 = .ok (.aload_n 0, 1) := by decide +kernel
theorem dX3_listPeople_34 : decode cX3_listPeople 34 = .ok (.getfield 9, 3) := by decide +kernel
theorem dX3_listPeople_37 : decode cX3_listPeople 37 = .ok (.aload_n 0, 1) := by decide +kernel
theorem dX3_listPeople_38 : decode cX3_listPeople 38 = .ok (.getfield 65, 3) := by decide +kernel
theorem dX3_listPeople_41 : decode cX3_listPeople 41 = .ok (.iload_n 3, 1) := by decide +kernel
theorem dX3_listPeople_42 : decode cX3_listPeople 42 = .ok (.iastore, 1) := by decide +kernel
theorem dX3_listPeople_43 : decode cX3_listPeople 43 = .ok (.aload_n 0, 1) := by decide +kernel
theorem dX3_listPeople_44 : decode cX3_listPeople 44 = .ok (.dup, 1) := by decide +kernel
theorem dX3_listPeople_45 : decode cX3_listPeople 45 = .ok (.getfield 65, 3) := by decide +kernel
theorem dX3_listPeople_48 : decode cX3_listPeople 48 = .ok (.iconst 1, 1) := by decide +kernel
theorem dX3_listPeople_49 : decode cX3_listPeople 49 = .ok (.iadd, 1) := by decide +kernel
theorem dX3_listPeople_50 : decode cX3_listPeople 50 = .ok (.putfield 65, 3) := by decide +kernel
theorem dX3_listPeople_53 : decode cX3_listPeople 53 = .ok (.iinc 3 1, 3) := by decide +kernel
theorem dX3_listPeople_56 : decode cX3_listPeople 56 = .ok (.goto (-49), 3) := by decide +kernel
theorem dX3_listPeople_59 : decode cX3_listPeople 59 = .ok (.return_, 1) := by decide +kernel
set_option maxRecDepth 20000 in
theorem ggX3_noteLinesTo_X5_middleAbove : GoodIn wsX3_noteLinesTo wsX5_middleAbove := goodIn_r _ [8, 9, 10, 11, 7, 12, 13, 14, 15, 16, 17, 18, 19, 20, 21, 22, 23, 24, 25, 26, 27, 28, 29, 30, 31, 32, 33, 34, 48, 49, 50, 51, 52, 53, 54, 55, 56, 57] (by decide +kernel) (by decide +kernel)
set_option maxRecDepth 20000 in
theorem gX3_noteLinesTo_X5_middleAbove : GoodIn wsX3_noteLinesTo (wsV RX3 76 RX5 yX5_middleAbove wsX5_middleAbove) := goodIn_app (goodIn_of _ (by decide +kernel)) ggX3_noteLinesTo_X5_middleAbove
theorem dX3_noteLinesTo_0 : decode cX3_noteLinesTo 0 = .ok (.iconst 0, 1) := by decide +kernel
theorem dX3_noteLinesTo_1 : decode cX3_noteLinesTo 1 = .ok (.istore_n 2, 1) := by decide +kernel
theorem dX3_noteLinesTo_2 : decode cX3_noteLinesTo 2 = .ok (.iload_n 2, 1) := by decide +kernel
theorem dX3_noteLinesTo_3 : decode cX3_noteLinesTo 3 = .ok (.aload_n 0, 1) := by decide +kernel
theorem dX3_noteLinesTo_4 : decode cX3_noteLinesTo 4 = .ok (.getfield 65, 3) := by decide +kernel
theorem dX3_noteLinesTo_7 : decode cX3_noteLinesTo 7 = .ok (.if_icmp .ge 88, 3) := by decide +kernel
theorem dX3_noteLinesTo_10 : decode cX3_noteLinesTo 10 = .ok (.aload_n 1, 1) := by decide +kernel
theorem dX3_noteLinesTo_11 : decode cX3_noteLinesTo 11 = .ok (.aload_n 0, 1) := by decide +kernel
theorem dX3_noteLinesTo_12 : decode cX3_noteLinesTo 12 = .ok (.getfield 9, 3) := by decide +kernel
theorem dX3_noteLinesTo_15 : decode cX3_noteLinesTo 15 = .ok (.iload_n 2, 1) := by decide +kernel
theorem dX3_noteLinesTo_16 : decode cX3_noteLinesTo 16 = .ok (.iaload, 1) := by decide +kernel
theorem dX3_noteLinesTo_17 : decode cX3_noteLinesTo 17 = .ok (.invokevirtual 76, 3) := by decide +kernel
theorem dX3_noteLinesTo_20 : decode cX3_noteLinesTo 20 = .ok (.istore_n 3, 1) := by decide +kernel
theorem dX3_noteLinesTo_21 : decode cX3_noteLinesTo 21 = .ok (.iconst 0, 1) := by decide +kernel
theorem dX3_noteLinesTo_22 : decode cX3_noteLinesTo 22 = .ok (.istore 4, 2) := by decide +kernel
theorem dX3_noteLinesTo_24 : decode cX3_noteLinesTo 24 = .ok (.iconst 0, 1) := by decide +kernel
theorem dX3_noteLinesTo_25 : decode cX3_noteLinesTo 25 = .ok (.istore 5, 2) := by decide +kernel
theorem dX3_noteLinesTo_27 : decode cX3_noteLinesTo 27 = .ok (.iload 5, 2) := by decide +kernel
theorem dX3_noteLinesTo_29 : decode cX3_noteLinesTo 29 = .ok (.aload_n 0, 1) := by decide +kernel
theorem dX3_noteLinesTo_30 : decode cX3_noteLinesTo 30 = .ok (.getfield 65, 3) := by decide +kernel
theorem dX3_noteLinesTo_33 : decode cX3_noteLinesTo 33 = .ok (.if_icmp .ge 43, 3) := by decide +kernel
theorem dX3_noteLinesTo_36 : decode cX3_noteLinesTo 36 = .ok (.iload_n 3, 1) := by decide +kernel
theorem dX3_noteLinesTo_37 : decode cX3_noteLinesTo 37 = .ok (.iconst (-1), 1) := by decide +kernel
theorem dX3_noteLinesTo_38 : decode cX3_noteLinesTo 38 = .ok (.if_icmp .eq 38, 3) := by decide +kernel
theorem dX3_noteLinesTo_41 : decode cX3_noteLinesTo 41 = .ok (.aload_n 1, 1) := by decide +kernel
theorem dX3_noteLinesTo_42 : decode cX3_noteLinesTo 42 = .ok (.aload_n 0, 1) := by decide +kernel
theorem dX3_noteLinesTo_43 : decode cX3_noteLinesTo 43 = .ok (.getfield 9, 3) := by decide +kernel
theorem dX3_noteLinesTo_46 : decode cX3_noteLinesTo 46 = .ok (.iload 5, 2) := by decide +kernel
theorem dX3_noteLinesTo_48 : decode cX3_noteLinesTo 48 = .ok (.iaload, 1) := by decide +kernel
theorem dX3_noteLinesTo_49 : decode cX3_noteLinesTo 49 = .ok (.invokevirtual 76, 3) := by decide +kernel
theorem dX3_noteLinesTo_52 : decode cX3_noteLinesTo 52 = .ok (.iload_n 3, 1) := by decide +kernel
theorem dX3_noteLinesTo_53 : decode cX3_noteLinesTo 53 = .ok (.if_icmp .le 17, 3) := by decide +kernel
theorem dX3_noteLinesTo_56 : decode cX3_noteLinesTo 56 = .ok (.iload 4, 2) := by decide +kernel
theorem dX3_noteLinesTo_58 : decode cX3_noteLinesTo 58 = .ok (.iconst 1, 1) := by decide +kernel
theorem dX3_noteLinesTo_59 : decode cX3_noteLinesTo 59 = .ok (.aload_n 0, 1) := by decide +kernel
theorem dX3_noteLinesTo_60 : decode cX3_noteLinesTo 60 = .ok (.getfield 9, 3) := by decide +kernel
theorem dX3_noteLinesTo_63 : decode cX3_noteLinesTo 63 = .ok (.iload 5, 2) := by decide +kernel
theorem dX3_noteLinesTo_65 : decode cX3_noteLinesTo 65 = .ok (.iaload, 1) := by decide +kernel
theorem dX3_noteLinesTo_66 : decode cX3_noteLinesTo 66 = .ok (.ishl, 1) := by decide +kernel
theorem dX3_noteLinesTo_67 : decode cX3_noteLinesTo 67 = .ok (.ior, 1) := by decide +kernel
theorem dX3_noteLinesTo_68 : decode cX3_noteLinesTo 68 = .ok (.istore 4, 2) := by decide +kernel
theorem dX3_noteLinesTo_70 : decode cX3_noteLinesTo 70 = .ok (.iinc 5 1, 3) := by decide +kernel
theorem dX3_noteLinesTo_73 : decode cX3_noteLinesTo 73 = .ok (.goto (-46), 3) := by decide +kernel
theorem dX3_noteLinesTo_76 : decode cX3_noteLinesTo 76 = .ok (.aload_n 0, 1) := by decide +kernel
theorem dX3_noteLinesTo_77 : decode cX3_noteLinesTo 77 = .ok (.getfield 21, 3) := by decide +kernel
theorem dX3_noteLinesTo_80 : decode cX3_noteLinesTo 80 = .ok (.aload_n 0, 1) := by decide +kernel
theorem dX3_noteLinesTo_81 : decode cX3_noteLinesTo 81 = .ok (.getfield 9, 3) := by decide +kernel
theorem dX3_noteLinesTo_84 : decode cX3_noteLinesTo 84 = .ok (.iload_n 2, 1) := by decide +kernel
theorem dX3_noteLinesTo_85 : decode cX3_noteLinesTo 85 = .ok (.iaload, 1) := by decide +kernel
theorem dX3_noteLinesTo_86 : decode cX3_noteLinesTo 86 = .ok (.iload 4, 2) := by decide +kernel
theorem dX3_noteLinesTo_88 : decode cX3_noteLinesTo 88 = .ok (.iastore, 1) := by decide +kernel
theorem dX3_noteLinesTo_89 : decode cX3_noteLinesTo 89 = .ok (.iinc 2 1, 3) := by decide +kernel
theorem dX3_noteLinesTo_92 : decode cX3_noteLinesTo 92 = .ok (.goto (-90), 3) := by decide +kernel
theorem dX3_noteLinesTo_95 : decode cX3_noteLinesTo 95 = .ok (.return_, 1) := by decide +kernel
set_option maxRecDepth 20000 in
theorem ggX3_listCouples_X5_sizeOf : GoodIn wsX3_listCouples wsX5_sizeOf := goodIn_r _ [7, 8, 61, 62, 63, 64, 65, 66, 67, 68, 69, 70] (by decide +kernel) (by decide +kernel)
set_option maxRecDepth 20000 in
theorem gX3_listCouples_X5_sizeOf : GoodIn wsX3_listCouples (wsV RX3 55 RX5 yX5_sizeOf wsX5_sizeOf) := goodIn_app (goodIn_of _ (by decide +kernel)) ggX3_listCouples_X5_sizeOf
set_option maxRecDepth 20000 in
theorem ggX3_listCouples_X5_personAt : GoodIn wsX3_listCouples wsX5_personAt := goodIn_r _ [12, 13, 14, 4, 5, 6, 7, 8, 61, 62, 63, 64, 65, 66, 67, 68, 69, 70] (by decide +kernel) (by decide +kernel)
set_option maxRecDepth 20000 in
theorem gX3_listCouples_X5_personAt : GoodIn wsX3_listCouples (wsV RX3 82 RX5 yX5_personAt wsX5_personAt) := goodIn_app (goodIn_of _ (by decide +kernel)) ggX3_listCouples_X5_personAt
set_option maxRecDepth 20000 in
theorem ggX3_listCouples_X5_parentsOf : GoodIn wsX3_listCouples wsX5_parentsOf := goodIn_r _ [18, 19, 20, 21, 22, 6, 23, 24, 61, 62, 63, 64, 65, 66, 67, 68, 69, 70] (by decide +kernel) (by decide +kernel)
set_option maxRecDepth 20000 in
theorem gX3_listCouples_X5_parentsOf : GoodIn wsX3_listCouples (wsV RX3 86 RX5 yX5_parentsOf wsX5_parentsOf) := goodIn_app (goodIn_of _ (by decide +kernel)) ggX3_listCouples_X5_parentsOf
set_option maxRecDepth 20000 in
theorem ggX3_listCouples_X3_indexOfCouple : GoodIn wsX3_listCouples wsX3_indexOfCouple := goodIn_r _ [29, 1, 30, 31, 32, 33, 34, 35, 6, 36, 37, 38, 39, 40, 41, 42, 43, 44, 45, 46, 47, 48, 49, 50, 51, 52, 53, 54, 55, 56, 57, 58, 59, 60, 61, 62, 63, 64, 65, 66, 67, 68, 69, 70] (by decide +kernel) (by decide +kernel)
set_option maxRecDepth 20000 in
theorem gX3_listCouples_X3_indexOfCouple : GoodIn wsX3_listCouples (wsV RX3 89 RX3 yX3_indexOfCouple wsX3_indexOfCouple) := goodIn_app (goodIn_of _ (by decide +kernel)) ggX3_listCouples_X3_indexOfCouple
theorem dX3_listCouples_0 : decode cX3_listCouples 0 = .ok (.aload_n 0, 1) := by decide +kernel
theorem dX3_listCouples_1 : decode cX3_listCouples 1 = .ok (.iconst 0, 1) := by decide +kernel
theorem dX3_listCouples_2 : decode cX3_listCouples 2 = .ok (.putfield 79, 3) := by decide +kernel
theorem dX3_listCouples_5 : decode cX3_listCouples 5 = .ok (.iconst 0, 1) := by decide +kernel
theorem dX3_listCouples_6 : decode cX3_listCouples 6 = .ok (.istore_n 3, 1) := by decide +kernel
theorem dX3_listCouples_7 : decode cX3_listCouples 7 = .ok (.iload_n 3, 1) := by decide +kernel
theorem dX3_listCouples_8 : decode cX3_listCouples 8 = .ok (.aload_n 1, 1) := by decide +kernel
theorem dX3_listCouples_9 : decode cX3_listCouples 9 = .ok (.iload_n 2, 1) := by decide +kernel
theorem dX3_listCouples_10 : decode cX3_listCouples 10 = .ok (.invokevirtual 55, 3) := by decide +kernel
theorem dX3_listCouples_13 : decode cX3_listCouples 13 = .ok (.if_icmp .ge 50, 3) := by decide +kernel
theorem dX3_listCouples_16 : decode cX3_listCouples 16 = .ok (.iload_n 3, 1) := by decide +kernel
theorem dX3_listCouples_17 : decode cX3_listCouples 17 = .ok (.bipush 6, 2) := by decide +kernel
theorem dX3_listCouples_19 : decode cX3_listCouples 19 = .ok (.if_icmp .ge 44, 3) := by decide +kernel
theorem dX3_listCouples_22 : decode cX3_listCouples 22 = .ok (.aload_n 1, 1) := by decide +kernel
theorem dX3_listCouples_23 : decode cX3_listCouples 23 = .ok (.aload_n 1, 1) := by decide +kernel
theorem dX3_listCouples_24 : decode cX3_listCouples 24 = .ok (.iload_n 2, 1) := by decide +kernel
theorem dX3_listCouples_25 : decode cX3_listCouples 25 = .ok (.iload_n 3, 1) := by decide +kernel
theorem dX3_listCouples_26 : decode cX3_listCouples 26 = .ok (.invokevirtual 82, 3) := by decide +kernel
theorem dX3_listCouples_29 : decode cX3_listCouples 29 = .ok (.invokevirtual 86, 3) := by decide +kernel
theorem dX3_listCouples_32 : decode cX3_listCouples 32 = .ok (.istore 4, 2) := by decide +kernel
theorem dX3_listCouples_34 : decode cX3_listCouples 34 = .ok (.aload_n 0, 1) := by decide +kernel
theorem dX3_listCouples_35 : decode cX3_listCouples 35 = .ok (.getfield 36, 3) := by decide +kernel
theorem dX3_listCouples_38 : decode cX3_listCouples 38 = .ok (.iload_n 3, 1) := by decide +kernel
theorem dX3_listCouples_39 : decode cX3_listCouples 39 = .ok (.iload 4, 2) := by decide +kernel
theorem dX3_listCouples_41 : decode cX3_listCouples 41 = .ok (.iconst (-1), 1) := by decide +kernel
theorem dX3_listCouples_42 : decode cX3_listCouples 42 = .ok (.if_icmp .ne 7, 3) := by decide +kernel
theorem dX3_listCouples_45 : decode cX3_listCouples 45 = .ok (.iconst (-1), 1) := by decide +kernel
theorem dX3_listCouples_46 : decode cX3_listCouples 46 = .ok (.goto 10, 3) := by decide +kernel
theorem dX3_listCouples_49 : decode cX3_listCouples 49 = .ok (.aload_n 0, 1) := by decide +kernel
theorem dX3_listCouples_50 : decode cX3_listCouples 50 = .ok (.aload_n 1, 1) := by decide +kernel
theorem dX3_listCouples_51 : decode cX3_listCouples 51 = .ok (.iload 4, 2) := by decide +kernel
theorem dX3_listCouples_53 : decode cX3_listCouples 53 = .ok (.invokevirtual 89, 3) := by decide +kernel
theorem dX3_listCouples_56 : decode cX3_listCouples 56 = .ok (.iastore, 1) := by decide +kernel
theorem dX3_listCouples_57 : decode cX3_listCouples 57 = .ok (.iinc 3 1, 3) := by decide +kernel
theorem dX3_listCouples_60 : decode cX3_listCouples 60 = .ok (.goto (-53), 3) := by decide +kernel
theorem dX3_listCouples_63 : decode cX3_listCouples 63 = .ok (.return_, 1) := by decide +kernel
set_option maxRecDepth 20000 in
theorem ggX3_indexOfCouple_X5_lesserOf : GoodIn wsX3_indexOfCouple wsX5_lesserOf := goodIn_r _ [9, 10, 11, 12, 13, 8, 14, 15, 34, 35, 36, 37, 38, 39, 40, 41, 42, 43] (by decide +kernel) (by decide +kernel)
set_option maxRecDepth 20000 in
theorem gX3_indexOfCouple_X5_lesserOf : GoodIn wsX3_indexOfCouple (wsV RX3 93 RX5 yX5_lesserOf wsX5_lesserOf) := goodIn_app (goodIn_of _ (by decide +kernel)) ggX3_indexOfCouple_X5_lesserOf
set_option maxRecDepth 20000 in
theorem ggX3_indexOfCouple_X5_greaterOf : GoodIn wsX3_indexOfCouple wsX5_greaterOf := goodIn_r _ [19, 20, 11, 12, 13, 8, 14, 15, 34, 35, 36, 37, 38, 39, 40, 41, 42, 43] (by decide +kernel) (by decide +kernel)
set_option maxRecDepth 20000 in
theorem gX3_indexOfCouple_X5_greaterOf : GoodIn wsX3_indexOfCouple (wsV RX3 96 RX5 yX5_greaterOf wsX5_greaterOf) := goodIn_app (goodIn_of _ (by decide +kernel)) ggX3_indexOfCouple_X5_greaterOf
theorem dX3_indexOfCouple_0 : decode cX3_indexOfCouple 0 = .ok (.iconst 0, 1) := by decide +kernel
theorem dX3_indexOfCouple_1 : decode cX3_indexOfCouple 1 = .ok (.istore_n 3, 1) := by decide +kernel
theorem dX3_indexOfCouple_2 : decode cX3_indexOfCouple 2 = .ok (.iload_n 3, 1) := by decide +kernel
theorem dX3_indexOfCouple_3 : decode cX3_indexOfCouple 3 = .ok (.aload_n 0, 1) := by decide +kernel
theorem dX3_indexOfCouple_4 : decode cX3_indexOfCouple 4 = .ok (.getfield 79, 3) := by decide +kernel
theorem dX3_indexOfCouple_7 : decode cX3_indexOfCouple 7 = .ok (.if_icmp .ge 21, 3) := by decide +kernel
theorem dX3_indexOfCouple_10 : decode cX3_indexOfCouple 10 = .ok (.aload_n 0, 1) := by decide +kernel
theorem dX3_indexOfCouple_11 : decode cX3_indexOfCouple 11 = .ok (.getfield 24, 3) := by decide +kernel
theorem dX3_indexOfCouple_14 : decode cX3_indexOfCouple 14 = .ok (.iload_n 3, 1) := by decide +kernel
theorem dX3_indexOfCouple_15 : decode cX3_indexOfCouple 15 = .ok (.iaload, 1) := by decide +kernel
theorem dX3_indexOfCouple_16 : decode cX3_indexOfCouple 16 = .ok (.iload_n 2, 1) := by decide +kernel
theorem dX3_indexOfCouple_17 : decode cX3_indexOfCouple 17 = .ok (.if_icmp .ne 5, 3) := by decide +kernel
theorem dX3_indexOfCouple_20 : decode cX3_indexOfCouple 20 = .ok (.iload_n 3, 1) := by decide +kernel
theorem dX3_indexOfCouple_21 : decode cX3_indexOfCouple 21 = .ok (.ireturn, 1) := by decide +kernel
theorem dX3_indexOfCouple_22 : decode cX3_indexOfCouple 22 = .ok (.iinc 3 1, 3) := by decide +kernel
theorem dX3_indexOfCouple_25 : decode cX3_indexOfCouple 25 = .ok (.goto (-23), 3) := by decide +kernel
theorem dX3_indexOfCouple_28 : decode cX3_indexOfCouple 28 = .ok (.aload_n 0, 1) := by decide +kernel
theorem dX3_indexOfCouple_29 : decode cX3_indexOfCouple 29 = .ok (.getfield 79, 3) := by decide +kernel
theorem dX3_indexOfCouple_32 : decode cX3_indexOfCouple 32 = .ok (.bipush 6, 2) := by decide +kernel
theorem dX3_indexOfCouple_34 : decode cX3_indexOfCouple 34 = .ok (.if_icmp .lt 5, 3) := by decide +kernel
theorem dX3_indexOfCouple_37 : decode cX3_indexOfCouple 37 = .ok (.iconst (-1), 1) := by decide +kernel
theorem dX3_indexOfCouple_38 : decode cX3_indexOfCouple 38 = .ok (.ireturn, 1) := by decide +kernel
theorem dX3_indexOfCouple_39 : decode cX3_indexOfCouple 39 = .ok (.aload_n 0, 1) := by decide +kernel
theorem dX3_indexOfCouple_40 : decode cX3_indexOfCouple 40 = .ok (.getfield 79, 3) := by decide +kernel
theorem dX3_indexOfCouple_43 : decode cX3_indexOfCouple 43 = .ok (.istore_n 3, 1) := by decide +kernel
theorem dX3_indexOfCouple_44 : decode cX3_indexOfCouple 44 = .ok (.aload_n 0, 1) := by decide +kernel
theorem dX3_indexOfCouple_45 : decode cX3_indexOfCouple 45 = .ok (.dup, 1) := by decide +kernel
theorem dX3_indexOfCouple_46 : decode cX3_indexOfCouple 46 = .ok (.getfield 79, 3) := by decide +kernel
theorem dX3_indexOfCouple_49 : decode cX3_indexOfCouple 49 = .ok (.iconst 1, 1) := by decide +kernel
theorem dX3_indexOfCouple_50 : decode cX3_indexOfCouple 50 = .ok (.iadd, 1) := by decide +kernel
theorem dX3_indexOfCouple_51 : decode cX3_indexOfCouple 51 = .ok (.putfield 79, 3) := by decide +kernel
theorem dX3_indexOfCouple_54 : decode cX3_indexOfCouple 54 = .ok (.aload_n 0, 1) := by decide +kernel
theorem dX3_indexOfCouple_55 : decode cX3_indexOfCouple 55 = .ok (.getfield 24, 3) := by decide +kernel
theorem dX3_indexOfCouple_58 : decode cX3_indexOfCouple 58 = .ok (.iload_n 3, 1) := by decide +kernel
theorem dX3_indexOfCouple_59 : decode cX3_indexOfCouple 59 = .ok (.iload_n 2, 1) := by decide +kernel
theorem dX3_indexOfCouple_60 : decode cX3_indexOfCouple 60 = .ok (.iastore, 1) := by decide +kernel
theorem dX3_indexOfCouple_61 : decode cX3_indexOfCouple 61 = .ok (.aload_n 0, 1) := by decide +kernel
theorem dX3_indexOfCouple_62 : decode cX3_indexOfCouple 62 = .ok (.getfield 27, 3) := by decide +kernel
theorem dX3_indexOfCouple_65 : decode cX3_indexOfCouple 65 = .ok (.iload_n 3, 1) := by decide +kernel
theorem dX3_indexOfCouple_66 : decode cX3_indexOfCouple 66 = .ok (.aload_n 1, 1) := by decide +kernel
theorem dX3_indexOfCouple_67 : decode cX3_indexOfCouple 67 = .ok (.iload_n 2, 1) := by decide +kernel
theorem dX3_indexOfCouple_68 : decode cX3_indexOfCouple 68 = .ok (.invokevirtual 93, 3) := by decide +kernel
theorem dX3_indexOfCouple_71 : decode cX3_indexOfCouple 71 = .ok (.iastore, 1) := by decide +kernel
theorem dX3_indexOfCouple_72 : decode cX3_indexOfCouple 72 = .ok (.aload_n 0, 1) := by decide +kernel
theorem dX3_indexOfCouple_73 : decode cX3_indexOfCouple 73 = .ok (.getfield 30, 3) := by decide +kernel
theorem dX3_indexOfCouple_76 : decode cX3_indexOfCouple 76 = .ok (.iload_n 3, 1) := by decide +kernel
theorem dX3_indexOfCouple_77 : decode cX3_indexOfCouple 77 = .ok (.aload_n 1, 1) := by decide +kernel
theorem dX3_indexOfCouple_78 : decode cX3_indexOfCouple 78 = .ok (.iload_n 2, 1) := by decide +kernel
theorem dX3_indexOfCouple_79 : decode cX3_indexOfCouple 79 = .ok (.invokevirtual 96, 3) := by decide +kernel
theorem dX3_indexOfCouple_82 : decode cX3_indexOfCouple 82 = .ok (.iastore, 1) := by decide +kernel
theorem dX3_indexOfCouple_83 : decode cX3_indexOfCouple 83 = .ok (.iload_n 3, 1) := by decide +kernel
theorem dX3_indexOfCouple_84 : decode cX3_indexOfCouple 84 = .ok (.ireturn, 1) := by decide +kernel
theorem dX3_noteLinesFrom_0 : decode cX3_noteLinesFrom 0 = .ok (.iconst 0, 1) := by decide +kernel
theorem dX3_noteLinesFrom_1 : decode cX3_noteLinesFrom 1 = .ok (.istore_n 2, 1) := by decide +kernel
theorem dX3_noteLinesFrom_2 : decode cX3_noteLinesFrom 2 = .ok (.iload_n 2, 1) := by decide +kernel
theorem dX3_noteLinesFrom_3 : decode cX3_noteLinesFrom 3 = .ok (.aload_n 0, 1) := by decide +kernel
theorem dX3_noteLinesFrom_4 : decode cX3_noteLinesFrom 4 = .ok (.getfield 79, 3) := by decide +kernel
theorem dX3_noteLinesFrom_7 : decode cX3_noteLinesFrom 7 = .ok (.if_icmp .ge 34, 3) := by decide +kernel
theorem dX3_noteLinesFrom_10 : decode cX3_noteLinesFrom 10 = .ok (.iconst 0, 1) := by decide +kernel
theorem dX3_noteLinesFrom_11 : decode cX3_noteLinesFrom 11 = .ok (.istore_n 3, 1) := by decide +kernel
theorem dX3_noteLinesFrom_12 : decode cX3_noteLinesFrom 12 = .ok (.iload_n 3, 1) := by decide +kernel
theorem dX3_noteLinesFrom_13 : decode cX3_noteLinesFrom 13 = .ok (.aload_n 0, 1) := by decide +kernel
theorem dX3_noteLinesFrom_14 : decode cX3_noteLinesFrom 14 = .ok (.getfield 79, 3) := by decide +kernel
theorem dX3_noteLinesFrom_17 : decode cX3_noteLinesFrom 17 = .ok (.if_icmp .ge 18, 3) := by decide +kernel
theorem dX3_noteLinesFrom_20 : decode cX3_noteLinesFrom 20 = .ok (.aload_n 0, 1) := by decide +kernel
theorem dX3_noteLinesFrom_21 : decode cX3_noteLinesFrom 21 = .ok (.getfield 41, 3) := by decide +kernel
theorem dX3_noteLinesFrom_24 : decode cX3_noteLinesFrom 24 = .ok (.iload_n 2, 1) := by decide +kernel
theorem dX3_noteLinesFrom_25 : decode cX3_noteLinesFrom 25 = .ok (.aaload, 1) := by decide +kernel
theorem dX3_noteLinesFrom_26 : decode cX3_noteLinesFrom 26 = .ok (.iload_n 3, 1) := by decide +kernel
theorem dX3_noteLinesFrom_27 : decode cX3_noteLinesFrom 27 = .ok (.iconst 0, 1) := by decide +kernel
theorem dX3_noteLinesFrom_28 : decode cX3_noteLinesFrom 28 = .ok (.iastore, 1) := by decide +kernel
theorem dX3_noteLinesFrom_29 : decode cX3_noteLinesFrom 29 = .ok (.iinc 3 1, 3) := by decide +kernel
theorem dX3_noteLinesFrom_32 : decode cX3_noteLinesFrom 32 = .ok (.goto (-20), 3) := by decide +kernel
theorem dX3_noteLinesFrom_35 : decode cX3_noteLinesFrom 35 = .ok (.iinc 2 1, 3) := by decide +kernel
theorem dX3_noteLinesFrom_38 : decode cX3_noteLinesFrom 38 = .ok (.goto (-36), 3) := by decide +kernel
theorem dX3_noteLinesFrom_41 : decode cX3_noteLinesFrom 41 = .ok (.iconst 0, 1) := by decide +kernel
theorem dX3_noteLinesFrom_42 : decode cX3_noteLinesFrom 42 = .ok (.istore_n 2, 1) := by decide +kernel
theorem dX3_noteLinesFrom_43 : decode cX3_noteLinesFrom 43 = .ok (.iload_n 2, 1) := by decide +kernel
theorem dX3_noteLinesFrom_44 : decode cX3_noteLinesFrom 44 = .ok (.iload_n 1, 1) := by decide +kernel
theorem dX3_noteLinesFrom_45 : decode cX3_noteLinesFrom 45 = .ok (.if_icmp .ge 66, 3) := by decide +kernel
theorem dX3_noteLinesFrom_48 : decode cX3_noteLinesFrom 48 = .ok (.iload_n 2, 1) := by decide +kernel
theorem dX3_noteLinesFrom_49 : decode cX3_noteLinesFrom 49 = .ok (.iconst 1, 1) := by decide +kernel
theorem dX3_noteLinesFrom_50 : decode cX3_noteLinesFrom 50 = .ok (.iadd, 1) := by decide +kernel
theorem dX3_noteLinesFrom_51 : decode cX3_noteLinesFrom 51 = .ok (.istore_n 3, 1) := by decide +kernel
theorem dX3_noteLinesFrom_52 : decode cX3_noteLinesFrom 52 = .ok (.iload_n 3, 1) := by decide +kernel
theorem dX3_noteLinesFrom_53 : decode cX3_noteLinesFrom 53 = .ok (.iload_n 1, 1) := by decide +kernel
theorem dX3_noteLinesFrom_54 : decode cX3_noteLinesFrom 54 = .ok (.if_icmp .ge 51, 3) := by decide +kernel
theorem dX3_noteLinesFrom_57 : decode cX3_noteLinesFrom 57 = .ok (.aload_n 0, 1) := by decide +kernel
theorem dX3_noteLinesFrom_58 : decode cX3_noteLinesFrom 58 = .ok (.getfield 36, 3) := by decide +kernel
theorem dX3_noteLinesFrom_61 : decode cX3_noteLinesFrom 61 = .ok (.iload_n 2, 1) := by decide +kernel
theorem dX3_noteLinesFrom_62 : decode cX3_noteLinesFrom 62 = .ok (.iaload, 1) := by decide +kernel
theorem dX3_noteLinesFrom_63 : decode cX3_noteLinesFrom 63 = .ok (.iconst (-1), 1) := by decide +kernel
theorem dX3_noteLinesFrom_64 : decode cX3_noteLinesFrom 64 = .ok (.if_icmp .eq 35, 3) := by decide +kernel
theorem dX3_noteLinesFrom_67 : decode cX3_noteLinesFrom 67 = .ok (.aload_n 0, 1) := by decide +kernel
theorem dX3_noteLinesFrom_68 : decode cX3_noteLinesFrom 68 = .ok (.getfield 36, 3) := by decide +kernel
theorem dX3_noteLinesFrom_71 : decode cX3_noteLinesFrom 71 = .ok (.iload_n 3, 1) := by decide +kernel
theorem dX3_noteLinesFrom_72 : decode cX3_noteLinesFrom 72 = .ok (.iaload, 1) := by decide +kernel
theorem dX3_noteLinesFrom_73 : decode cX3_noteLinesFrom 73 = .ok (.iconst (-1), 1) := by decide +kernel
theorem dX3_noteLinesFrom_74 : decode cX3_noteLinesFrom 74 = .ok (.if_icmp .eq 25, 3) := by decide +kernel
theorem dX3_noteLinesFrom_77 : decode cX3_noteLinesFrom 77 = .ok (.aload_n 0, 1) := by decide +kernel
theorem dX3_noteLinesFrom_78 : decode cX3_noteLinesFrom 78 = .ok (.getfield 41, 3) := by decide +kernel
theorem dX3_noteLinesFrom_81 : decode cX3_noteLinesFrom 81 = .ok (.aload_n 0, 1) := by decide +kernel
theorem dX3_noteLinesFrom_82 : decode cX3_noteLinesFrom 82 = .ok (.getfield 36, 3) := by decide +kernel
theorem dX3_noteLinesFrom_85 : decode cX3_noteLinesFrom 85 = .ok (.iload_n 3, 1) := by decide +kernel
theorem dX3_noteLinesFrom_86 : decode cX3_noteLinesFrom 86 = .ok (.iaload, 1) := by decide +kernel
theorem dX3_noteLinesFrom_87 : decode cX3_noteLinesFrom 87 = .ok (.aaload, 1) := by decide +kernel
theorem dX3_noteLinesFrom_88 : decode cX3_noteLinesFrom 88 = .ok (.aload_n 0, 1) := by decide +kernel
theorem dX3_noteLinesFrom_89 : decode cX3_noteLinesFrom 89 = .ok (.getfield 36, 3) := by decide +kernel
theorem dX3_noteLinesFrom_92 : decode cX3_noteLinesFrom 92 = .ok (.iload_n 2, 1) := by decide +kernel
theorem dX3_noteLinesFrom_93 : decode cX3_noteLinesFrom 93 = .ok (.iaload, 1) := by decide +kernel
theorem dX3_noteLinesFrom_94 : decode cX3_noteLinesFrom 94 = .ok (.dup2, 1) := by decide +kernel
theorem dX3_noteLinesFrom_95 : decode cX3_noteLinesFrom 95 = .ok (.iaload, 1) := by decide +kernel
theorem dX3_noteLinesFrom_96 : decode cX3_noteLinesFrom 96 = .ok (.iconst 1, 1) := by decide +kernel
theorem dX3_noteLinesFrom_97 : decode cX3_noteLinesFrom 97 = .ok (.iadd, 1) := by decide +kernel
theorem dX3_noteLinesFrom_98 : decode cX3_noteLinesFrom 98 = .ok (.iastore, 1) := by decide +kernel
theorem dX3_noteLinesFrom_99 : decode cX3_noteLinesFrom 99 = .ok (.iinc 3 1, 3) := by decide +kernel
theorem dX3_noteLinesFrom_102 : decode cX3_noteLinesFrom 102 = .ok (.goto (-50), 3) := by decide +kernel
theorem dX3_noteLinesFrom_105 : decode cX3_noteLinesFrom 105 = .ok (.iinc 2 1, 3) := by decide +kernel
theorem dX3_noteLinesFrom_108 : decode cX3_noteLinesFrom 108 = .ok (.goto (-65), 3) := by decide +kernel
theorem dX3_noteLinesFrom_111 : decode cX3_noteLinesFrom 111 = .ok (.return_, 1) := by decide +kernel
set_option maxRecDepth 20000 in
theorem ggX3_leastByAllOrders_X3_crossingsOfFirst : GoodIn wsX3_leastByAllOrders wsX3_crossingsOfFirst := goodIn_r _ [13, 3, 14, 15, 16, 17, 18, 19, 20, 21, 22, 23, 24, 25, 12, 26, 27, 28, 29, 30, 31, 40, 41, 42, 43, 44, 45, 46, 47, 48, 49, 50, 51, 52] (by decide +kernel) (by decide +kernel)
set_option maxRecDepth 20000 in
theorem gX3_leastByAllOrders_X3_crossingsOfFirst : GoodIn wsX3_leastByAllOrders (wsV RX3 102 RX3 yX3_crossingsOfFirst wsX3_crossingsOfFirst) := goodIn_app (goodIn_of _ (by decide +kernel)) ggX3_leastByAllOrders_X3_crossingsOfFirst
set_option maxRecDepth 20000 in
theorem ggX3_leastByAllOrders_X3_goToNextOrder : GoodIn wsX3_leastByAllOrders wsX3_goToNextOrder := goodIn_r _ [35, 2, 3, 36, 37, 38, 12, 39, 40, 41, 42, 43, 44, 45, 46, 47, 48, 49, 50, 51, 52] (by decide +kernel) (by decide +kernel)
set_option maxRecDepth 20000 in
theorem gX3_leastByAllOrders_X3_goToNextOrder : GoodIn wsX3_leastByAllOrders (wsV RX3 111 RX3 yX3_goToNextOrder wsX3_goToNextOrder) := goodIn_app (goodIn_of _ (by decide +kernel)) ggX3_leastByAllOrders_X3_goToNextOrder
theorem dX3_leastByAllOrders_0 : decode cX3_leastByAllOrders 0 = .ok (.aload_n 0, 1) := by decide +kernel
theorem dX3_leastByAllOrders_1 : decode cX3_leastByAllOrders 1 = .ok (.sipush 1000, 3) := by decide +kernel
