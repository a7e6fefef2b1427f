set_option maxRecDepth 20000 in
theorem ggX8_isDone_X8_marryNow : GoodIn wsX8_isDone wsX8_marryNow := goodIn_r _ [16, 9, 17, 18, 19, 7, 20, 21, 22, 23, 24, 25, 26, 27, 28, 29, 30, 31, 32, 33, 34, 35, 36, 37, 38, 39, 40, 53, 54, 55, 56, 57, 58, 59, 60, 61, 62, 63, 64, 65, 66, 67, 68, 69, 70, 71, 72, 73] (by decide +kernel) (by decide +kernel)
set_option maxRecDepth 20000 in
theorem gX8_isDone_X8_marryNow : GoodIn wsX8_isDone (wsV RX8 101 RX8 yX8_marryNow wsX8_marryNow) := goodIn_app (goodIn_of _ (by decide +kernel)) ggX8_isDone_X8_marryNow
set_option maxRecDepth 20000 in
theorem ggX8_isDone_X8_isCouple : GoodIn wsX8_isDone wsX8_isCouple := goodIn_r _ [44, 9, 10, 11, 7, 12, 53, 54, 55, 56, 57, 58, 59, 60, 61, 62, 63, 64, 65, 66, 67, 68, 69, 70, 71, 72, 73] (by decide +kernel) (by decide +kernel)
set_option maxRecDepth 20000 in
theorem gX8_isDone_X8_isCouple : GoodIn wsX8_isDone (wsV RX8 104 RX8 yX8_isCouple wsX8_isCouple) := goodIn_app (goodIn_of _ (by decide +kernel)) ggX8_isDone_X8_isCouple
set_option maxRecDepth 20000 in
theorem ggX8_isDone_X8_childNow : GoodIn wsX8_isDone wsX8_childNow := goodIn_r _ [48, 29, 30, 31, 7, 32, 9, 21, 22, 23, 24, 49, 50, 51, 52, 53, 54, 55, 56, 57, 58, 59, 60, 61, 62, 63, 64, 65, 66, 67, 68, 69, 70, 71, 72, 73] (by decide +kernel) (by decide +kernel)
set_option maxRecDepth 20000 in
theorem gX8_isDone_X8_childNow : GoodIn wsX8_isDone (wsV RX8 107 RX8 yX8_childNow wsX8_childNow) := goodIn_app (goodIn_of _ (by decide +kernel)) ggX8_isDone_X8_childNow
set_option maxRecDepth 20000 in
theorem ggX8_isDone_X8_personNow : GoodIn wsX8_isDone wsX8_personNow := goodIn_r _ [52, 9, 53, 54, 55, 56, 57, 58, 59, 60, 61, 62, 63, 64, 65, 66, 67, 68, 69, 70, 71, 72, 73] (by decide +kernel) (by decide +kernel)
set_option maxRecDepth 20000 in
theorem gX8_isDone_X8_personNow : GoodIn wsX8_isDone (wsV RX8 91 RX8 yX8_personNow wsX8_personNow) := goodIn_app (goodIn_of _ (by decide +kernel)) ggX8_isDone_X8_personNow
theorem dX8_isDone_0 : decode cX8_isDone 0 = .ok (.aload_n 0, 1) := by decide +kernel
theorem dX8_isDone_1 : decode cX8_isDone 1 = .ok (.getfield 41, 3) := by decide +kernel
theorem dX8_isDone_4 : decode cX8_isDone 4 = .ok (.iload_n 1, 1) := by decide +kernel
theorem dX8_isDone_5 : decode cX8_isDone 5 = .ok (.iaload, 1) := by decide +kernel
theorem dX8_isDone_6 : decode cX8_isDone 6 = .ok (.bipush 43, 2) := by decide +kernel
theorem dX8_isDone_8 : decode cX8_isDone 8 = .ok (.if_icmp .ne 71, 3) := by decide +kernel
theorem dX8_isDone_11 : decode cX8_isDone 11 = .ok (.aload_n 0, 1) := by decide +kernel
theorem dX8_isDone_12 : decode cX8_isDone 12 = .ok (.aload_n 0, 1) := by decide +kernel
theorem dX8_isDone_13 : decode cX8_isDone 13 = .ok (.getfield 44, 3) := by decide +kernel
theorem dX8_isDone_16 : decode cX8_isDone 16 = .ok (.iload_n 1, 1) := by decide +kernel
theorem dX8_isDone_17 : decode cX8_isDone 17 = .ok (.iaload, 1) := by decide +kernel
theorem dX8_isDone_18 : decode cX8_isDone 18 = .ok (.invokevirtual 98, 3) := by decide +kernel
theorem dX8_isDone_21 : decode cX8_isDone 21 = .ok (.ifCond .eq 56, 3) := by decide +kernel
theorem dX8_isDone_24 : decode cX8_isDone 24 = .ok (.aload_n 0, 1) := by decide +kernel
theorem dX8_isDone_25 : decode cX8_isDone 25 = .ok (.aload_n 0, 1) := by decide +kernel
theorem dX8_isDone_26 : decode cX8_isDone 26 = .ok (.getfield 47, 3) := by decide +kernel
theorem dX8_isDone_29 : decode cX8_isDone 29 = .ok (.iload_n 1, 1) := by decide +kernel
theorem dX8_isDone_30 : decode cX8_isDone 30 = .ok (.iaload, 1) := by decide +kernel
theorem dX8_isDone_31 : decode cX8_isDone 31 = .ok (.invokevirtual 98, 3) := by decide +kernel
theorem dX8_isDone_34 : decode cX8_isDone 34 = .ok (.ifCond .eq 43, 3) := by decide +kernel
theorem dX8_isDone_37 : decode cX8_isDone 37 = .ok (.aload_n 0, 1) := by decide +kernel
theorem dX8_isDone_38 : decode cX8_isDone 38 = .ok (.getfield 44, 3) := by decide +kernel
theorem dX8_isDone_41 : decode cX8_isDone 41 = .ok (.iload_n 1, 1) := by decide +kernel
theorem dX8_isDone_42 : decode cX8_isDone 42 = .ok (.iaload, 1) := by decide +kernel
theorem dX8_isDone_43 : decode cX8_isDone 43 = .ok (.aload_n 0, 1) := by decide +kernel
theorem dX8_isDone_44 : decode cX8_isDone 44 = .ok (.getfield 47, 3) := by decide +kernel
theorem dX8_isDone_47 : decode cX8_isDone 47 = .ok (.iload_n 1, 1) := by decide +kernel
theorem dX8_isDone_48 : decode cX8_isDone 48 = .ok (.iaload, 1) := by decide +kernel
theorem dX8_isDone_49 : decode cX8_isDone 49 = .ok (.if_icmp .eq 28, 3) := by decide +kernel
theorem dX8_isDone_52 : decode cX8_isDone 52 = .ok (.aload_n 0, 1) := by decide +kernel
theorem dX8_isDone_53 : decode cX8_isDone 53 = .ok (.aload_n 0, 1) := by decide +kernel
theorem dX8_isDone_54 : decode cX8_isDone 54 = .ok (.getfield 44, 3) := by decide +kernel
theorem dX8_isDone_57 : decode cX8_isDone 57 = .ok (.iload_n 1, 1) := by decide +kernel
theorem dX8_isDone_58 : decode cX8_isDone 58 = .ok (.iaload, 1) := by decide +kernel
theorem dX8_isDone_59 : decode cX8_isDone 59 = .ok (.aload_n 0, 1) := by decide +kernel
theorem dX8_isDone_60 : decode cX8_isDone 60 = .ok (.getfield 47, 3) := by decide +kernel
theorem dX8_isDone_63 : decode cX8_isDone 63 = .ok (.iload_n 1, 1) := by decide +kernel
theorem dX8_isDone_64 : decode cX8_isDone 64 = .ok (.iaload, 1) := by decide +kernel
theorem dX8_isDone_65 : decode cX8_isDone 65 = .ok (.invokevirtual 101, 3) := by decide +kernel
theorem dX8_isDone_68 : decode cX8_isDone 68 = .ok (.bipush 9, 2) := by decide +kernel
theorem dX8_isDone_70 : decode cX8_isDone 70 = .ok (.if_icmp .le 7, 3) := by decide +kernel
theorem dX8_isDone_73 : decode cX8_isDone 73 = .ok (.iconst 1, 1) := by decide +kernel
theorem dX8_isDone_74 : decode cX8_isDone 74 = .ok (.goto 4, 3) := by decide +kernel
theorem dX8_isDone_77 : decode cX8_isDone 77 = .ok (.iconst 0, 1) := by decide +kernel
theorem dX8_isDone_78 : decode cX8_isDone 78 = .ok (.ireturn, 1) := by decide +kernel
theorem dX8_isDone_79 : decode cX8_isDone 79 = .ok (.aload_n 0, 1) := by decide +kernel
theorem dX8_isDone_80 : decode cX8_isDone 80 = .ok (.getfield 41, 3) := by decide +kernel
theorem dX8_isDone_83 : decode cX8_isDone 83 = .ok (.iload_n 1, 1) := by decide +kernel
theorem dX8_isDone_84 : decode cX8_isDone 84 = .ok (.iaload, 1) := by decide +kernel
theorem dX8_isDone_85 : decode cX8_isDone 85 = .ok (.bipush 94, 2) := by decide +kernel
theorem dX8_isDone_87 : decode cX8_isDone 87 = .ok (.if_icmp .ne 36, 3) := by decide +kernel
theorem dX8_isDone_90 : decode cX8_isDone 90 = .ok (.aload_n 0, 1) := by decide +kernel
theorem dX8_isDone_91 : decode cX8_isDone 91 = .ok (.aload_n 0, 1) := by decide +kernel
theorem dX8_isDone_92 : decode cX8_isDone 92 = .ok (.getfield 44, 3) := by decide +kernel
theorem dX8_isDone_95 : decode cX8_isDone 95 = .ok (.iload_n 1, 1) := by decide +kernel
theorem dX8_isDone_96 : decode cX8_isDone 96 = .ok (.iaload, 1) := by decide +kernel
theorem dX8_isDone_97 : decode cX8_isDone 97 = .ok (.invokevirtual 104, 3) := by decide +kernel
theorem dX8_isDone_100 : decode cX8_isDone 100 = .ok (.ifCond .eq 21, 3) := by decide +kernel
theorem dX8_isDone_103 : decode cX8_isDone 103 = .ok (.aload_n 0, 1) := by decide +kernel
theorem dX8_isDone_104 : decode cX8_isDone 104 = .ok (.aload_n 0, 1) := by decide +kernel
theorem dX8_isDone_105 : decode cX8_isDone 105 = .ok (.getfield 44, 3) := by decide +kernel
theorem dX8_isDone_108 : decode cX8_isDone 108 = .ok (.iload_n 1, 1) := by decide +kernel
theorem dX8_isDone_109 : decode cX8_isDone 109 = .ok (.iaload, 1) := by decide +kernel
theorem dX8_isDone_110 : decode cX8_isDone 110 = .ok (.invokevirtual 107, 3) := by decide +kernel
theorem dX8_isDone_113 : decode cX8_isDone 113 = .ok (.iconst (-1), 1) := by decide +kernel
theorem dX8_isDone_114 : decode cX8_isDone 114 = .ok (.if_icmp .eq 7, 3) := by decide +kernel
theorem dX8_isDone_117 : decode cX8_isDone 117 = .ok (.iconst 1, 1) := by decide +kernel
theorem dX8_isDone_118 : decode cX8_isDone 118 = .ok (.goto 4, 3) := by decide +kernel
theorem dX8_isDone_121 : decode cX8_isDone 121 = .ok (.iconst 0, 1) := by decide +kernel
theorem dX8_isDone_122 : decode cX8_isDone 122 = .ok (.ireturn, 1) := by decide +kernel
theorem dX8_isDone_123 : decode cX8_isDone 123 = .ok (.aload_n 0, 1) := by decide +kernel
theorem dX8_isDone_124 : decode cX8_isDone 124 = .ok (.aload_n 0, 1) := by decide +kernel
theorem dX8_isDone_125 : decode cX8_isDone 125 = .ok (.getfield 41, 3) := by decide +kernel
theorem dX8_isDone_128 : decode cX8_isDone 128 = .ok (.iload_n 1, 1) := by decide +kernel
theorem dX8_isDone_129 : decode cX8_isDone 129 = .ok (.iaload, 1) := by decide +kernel
theorem dX8_isDone_130 : decode cX8_isDone 130 = .ok (.bipush 48, 2) := by decide +kernel
theorem dX8_isDone_132 : decode cX8_isDone 132 = .ok (.isub, 1) := by decide +kernel
theorem dX8_isDone_133 : decode cX8_isDone 133 = .ok (.iconst (-1), 1) := by decide +kernel
theorem dX8_isDone_134 : decode cX8_isDone 134 = .ok (.invokevirtual 91, 3) := by decide +kernel
theorem dX8_isDone_137 : decode cX8_isDone 137 = .ok (.iconst (-1), 1) := by decide +kernel
theorem dX8_isDone_138 : decode cX8_isDone 138 = .ok (.if_icmp .eq 7, 3) := by decide +kernel
theorem dX8_isDone_141 : decode cX8_isDone 141 = .ok (.iconst 1, 1) := by decide +kernel
theorem dX8_isDone_142 : decode cX8_isDone 142 = .ok (.goto 4, 3) := by decide +kernel
theorem dX8_isDone_145 : decode cX8_isDone 145 = .ok (.iconst 0, 1) := by decide +kernel
theorem dX8_isDone_146 : decode cX8_isDone 146 = .ok (.ireturn, 1) := by decide +kernel
set_option maxRecDepth 20000 in
theorem ggX8_run_X8_isChronicle : GoodIn wsX8_run wsX8_isChronicle := goodIn_r _ [8, 9, 2, 3, 10, 11, 12, 7, 13, 14, 15, 16, 17, 18, 19, 20, 21, 22, 23, 24, 25, 26, 27, 28, 29, 30, 31, 32, 33, 34, 35, 36, 37, 97, 98, 99, 100, 101, 102, 103, 104, 105, 106, 107, 108, 109, 110, 111, 112, 113, 114, 115, 116, 117] (by decide +kernel) (by decide +kernel)
set_option maxRecDepth 20000 in
theorem gX8_run_X8_isChronicle : GoodIn wsX8_run (wsV RX8 189 RX8 yX8_isChronicle wsX8_isChronicle) := goodIn_app (goodIn_of _ (by decide +kernel)) ggX8_run_X8_isChronicle
set_option maxRecDepth 20000 in
theorem ggX8_run_X8_fails : GoodIn wsX8_run wsX8_fails := goodIn_r _ [41, 1, 97, 98, 99, 100, 101, 102, 103, 104, 105, 106, 107, 108, 109, 110, 111, 112, 113, 114, 115, 116, 117] (by decide +kernel) (by decide +kernel)
set_option maxRecDepth 20000 in
theorem gX8_run_X8_fails : GoodIn wsX8_run (wsV RX8 69 RX8 yX8_fails wsX8_fails) := goodIn_app (goodIn_of _ (by decide +kernel)) ggX8_run_X8_fails
set_option maxRecDepth 20000 in
theorem ggX8_run_X8_save : GoodIn wsX8_run wsX8_save := goodIn_r _ [45, 46, 47, 48, 97, 98, 99, 100, 101, 102, 103, 104, 105, 106, 107, 108, 109, 110, 111, 112, 113, 114, 115, 116, 117] (by decide +kernel) (by decide +kernel)
set_option maxRecDepth 20000 in
theorem gX8_run_X8_save : GoodIn wsX8_run (wsV RX8 72 RX8 yX8_save wsX8_save) := goodIn_app (goodIn_of _ (by decide +kernel)) ggX8_run_X8_save
set_option maxRecDepth 20000 in
theorem ggX8_run_X8_isDone : GoodIn wsX8_run wsX8_isDone := goodIn_r _ [52, 15, 14, 29, 53, 54, 55, 7, 56, 48, 21, 22, 23, 57, 58, 59, 60, 61, 62, 63, 64, 65, 66, 67, 68, 69, 70, 71, 72, 73, 74, 75, 76, 77, 78, 79, 80, 81, 82, 83, 84, 85, 86, 87, 88, 89, 90, 91, 92, 93, 94, 95, 96, 97, 98, 99, 100, 101, 102, 103, 104, 105, 106, 107, 108, 109, 110, 111, 112, 113, 114, 115, 116, 117] (by decide +kernel) (by decide +kernel)
set_option maxRecDepth 20000 in
theorem gX8_run_X8_isDone : GoodIn wsX8_run (wsV RX8 192 RX8 yX8_isDone wsX8_isDone) := goodIn_app (goodIn_of _ (by decide +kernel)) ggX8_run_X8_isDone
theorem dX8_run_0 : decode cX8_run 0 = .ok (.aload_n 0, 1) := by decide +kernel
theorem dX8_run_1 : decode cX8_run 1 = .ok (.iconst 0, 1) := by decide +kernel
theorem dX8_run_2 : decode cX8_run 2 = .ok (.putfield 50, 3) := by decide +kernel
theorem dX8_run_5 : decode cX8_run 5 = .ok (.aload_n 0, 1) := by decide +kernel
theorem dX8_run_6 : decode cX8_run 6 = .ok (.invokevirtual 189, 3) := by decide +kernel
theorem dX8_run_9 : decode cX8_run 9 = .ok (.ifCond .ne 9, 3) := by decide +kernel
theorem dX8_run_12 : decode cX8_run 12 = .ok (.aload_n 0, 1) := by decide +kernel
theorem dX8_run_13 : decode cX8_run 13 = .ok (.iconst 1, 1) := by decide +kernel
theorem dX8_run_14 : decode cX8_run 14 = .ok (.invokevirtual 69, 3) := by decide +kernel
theorem dX8_run_17 : decode cX8_run 17 = .ok (.ireturn, 1) := by decide +kernel
theorem dX8_run_18 : decode cX8_run 18 = .ok (.aload_n 0, 1) := by decide +kernel
theorem dX8_run_19 : decode cX8_run 19 = .ok (.invokevirtual 72, 3) := by decide +kernel
theorem dX8_run_22 : decode cX8_run 22 = .ok (.iconst 0, 1) := by decide +kernel
theorem dX8_run_23 : decode cX8_run 23 = .ok (.istore_n 1, 1) := by decide +kernel
theorem dX8_run_24 : decode cX8_run 24 = .ok (.iload_n 1, 1) := by decide +kernel
theorem dX8_run_25 : decode cX8_run 25 = .ok (.aload_n 0, 1) := by decide +kernel
theorem dX8_run_26 : decode cX8_run 26 = .ok (.getfield 177, 3) := by decide +kernel
theorem dX8_run_29 : decode cX8_run 29 = .ok (.if_icmp .ge 17, 3) := by decide +kernel
theorem dX8_run_32 : decode cX8_run 32 = .ok (.aload_n 0, 1) := by decide +kernel
theorem dX8_run_33 : decode cX8_run 33 = .ok (.iload_n 1, 1) := by decide +kernel
theorem dX8_run_34 : decode cX8_run 34 = .ok (.invokevirtual 192, 3) := by decide +kernel
theorem dX8_run_37 : decode cX8_run 37 = .ok (.ifCond .eq 9, 3) := by decide +kernel
theorem dX8_run_40 : decode cX8_run 40 = .ok (.iinc 1 1, 3) := by decide +kernel
theorem dX8_run_43 : decode cX8_run 43 = .ok (.goto (-19), 3) := by decide +kernel
theorem dX8_run_46 : decode cX8_run 46 = .ok (.aload_n 0, 1) := by decide +kernel
theorem dX8_run_47 : decode cX8_run 47 = .ok (.iconst 0, 1) := by decide +kernel
theorem dX8_run_48 : decode cX8_run 48 = .ok (.putfield 161, 3) := by decide +kernel
theorem dX8_run_51 : decode cX8_run 51 = .ok (.iload_n 1, 1) := by decide +kernel
theorem dX8_run_52 : decode cX8_run 52 = .ok (.ireturn, 1) := by decide +kernel
set_option maxRecDepth 20000 in
theorem ggX8_parentSet_X8_parentsOf : GoodIn wsX8_parentSet wsX8_parentsOf := goodIn_r _ [6, 1, 15, 16, 17, 18, 19, 20, 21, 22, 23, 24, 25, 26, 27, 28, 29, 30, 31, 32, 33, 34, 35] (by decide +kernel) (by decide +kernel)
set_option maxRecDepth 20000 in
theorem gX8_parentSet_X8_parentsOf : GoodIn wsX8_parentSet (wsV RX8 116 RX8 yX8_parentsOf wsX8_parentsOf) := goodIn_app (goodIn_of _ (by decide +kernel)) ggX8_parentSet_X8_parentsOf
set_option maxRecDepth 20000 in
theorem ggX8_parentSet_X8_one : GoodIn wsX8_parentSet wsX8_one := goodIn_r _ [10, 1, 15, 16, 17, 18, 19, 20, 21, 22, 23, 24, 25, 26, 27, 28, 29, 30, 31, 32, 33, 34, 35] (by decide +kernel) (by decide +kernel)
set_option maxRecDepth 20000 in
theorem gX8_parentSet_X8_one : GoodIn wsX8_parentSet (wsV RX8 75 RX8 yX8_one wsX8_one) := goodIn_app (goodIn_of _ (by decide +kernel)) ggX8_parentSet_X8_one
set_option maxRecDepth 20000 in
theorem ggX8_parentSet_X8_other : GoodIn wsX8_parentSet wsX8_other := goodIn_r _ [14, 1, 15, 16, 17, 18, 19, 20, 21, 22, 23, 24, 25, 26, 27, 28, 29, 30, 31, 32, 33, 34, 35] (by decide +kernel) (by decide +kernel)
set_option maxRecDepth 20000 in
theorem gX8_parentSet_X8_other : GoodIn wsX8_parentSet (wsV RX8 78 RX8 yX8_other wsX8_other) := goodIn_app (goodIn_of _ (by decide +kernel)) ggX8_parentSet_X8_other
theorem dX8_parentSet_0 : decode cX8_parentSet 0 = .ok (.iconst 0, 1) := by decide +kernel
theorem dX8_parentSet_1 : decode cX8_parentSet 1 = .ok (.istore_n 2, 1) := by decide +kernel
theorem dX8_parentSet_2 : decode cX8_parentSet 2 = .ok (.iconst 0, 1) := by decide +kernel
theorem dX8_parentSet_3 : decode cX8_parentSet 3 = .ok (.istore_n 3, 1) := by decide +kernel
theorem dX8_parentSet_4 : decode cX8_parentSet 4 = .ok (.iload_n 3, 1) := by decide +kernel
theorem dX8_parentSet_5 : decode cX8_parentSet 5 = .ok (.aload_n 0, 1) := by decide +kernel
theorem dX8_parentSet_6 : decode cX8_parentSet 6 = .ok (.getfield 7, 3) := by decide +kernel
theorem dX8_parentSet_9 : decode cX8_parentSet 9 = .ok (.iconst 0, 1) := by decide +kernel
theorem dX8_parentSet_10 : decode cX8_parentSet 10 = .ok (.iaload, 1) := by decide +kernel
theorem dX8_parentSet_11 : decode cX8_parentSet 11 = .ok (.if_icmp .ge 55, 3) := by decide +kernel
theorem dX8_parentSet_14 : decode cX8_parentSet 14 = .ok (.aload_n 0, 1) := by decide +kernel
theorem dX8_parentSet_15 : decode cX8_parentSet 15 = .ok (.iload_n 3, 1) := by decide +kernel
theorem dX8_parentSet_16 : decode cX8_parentSet 16 = .ok (.invokevirtual 116, 3) := by decide +kernel
theorem dX8_parentSet_19 : decode cX8_parentSet 19 = .ok (.istore 4, 2) := by decide +kernel
theorem dX8_parentSet_21 : decode cX8_parentSet 21 = .ok (.iload_n 2, 1) := by decide +kernel
theorem dX8_parentSet_22 : decode cX8_parentSet 22 = .ok (.iload_n 1, 1) := by decide +kernel
theorem dX8_parentSet_23 : decode cX8_parentSet 23 = .ok (.iload_n 3, 1) := by decide +kernel
theorem dX8_parentSet_24 : decode cX8_parentSet 24 = .ok (.ishr, 1) := by decide +kernel
theorem dX8_parentSet_25 : decode cX8_parentSet 25 = .ok (.iconst 1, 1) := by decide +kernel
theorem dX8_parentSet_26 : decode cX8_parentSet 26 = .ok (.iand, 1) := by decide +kernel
theorem dX8_parentSet_27 : decode cX8_parentSet 27 = .ok (.iconst 1, 1) := by decide +kernel
theorem dX8_parentSet_28 : decode cX8_parentSet 28 = .ok (.if_icmp .ne 29, 3) := by decide +kernel
theorem dX8_parentSet_31 : decode cX8_parentSet 31 = .ok (.iload 4, 2) := by decide +kernel
theorem dX8_parentSet_33 : decode cX8_parentSet 33 = .ok (.iconst (-1), 1) := by decide +kernel
theorem dX8_parentSet_34 : decode cX8_parentSet 34 = .ok (.if_icmp .eq 23, 3) := by decide +kernel
theorem dX8_parentSet_37 : decode cX8_parentSet 37 = .ok (.iconst 1, 1) := by decide +kernel
theorem dX8_parentSet_38 : decode cX8_parentSet 38 = .ok (.aload_n 0, 1) := by decide +kernel
theorem dX8_parentSet_39 : decode cX8_parentSet 39 = .ok (.iload 4, 2) := by decide +kernel
theorem dX8_parentSet_41 : decode cX8_parentSet 41 = .ok (.invokevirtual 75, 3) := by decide +kernel
theorem dX8_parentSet_44 : decode cX8_parentSet 44 = .ok (.ishl, 1) := by decide +kernel
theorem dX8_parentSet_45 : decode cX8_parentSet 45 = .ok (.iconst 1, 1) := by decide +kernel
theorem dX8_parentSet_46 : decode cX8_parentSet 46 = .ok (.aload_n 0, 1) := by decide +kernel
theorem dX8_parentSet_47 : decode cX8_parentSet 47 = .ok (.iload 4, 2) := by decide +kernel
theorem dX8_parentSet_49 : decode cX8_parentSet 49 = .ok (.invokevirtual 78, 3) := by decide +kernel
theorem dX8_parentSet_52 : decode cX8_parentSet 52 = .ok (.ishl, 1) := by decide +kernel
theorem dX8_parentSet_53 : decode cX8_parentSet 53 = .ok (.ior, 1) := by decide +kernel
theorem dX8_parentSet_54 : decode cX8_parentSet 54 = .ok (.goto 4, 3) := by decide +kernel
theorem dX8_parentSet_57 : decode cX8_parentSet 57 = .ok (.iconst 0, 1) := by decide +kernel
theorem dX8_parentSet_58 : decode cX8_parentSet 58 = .ok (.ior, 1) := by decide +kernel
theorem dX8_parentSet_59 : decode cX8_parentSet 59 = .ok (.istore_n 2, 1) := by decide +kernel
theorem dX8_parentSet_60 : decode cX8_parentSet 60 = .ok (.iinc 3 1, 3) := by decide +kernel
theorem dX8_parentSet_63 : decode cX8_parentSet 63 = .ok (.goto (-59), 3) := by decide +kernel
theorem dX8_parentSet_66 : decode cX8_parentSet 66 = .ok (.iload_n 2, 1) := by decide +kernel
theorem dX8_parentSet_67 : decode cX8_parentSet 67 = .ok (.ireturn, 1) := by decide +kernel
set_option maxRecDepth 20000 in
theorem ggX8_ancestors_X8_parentSet : GoodIn wsX8_ancestors wsX8_parentSet := goodIn_r _ [5, 6, 7, 8, 9, 4, 10, 11, 12, 13, 14, 15, 16, 17, 18, 19, 20, 21, 22, 23, 24, 25, 26, 27, 28, 29, 30, 31, 32, 33, 34, 35, 36, 37, 38, 39] (by decide +kernel) (by decide +kernel)
set_option maxRecDepth 20000 in
theorem gX8_ancestors_X8_parentSet : GoodIn wsX8_ancestors (wsV RX8 195 RX8 yX8_parentSet wsX8_parentSet) := goodIn_app (goodIn_of _ (by decide +kernel)) ggX8_ancestors_X8_parentSet
theorem dX8_ancestors_0 : decode cX8_ancestors 0 = .ok (.aload_n 0, 1) := by decide +kernel
theorem dX8_ancestors_1 : decode cX8_ancestors 1 = .ok (.iconst 1, 1) := by decide +kernel
theorem dX8_ancestors_2 : decode cX8_ancestors 2 = .ok (.iload_n 1, 1) := by decide +kernel
theorem dX8_ancestors_3 : decode cX8_ancestors 3 = .ok (.ishl, 1) := by decide +kernel
theorem dX8_ancestors_4 : decode cX8_ancestors 4 = .ok (.invokevirtual 195, 3) := by decide +kernel
theorem dX8_ancestors_7 : decode cX8_ancestors 7 = .ok (.istore_n 2, 1) := by decide +kernel
theorem dX8_ancestors_8 : decode cX8_ancestors 8 = .ok (.aload_n 0, 1) := by decide +kernel
theorem dX8_ancestors_9 : decode cX8_ancestors 9 = .ok (.iload_n 2, 1) := by decide +kernel
theorem dX8_ancestors_10 : decode cX8_ancestors 10 = .ok (.invokevirtual 195, 3) := by decide +kernel
theorem dX8_ancestors_13 : decode cX8_ancestors 13 = .ok (.istore_n 3, 1) := by decide +kernel
theorem dX8_ancestors_14 : decode cX8_ancestors 14 = .ok (.iload_n 2, 1) := by decide +kernel
theorem dX8_ancestors_15 : decode cX8_ancestors 15 = .ok (.iload_n 3, 1) := by decide +kernel
theorem dX8_ancestors_16 : decode cX8_ancestors 16 = .ok (.ior, 1) := by decide +kernel
theorem dX8_ancestors_17 : decode cX8_ancestors 17 = .ok (.aload_n 0, 1) := by decide +kernel
theorem dX8_ancestors_18 : decode cX8_ancestors 18 = .ok (.iload_n 3, 1) := by decide +kernel
theorem dX8_ancestors_19 : decode cX8_ancestors 19 = .ok (.invokevirtual 195, 3) := by decide +kernel
theorem dX8_ancestors_22 : decode cX8_ancestors 22 = .ok (.ior, 1) := by decide +kernel
theorem dX8_ancestors_23 : decode cX8_ancestors 23 = .ok (.ireturn, 1) := by decide +kernel
theorem dX8_ones_0 : decode cX8_ones 0 = .ok (.iconst 0, 1) := by decide +kernel
theorem dX8_ones_1 : decode cX8_ones 1 = .ok (.istore_n 1, 1) := by decide +kernel
theorem dX8_ones_2 : decode cX8_ones 2 = .ok (.iconst 0, 1) := by decide +kernel
theorem dX8_ones_3 : decode cX8_ones 3 = .ok (.istore_n 2, 1) := by decide +kernel
theorem dX8_ones_4 : decode cX8_ones 4 = .ok (.iload_n 2, 1) := by decide +kernel
theorem dX8_ones_5 : decode cX8_ones 5 = .ok (.bipush 20, 2) := by decide +kernel
theorem dX8_ones_7 : decode cX8_ones 7 = .ok (.if_icmp .ge 17, 3) := by decide +kernel
theorem dX8_ones_10 : decode cX8_ones 10 = .ok (.iload_n 1, 1) := by decide +kernel
theorem dX8_ones_11 : decode cX8_ones 11 = .ok (.iload_n 0, 1) := by decide +kernel
theorem dX8_ones_12 : decode cX8_ones 12 = .ok (.iload_n 2, 1) := by decide +kernel
theorem dX8_ones_13 : decode cX8_ones 13 = .ok (.ishr, 1) := by decide +kernel
theorem dX8_ones_14 : decode cX8_ones 14 = .ok (.iconst 1, 1) := by decide +kernel
theorem dX8_ones_15 : decode cX8_ones 15 = .ok (.iand, 1) := by decide +kernel
theorem dX8_ones_16 : decode cX8_ones 16 = .ok (.iadd, 1) := by decide +kernel
theorem dX8_ones_17 : decode cX8_ones 17 = .ok (.istore_n 1, 1) := by decide +kernel
theorem dX8_ones_18 : decode cX8_ones 18 = .ok (.iinc 2 1, 3) := by decide +kernel
theorem dX8_ones_21 : decode cX8_ones 21 = .ok (.goto (-17), 3) := by decide +kernel
theorem dX8_ones_24 : decode cX8_ones 24 = .ok (.iload_n 1, 1) := by decide +kernel
theorem dX8_ones_25 : decode cX8_ones 25 = .ok (.ireturn, 1) := by decide +kernel
set_option maxRecDepth 20000 in
theorem ggX8_descending_X8_ancestors : GoodIn wsX8_descending wsX8_ancestors := goodIn_r _ [6, 7, 8, 9, 5, 10, 1, 11, 12, 13, 14, 15, 16, 17, 18, 19, 20, 21, 22, 23, 24, 25, 26, 27, 28, 29, 30, 31, 32, 33, 34, 35, 36, 37, 38, 39, 40, 41, 42, 43] (by decide +kernel) (by decide +kernel)
set_option maxRecDepth 20000 in
theorem gX8_descending_X8_ancestors : GoodIn wsX8_descending (wsV RX8 198 RX8 yX8_ancestors wsX8_ancestors) := goodIn_app (goodIn_of _ (by decide +kernel)) ggX8_descending_X8_ancestors
theorem dX8_descending_0 : decode cX8_descending 0 = .ok (.iconst 0, 1) := by decide +kernel
theorem dX8_descending_1 : decode cX8_descending 1 = .ok (.istore_n 2, 1) := by decide +kernel
theorem dX8_descending_2 : decode cX8_descending 2 = .ok (.iconst 0, 1) := by decide +kernel
theorem dX8_descending_3 : decode cX8_descending 3 = .ok (.istore_n 3, 1) := by decide +kernel
theorem dX8_descending_4 : decode cX8_descending 4 = .ok (.iload_n 3, 1) := by decide +kernel
theorem dX8_descending_5 : decode cX8_descending 5 = .ok (.aload_n 0, 1) := by decide +kernel
theorem dX8_descending_6 : decode cX8_descending 6 = .ok (.getfield 7, 3) := by decide +kernel
theorem dX8_descending_9 : decode cX8_descending 9 = .ok (.iconst 0, 1) := by decide +kernel
theorem dX8_descending_10 : decode cX8_descending 10 = .ok (.iaload, 1) := by decide +kernel
theorem dX8_descending_11 : decode cX8_descending 11 = .ok (.if_icmp .ge 21, 3) := by decide +kernel
theorem dX8_descending_14 : decode cX8_descending 14 = .ok (.iload_n 2, 1) := by decide +kernel
theorem dX8_descending_15 : decode cX8_descending 15 = .ok (.aload_n 0, 1) := by decide +kernel
theorem dX8_descending_16 : decode cX8_descending 16 = .ok (.iload_n 3, 1) := by decide +kernel
theorem dX8_descending_17 : decode cX8_descending 17 = .ok (.invokevirtual 198, 3) := by decide +kernel
theorem dX8_descending_20 : decode cX8_descending 20 = .ok (.iload_n 1, 1) := by decide +kernel
theorem dX8_descending_21 : decode cX8_descending 21 = .ok (.ishr, 1) := by decide +kernel
theorem dX8_descending_22 : decode cX8_descending 22 = .ok (.iconst 1, 1) := by decide +kernel
theorem dX8_descending_23 : decode cX8_descending 23 = .ok (.iand, 1) := by decide +kernel
theorem dX8_descending_24 : decode cX8_descending 24 = .ok (.iadd, 1) := by decide +kernel
theorem dX8_descending_25 : decode cX8_descending 25 = .ok (.istore_n 2, 1) := by decide +kernel
theorem dX8_descending_26 : decode cX8_descending 26 = .ok (.iinc 3 1, 3) := by decide +kernel
theorem dX8_descending_29 : decode cX8_descending 29 = .ok (.goto (-25), 3) := by decide +kernel
theorem dX8_descending_32 : decode cX8_descending 32 = .ok (.iload_n 2, 1) := by decide +kernel
theorem dX8_descending_33 : decode cX8_descending 33 = .ok (.ireturn, 1) := by decide +kernel
set_option maxRecDepth 20000 in
theorem ggX8_childrenOf_X8_parentsOf : GoodIn wsX8_childrenOf wsX8_parentsOf := goodIn_r _ [6, 1, 7, 8, 9, 10, 11, 12, 13, 14, 15, 16, 17, 18, 19, 20, 21, 22, 23, 24, 25, 26, 27] (by decide +kernel) (by decide +kernel)
set_option maxRecDepth 20000 in
theorem gX8_childrenOf_X8_parentsOf : GoodIn wsX8_childrenOf (wsV RX8 116 RX8 yX8_parentsOf wsX8_parentsOf) := goodIn_app (goodIn_of _ (by decide +kernel)) ggX8_childrenOf_X8_parentsOf
theorem dX8_childrenOf_0 : decode cX8_childrenOf 0 = .ok (.iconst 0, 1) := by decide +kernel
theorem dX8_childrenOf_1 : decode cX8_childrenOf 1 = .ok (.istore_n 2, 1) := by decide +kernel
theorem dX8_childrenOf_2 : decode cX8_childrenOf 2 = .ok (.iconst 0, 1) := by decide +kernel
theorem dX8_childrenOf_3 : decode cX8_childrenOf 3 = .ok (.istore_n 3, 1) := by decide +kernel
theorem dX8_childrenOf_4 : decode cX8_childrenOf 4 = .ok (.iload_n 3, 1) := by decide +kernel
theorem dX8_childrenOf_5 : decode cX8_childrenOf 5 = .ok (.aload_n 0, 1) := by decide +kernel
theorem dX8_childrenOf_6 : decode cX8_childrenOf 6 = .ok (.getfield 7, 3) := by decide +kernel
theorem dX8_childrenOf_9 : decode cX8_childrenOf 9 = .ok (.iconst 0, 1) := by decide +kernel
theorem dX8_childrenOf_10 : decode cX8_childrenOf 10 = .ok (.iaload, 1) := by decide +kernel
theorem dX8_childrenOf_11 : decode cX8_childrenOf 11 = .ok (.if_icmp .ge 26, 3) := by decide +kernel
theorem dX8_childrenOf_14 : decode cX8_childrenOf 14 = .ok (.iload_n 2, 1) := by decide +kernel
theorem dX8_childrenOf_15 : decode cX8_childrenOf 15 = .ok (.aload_n 0, 1) := by decide +kernel
theorem dX8_childrenOf_16 : decode cX8_childrenOf 16 = .ok (.iload_n 3, 1) := by decide +kernel
theorem dX8_childrenOf_17 : decode cX8_childrenOf 17 = .ok (.invokevirtual 116, 3) := by decide +kernel
theorem dX8_childrenOf_20 : decode cX8_childrenOf 20 = .ok (.iload_n 1, 1) := by decide +kernel
theorem dX8_childrenOf_21 : decode cX8_childrenOf 21 = .ok (.if_icmp .ne 7, 3) := by decide +kernel
theorem dX8_childrenOf_24 : decode cX8_childrenOf 24 = .ok (.iconst 1, 1) := by decide +kernel
theorem dX8_childrenOf_25 : decode cX8_childrenOf 25 = .ok (.goto 4, 3) := by decide +kernel
theorem dX8_childrenOf_28 : decode cX8_childrenOf 28 = .ok (.iconst 0, 1) := by decide +kernel
theorem dX8_childrenOf_29 : decode cX8_childrenOf 29 = .ok (.iadd, 1) := by decide +kernel
theorem dX8_childrenOf_30 : decode cX8_childrenOf 30 = .ok (.istore_n 2, 1) := by decide +kernel
theorem dX8_childrenOf_31 : decode cX8_childrenOf 31 = .ok (.iinc 3 1, 3) := by decide +kernel
theorem dX8_childrenOf_34 : decode cX8_childrenOf 34 = .ok (.goto (-30), 3) := by decide +kernel
theorem dX8_childrenOf_37 : decode cX8_childrenOf 37 = .ok (.iload_n 2, 1) := by decide +kernel
theorem dX8_childrenOf_38 : decode cX8_childrenOf 38 = .ok (.ireturn, 1) := by decide +kernel
set_option maxRecDepth 20000 in
theorem ggX8_allChildren_X8_one : GoodIn wsX8_allChildren wsX8_one := goodIn_r _ [6, 1, 19, 20, 21, 22, 23, 24, 25, 26, 27, 28, 29, 30, 31, 32, 33, 34, 35, 36, 37, 38, 39] (by decide +kernel) (by decide +kernel)
set_option maxRecDepth 20000 in
theorem gX8_allChildren_X8_one : GoodIn wsX8_allChildren (wsV RX8 75 RX8 yX8_one wsX8_one) := goodIn_app (goodIn_of _ (by decide +kernel)) ggX8_allChildren_X8_one
set_option maxRecDepth 20000 in
theorem ggX8_allChildren_X8_other : GoodIn wsX8_allChildren wsX8_other := goodIn_r _ [10, 1, 19, 20, 21, 22, 23, 24, 25, 26, 27, 28, 29, 30, 31, 32, 33, 34, 35, 36, 37, 38, 39] (by decide +kernel) (by decide +kernel)
set_option maxRecDepth 20000 in
theorem gX8_allChildren_X8_other : GoodIn wsX8_allChildren (wsV RX8 78 RX8 yX8_other wsX8_other) := goodIn_app (goodIn_of _ (by decide +kernel)) ggX8_allChildren_X8_other
set_option maxRecDepth 20000 in
theorem ggX8_allChildren_X8_childrenOf : GoodIn wsX8_allChildren wsX8_childrenOf := goodIn_r _ [14, 1, 15, 16, 17, 5, 18, 19, 20, 21, 22, 23, 24, 25, 26, 27, 28, 29, 30, 31, 32, 33, 34, 35, 36, 37, 38, 39] (by decide +kernel) (by decide +kernel)
set_option maxRecDepth 20000 in
theorem gX8_allChildren_X8_childrenOf : GoodIn wsX8_allChildren (wsV RX8 201 RX8 yX8_childrenOf wsX8_childrenOf) := goodIn_app (goodIn_of _ (by decide +kernel)) ggX8_allChildren_X8_childrenOf
theorem dX8_allChildren_0 : decode cX8_allChildren 0 = .ok (.iconst 0, 1) := by decide +kernel
theorem dX8_allChildren_1 : decode cX8_allChildren 1 = .ok (.istore_n 2, 1) := by decide +kernel
theorem dX8_allChildren_2 : decode cX8_allChildren 2 = .ok (.iconst 0, 1) := by decide +kernel
theorem dX8_allChildren_3 : decode cX8_allChildren 3 = .ok (.istore_n 3, 1) := by decide +kernel
theorem dX8_allChildren_4 : decode cX8_allChildren 4 = .ok (.iload_n 3, 1) := by decide +kernel
theorem dX8_allChildren_5 : decode cX8_allChildren 5 = .ok (.aload_n 0, 1) := by decide +kernel
theorem dX8_allChildren_6 : decode cX8_allChildren 6 = .ok (.getfield 7, 3) := by decide +kernel
theorem dX8_allChildren_9 : decode cX8_allChildren 9 = .ok (.iconst 1, 1) := by decide +kernel
theorem dX8_allChildren_10 : decode cX8_allChildren 10 = .ok (.iaload, 1) := by decide +kernel
theorem dX8_allChildren_11 : decode cX8_allChildren 11 = .ok (.if_icmp .ge 39, 3) := by decide +kernel
theorem dX8_allChildren_14 : decode cX8_allChildren 14 = .ok (.iload_n 2, 1) := by decide +kernel
theorem dX8_allChildren_15 : decode cX8_allChildren 15 = .ok (.aload_n 0, 1) := by decide +kernel
theorem dX8_allChildren_16 : decode cX8_allChildren 16 = .ok (.iload_n 3, 1) := by decide +kernel
theorem dX8_allChildren_17 : decode cX8_allChildren 17 = .ok (.invokevirtual 75, 3) := by decide +kernel
theorem dX8_allChildren_20 : decode cX8_allChildren 20 = .ok (.iload_n 1, 1) := by decide +kernel
theorem dX8_allChildren_21 : decode cX8_allChildren 21 = .ok (.if_icmp .eq 12, 3) := by decide +kernel
theorem dX8_allChildren_24 : decode cX8_allChildren 24 = .ok (.aload_n 0, 1) := by decide +kernel
theorem dX8_allChildren_25 : decode cX8_allChildren 25 = .ok (.iload_n 3, 1) := by decide +kernel
theorem dX8_allChildren_26 : decode cX8_allChildren 26 = .ok (.invokevirtual 78, 3) := by decide +kernel
theorem dX8_allChildren_29 : decode cX8_allChildren 29 = .ok (.iload_n 1, 1) := by decide +kernel
theorem dX8_allChildren_30 : decode cX8_allChildren 30 = .ok (.if_icmp .ne 11, 3) := by decide +kernel
theorem dX8_allChildren_33 : decode cX8_allChildren 33 = .ok (.aload_n 0, 1) := by decide +kernel
theorem dX8_allChildren_34 : decode cX8_allChildren 34 = .ok (.iload_n 3, 1) := by decide +kernel
theorem dX8_allChildren_35 : decode cX8_allChildren 35 = .ok (.invokevirtual 201, 3) := by decide +kernel
theorem dX8_allChildren_38 : decode cX8_allChildren 38 = .ok (.goto 4, 3) := by decide +kernel
theorem dX8_allChildren_41 : decode cX8_allChildren 41 = .ok (.iconst 0, 1) := by decide +kernel
theorem dX8_allChildren_42 : decode cX8_allChildren 42 = .ok (.iadd, 1) := by decide +kernel
theorem dX8_allChildren_43 : decode cX8_allChildren 43 = .ok (.istore_n 2, 1) := by decide +kernel
theorem dX8_allChildren_44 : decode cX8_allChildren 44 = .ok (.iinc 3 1, 3) := by decide +kernel
theorem dX8_allChildren_47 : decode cX8_allChildren 47 = .ok (.goto (-43), 3) := by decide +kernel
theorem dX8_allChildren_50 : decode cX8_allChildren 50 = .ok (.iload_n 2, 1) := by decide +kernel
theorem dX8_allChildren_51 : decode cX8_allChildren 51 = .ok (.ireturn, 1) := by decide +kernel
set_option maxRecDepth 20000 in
theorem ggX8_ofPerson_X8_rowOf : GoodIn wsX8_ofPerson wsX8_rowOf := goodIn_r _ [5, 6, 54, 55, 56, 57, 58, 59, 60, 61, 62, 63, 64, 65, 66, 67, 68, 69, 70, 71, 72, 73, 74] (by decide +kernel) (by decide +kernel)
set_option maxRecDepth 20000 in
theorem gX8_ofPerson_X8_rowOf : GoodIn wsX8_ofPerson (wsV RX8 58 RX8 yX8_rowOf wsX8_rowOf) := goodIn_app (goodIn_of _ (by decide +kernel)) ggX8_ofPerson_X8_rowOf
set_option maxRecDepth 20000 in
theorem ggX8_ofPerson_X8_placeOf : GoodIn wsX8_ofPerson wsX8_placeOf := goodIn_r _ [10, 1, 2, 3, 4, 5, 6, 11, 12, 13, 14, 54, 55, 56, 57, 58, 59, 60, 61, 62, 63, 64, 65, 66, 67, 68, 69, 70, 71, 72, 73, 74] (by decide +kernel) (by decide +kernel)
set_option maxRecDepth 20000 in
theorem gX8_ofPerson_X8_placeOf : GoodIn wsX8_ofPerson (wsV RX8 110 RX8 yX8_placeOf wsX8_placeOf) := goodIn_app (goodIn_of _ (by decide +kernel)) ggX8_ofPerson_X8_placeOf
set_option maxRecDepth 20000 in
theorem ggX8_ofPerson_X8_parentsOf : GoodIn wsX8_ofPerson wsX8_parentsOf := goodIn_r _ [18, 6, 54, 55, 56, 57, 58, 59, 60, 61, 62, 63, 64, 65, 66, 67, 68, 69, 70, 71, 72, 73, 74] (by decide +kernel) (by decide +kernel)
set_option maxRecDepth 20000 in
theorem gX8_ofPerson_X8_parentsOf : GoodIn wsX8_ofPerson (wsV RX8 116 RX8 yX8_parentsOf wsX8_parentsOf) := goodIn_app (goodIn_of _ (by decide +kernel)) ggX8_ofPerson_X8_parentsOf
set_option maxRecDepth 20000 in
theorem ggX8_ofPerson_X8_couplesOf : GoodIn wsX8_ofPerson wsX8_couplesOf := goodIn_r _ [22, 6, 23, 24, 25, 4, 26, 27, 28, 29, 30, 54, 55, 56, 57, 58, 59, 60, 61, 62, 63, 64, 65, 66, 67, 68, 69, 70, 71, 72, 73, 74] (by decide +kernel) (by decide +kernel)
set_option maxRecDepth 20000 in
theorem gX8_ofPerson_X8_couplesOf : GoodIn wsX8_ofPerson (wsV RX8 85 RX8 yX8_couplesOf wsX8_couplesOf) := goodIn_app (goodIn_of _ (by decide +kernel)) ggX8_ofPerson_X8_couplesOf
set_option maxRecDepth 20000 in
theorem ggX8_ofPerson_X8_allChildren : GoodIn wsX8_ofPerson wsX8_allChildren := goodIn_r _ [34, 6, 23, 24, 25, 4, 26, 27, 28, 29, 30, 35, 36, 37, 38, 15, 16, 17, 18, 54, 55, 56, 57, 58, 59, 60, 61, 62, 63, 64, 65, 66, 67, 68, 69, 70, 71, 72, 73, 74] (by decide +kernel) (by decide +kernel)
set_option maxRecDepth 20000 in
theorem gX8_ofPerson_X8_allChildren : GoodIn wsX8_ofPerson (wsV RX8 204 RX8 yX8_allChildren wsX8_allChildren) := goodIn_app (goodIn_of _ (by decide +kernel)) ggX8_ofPerson_X8_allChildren
set_option maxRecDepth 20000 in
theorem ggX8_ofPerson_X8_descending : GoodIn wsX8_ofPerson wsX8_descending := goodIn_r _ [42, 6, 43, 44, 45, 4, 46, 47, 48, 49, 50, 15, 16, 17, 18, 23, 24, 25, 26, 27, 28, 29, 30, 54, 55, 56, 57, 58, 59, 60, 61, 62, 63, 64, 65, 66, 67, 68, 69, 70, 71, 72, 73, 74] (by decide +kernel) (by decide +kernel)
set_option maxRecDepth 20000 in
theorem gX8_ofPerson_X8_descending : GoodIn wsX8_ofPerson (wsV RX8 207 RX8 yX8_descending wsX8_descending) := goodIn_app (goodIn_of _ (by decide +kernel)) ggX8_ofPerson_X8_descending
set_option maxRecDepth 20000 in
theorem ggX8_ofPerson_X8_ancestors : GoodIn wsX8_ofPerson wsX8_ancestors := goodIn_r _ [46, 47, 48, 49, 4, 50, 6, 15, 16, 17, 18, 23, 24, 25, 26, 27, 28, 29, 30, 54, 55, 56, 57, 58, 59, 60, 61, 62, 63, 64, 65, 66, 67, 68, 69, 70, 71, 72, 73, 74] (by decide +kernel) (by decide +kernel)
set_option maxRecDepth 20000 in
theorem gX8_ofPerson_X8_ancestors : GoodIn wsX8_ofPerson (wsV RX8 198 RX8 yX8_ancestors wsX8_ancestors) := goodIn_app (goodIn_of _ (by decide +kernel)) ggX8_ofPerson_X8_ancestors
set_option maxRecDepth 20000 in
theorem ggX8_ofPerson_X8_ones : GoodIn wsX8_ofPerson wsX8_ones := goodIn_r _ [53] (by decide +kernel) (by decide +kernel)
set_option maxRecDepth 20000 in
theorem gX8_ofPerson_X8_ones : GoodIn wsX8_ofPerson (va_wsS RX8 210 yX8_ones wsX8_ones) := goodIn_app (goodIn_of _ (by decide +kernel)) ggX8_ofPerson_X8_ones
theorem dX8_ofPerson_0 : decode cX8_ofPerson 0 = .ok (.iload_n 2, 1) := by decide +kernel
theorem dX8_ofPerson_1 : decode cX8_ofPerson 1 = .ok (.tableswitch 75 0 5 #[39, 45, 51, 57, 63, 69], 39) := by decide +kernel
theorem dX8_ofPerson_40 : decode cX8_ofPerson 40 = .ok (.aload_n 0, 1) := by decide +kernel
theorem dX8_ofPerson_41 : decode cX8_ofPerson 41 = .ok (.iload_n 1, 1) := by decide +kernel
theorem dX8_ofPerson_42 : decode cX8_ofPerson 42 = .ok (.invokevirtual 58, 3) := by decide +kernel
theorem dX8_ofPerson_45 : decode cX8_ofPerson 45 = .ok (.ireturn, 1) := by decide +kernel
theorem dX8_ofPerson_46 : decode cX8_ofPerson 46 = .ok (.aload_n 0, 1) := by decide +kernel
theorem dX8_ofPerson_47 : decode cX8_ofPerson 47 = .ok (.iload_n 1, 1) := by decide +kernel
theorem dX8_ofPerson_48 : decode cX8_ofPerson 48 = .ok (.invokevirtual 110, 3) := by decide +kernel
theorem dX8_ofPerson_51 : decode cX8_ofPerson 51 = .ok (.ireturn, 1) := by decide +kernel
theorem dX8_ofPerson_52 : decode cX8_ofPerson 52 = .ok (.aload_n 0, 1) := by decide +kernel
theorem dX8_ofPerson_53 : decode cX8_ofPerson 53 = .ok (.iload_n 1, 1) := by decide +kernel
theorem dX8_ofPerson_54 : decode cX8_ofPerson 54 = .ok (.invokevirtual 116, 3) := by decide +kernel
theorem dX8_ofPerson_57 : decode cX8_ofPerson 57 = .ok (.ireturn, 1) := by decide +kernel
theorem dX8_ofPerson_58 : decode cX8_ofPerson 58 = .ok (.aload_n 0, 1) := by decide +kernel
theorem dX8_ofPerson_59 : decode cX8_ofPerson 59 = .ok (.iload_n 1, 1) := by decide +kernel
theorem dX8_ofPerson_60 : decode cX8_ofPerson 60 = .ok (.invokevirtual 85, 3) := by decide +kernel
theorem dX8_ofPerson_63 : decode cX8_ofPerson 63 = .ok (.ireturn, 1) := by decide +kernel
theorem dX8_ofPerson_64 : decode cX8_ofPerson 64 = .ok (.aload_n 0, 1) := by decide +kernel
theorem dX8_ofPerson_65 : decode cX8_ofPerson 65 = .ok (.iload_n 1, 1) := by decide +kernel
theorem dX8_ofPerson_66 : decode cX8_ofPerson 66 = .ok (.invokevirtual 204, 3) := by decide +kernel
theorem dX8_ofPerson_69 : decode cX8_ofPerson 69 = .ok (.ireturn, 1) := by decide +kernel
theorem dX8_ofPerson_70 : decode cX8_ofPerson 70 = .ok (.aload_n 0, 1) := by decide +kernel
theorem dX8_ofPerson_71 : decode cX8_ofPerson 71 = .ok (.iload_n 1, 1) := by decide +kernel
theorem dX8_ofPerson_72 : decode cX8_ofPerson 72 = .ok (.invokevirtual 207, 3) := by decide +kernel
theorem dX8_ofPerson_75 : decode cX8_ofPerson 75 = .ok (.ireturn, 1) := by decide +kernel
theorem dX8_ofPerson_76 : decode cX8_ofPerson 76 = .ok (.aload_n 0, 1) := by decide +kernel
theorem dX8_ofPerson_77 : decode cX8_ofPerson 77 = .ok (.iload_n 1, 1) := by decide +kernel
theorem dX8_ofPerson_78 : decode cX8_ofPerson 78 = .ok (.invokevirtual 198, 3) := by decide +kernel
theorem dX8_ofPerson_81 : decode cX8_ofPerson 81 = .ok (.invokestatic 210, 3) := by decide +kernel
theorem dX8_ofPerson_84 : decode cX8_ofPerson 84 = .ok (.ireturn, 1) := by decide +kernel
set_option maxRecDepth 20000 in
theorem ggX8_personOf_X8_isPerson : GoodIn wsX8_personOf wsX8_isPerson := goodIn_r _ [6, 7, 8, 9, 5, 10, 70, 71, 72, 73, 74, 75, 76, 77, 78, 79, 80, 81, 82, 83, 84, 85, 86, 87, 88, 89, 90] (by decide +kernel) (by decide +kernel)
set_option maxRecDepth 20000 in
theorem gX8_personOf_X8_isPerson : GoodIn wsX8_personOf (wsV RX8 98 RX8 yX8_isPerson wsX8_isPerson) := goodIn_app (goodIn_of _ (by decide +kernel)) ggX8_personOf_X8_isPerson
set_option maxRecDepth 20000 in
theorem ggX8_personOf_X8_fails : GoodIn wsX8_personOf wsX8_fails := goodIn_r _ [14, 1, 70, 71, 72, 73, 74, 75, 76, 77, 78, 79, 80, 81, 82, 83, 84, 85, 86, 87, 88, 89, 90] (by decide +kernel) (by decide +kernel)
set_option maxRecDepth 20000 in
theorem gX8_personOf_X8_fails : GoodIn wsX8_personOf (wsV RX8 69 RX8 yX8_fails wsX8_fails) := goodIn_app (goodIn_of _ (by decide +kernel)) ggX8_personOf_X8_fails
set_option maxRecDepth 20000 in
theorem ggX8_personOf_X8_in : GoodIn wsX8_personOf wsX8_in := goodIn_r _ [10] (by decide +kernel) (by decide +kernel)
set_option maxRecDepth 20000 in
theorem gX8_personOf_X8_in : GoodIn wsX8_personOf (va_wsS RX8 54 yX8_in wsX8_in) := goodIn_app (goodIn_of _ (by decide +kernel)) ggX8_personOf_X8_in
set_option maxRecDepth 20000 in
theorem ggX8_personOf_X8_ofPerson : GoodIn wsX8_personOf wsX8_ofPerson := goodIn_r _ [18, 19, 20, 21, 5, 22, 7, 23, 24, 25, 26, 27, 28, 29, 30, 31, 32, 33, 34, 35, 36, 37, 38, 39, 40, 41, 42, 43, 44, 45, 46, 47, 48, 49, 50, 51, 52, 53, 54, 55, 56, 57, 58, 59, 60, 61, 62, 63, 64, 65, 66, 67, 68, 69, 70, 71, 72, 73, 74, 75, 76, 77, 78, 79, 80, 81, 82, 83, 84, 85, 86, 87, 88, 89, 90] (by decide +kernel) (by decide +kernel)
set_option maxRecDepth 20000 in
theorem gX8_personOf_X8_ofPerson : GoodIn wsX8_personOf (wsV RX8 213 RX8 yX8_ofPerson wsX8_ofPerson) := goodIn_app (goodIn_of _ (by decide +kernel)) ggX8_personOf_X8_ofPerson
theorem dX8_personOf_0 : decode cX8_personOf 0 = .ok (.aload_n 0, 1) := by decide +kernel
theorem dX8_personOf_1 : decode cX8_personOf 1 = .ok (.iconst 0, 1) := by decide +kernel
theorem dX8_personOf_2 : decode cX8_personOf 2 = .ok (.putfield 50, 3) := by decide +kernel
theorem dX8_personOf_5 : decode cX8_personOf 5 = .ok (.aload_n 0, 1) := by decide +kernel
theorem dX8_personOf_6 : decode cX8_personOf 6 = .ok (.iload_n 1, 1) := by decide +kernel
theorem dX8_personOf_7 : decode cX8_personOf 7 = .ok (.invokevirtual 98, 3) := by decide +kernel
theorem dX8_personOf_10 : decode cX8_personOf 10 = .ok (.ifCond .ne 9, 3) := by decide +kernel
theorem dX8_personOf_13 : decode cX8_personOf 13 = .ok (.aload_n 0, 1) := by decide +kernel
theorem dX8_personOf_14 : decode cX8_personOf 14 = .ok (.iconst 1, 1) := by decide +kernel
theorem dX8_personOf_15 : decode cX8_personOf 15 = .ok (.invokevirtual 69, 3) := by decide +kernel
theorem dX8_personOf_18 : decode cX8_personOf 18 = .ok (.ireturn, 1) := by decide +kernel
theorem dX8_personOf_19 : decode cX8_personOf 19 = .ok (.iload_n 2, 1) := by decide +kernel
theorem dX8_personOf_20 : decode cX8_personOf 20 = .ok (.iconst 0, 1) := by decide +kernel
theorem dX8_personOf_21 : decode cX8_personOf 21 = .ok (.bipush 6, 2) := by decide +kernel
theorem dX8_personOf_23 : decode cX8_personOf 23 = .ok (.invokestatic 54, 3) := by decide +kernel
theorem dX8_personOf_26 : decode cX8_personOf 26 = .ok (.ifCond .eq 12, 3) := by decide +kernel
theorem dX8_personOf_29 : decode cX8_personOf 29 = .ok (.aload_n 0, 1) := by decide +kernel
theorem dX8_personOf_30 : decode cX8_personOf 30 = .ok (.iload_n 1, 1) := by decide +kernel
theorem dX8_personOf_31 : decode cX8_personOf 31 = .ok (.iload_n 2, 1) := by decide +kernel
theorem dX8_personOf_32 : decode cX8_personOf 32 = .ok (.invokevirtual 213, 3) := by decide +kernel
theorem dX8_personOf_35 : decode cX8_personOf 35 = .ok (.goto 8, 3) := by decide +kernel
theorem dX8_personOf_38 : decode cX8_personOf 38 = .ok (.aload_n 0, 1) := by decide +kernel
theorem dX8_personOf_39 : decode cX8_personOf 39 = .ok (.iconst 2, 1) := by decide +kernel
theorem dX8_personOf_40 : decode cX8_personOf 40 = .ok (.invokevirtual 69, 3) := by decide +kernel
theorem dX8_personOf_43 : decode cX8_personOf 43 = .ok (.ireturn, 1) := by decide +kernel
set_option maxRecDepth 20000 in
theorem ggX8_common_X8_one : GoodIn wsX8_common wsX8_one := goodIn_r _ [5, 6, 26, 27, 28, 29, 30, 31, 32, 33, 34, 35, 36, 37, 38, 39, 40, 41, 42, 43, 44, 45, 46] (by decide +kernel) (by decide +kernel)
set_option maxRecDepth 20000 in
theorem gX8_common_X8_one : GoodIn wsX8_common (wsV RX8 75 RX8 yX8_one wsX8_one) := goodIn_app (goodIn_of _ (by decide +kernel)) ggX8_common_X8_one
set_option maxRecDepth 20000 in
theorem ggX8_common_X8_ancestors : GoodIn wsX8_common wsX8_ancestors := goodIn_r _ [10, 11, 12, 13, 4, 14, 6, 15, 16, 17, 18, 1, 2, 3, 5, 19, 20, 21, 22, 26, 27, 28, 29, 30, 31, 32, 33, 34, 35, 36, 37, 38, 39, 40, 41, 42, 43, 44, 45, 46] (by decide +kernel) (by decide +kernel)
set_option maxRecDepth 20000 in
theorem gX8_common_X8_ancestors : GoodIn wsX8_common (wsV RX8 198 RX8 yX8_ancestors wsX8_ancestors) := goodIn_app (goodIn_of _ (by decide +kernel)) ggX8_common_X8_ancestors
set_option maxRecDepth 20000 in
theorem ggX8_common_X8_other : GoodIn wsX8_common wsX8_other := goodIn_r _ [22, 6, 26, 27, 28, 29, 30, 31, 32, 33, 34, 35, 36, 37, 38, 39, 40, 41, 42, 43, 44, 45, 46] (by decide +kernel) (by decide +kernel)
set_option maxRecDepth 20000 in
theorem gX8_common_X8_other : GoodIn wsX8_common (wsV RX8 78 RX8 yX8_other wsX8_other) := goodIn_app (goodIn_of _ (by decide +kernel)) ggX8_common_X8_other
set_option maxRecDepth 20000 in
theorem ggX8_common_X8_ones : GoodIn wsX8_common wsX8_ones := goodIn_r _ [25] (by decide +kernel) (by decide +kernel)
set_option maxRecDepth 20000 in
theorem gX8_common_X8_ones : GoodIn wsX8_common (va_wsS RX8 210 yX8_ones wsX8_ones) := goodIn_app (goodIn_of _ (by decide +kernel)) ggX8_common_X8_ones
theorem dX8_common_0 : decode cX8_common 0 = .ok (.aload_n 0, 1) := by decide +kernel
theorem dX8_common_1 : decode cX8_common 1 = .ok (.aload_n 0, 1) := by decide +kernel
theorem dX8_common_2 : decode cX8_common 2 = .ok (.iload_n 1, 1) := by decide +kernel
theorem dX8_common_3 : decode cX8_common 3 = .ok (.invokevirtual 75, 3) := by decide +kernel
theorem dX8_common_6 : decode cX8_common 6 = .ok (.invokevirtual 198, 3) := by decide +kernel
theorem dX8_common_9 : decode cX8_common 9 = .ok (.aload_n 0, 1) := by decide +kernel
theorem dX8_common_10 : decode cX8_common 10 = .ok (.aload_n 0, 1) := by decide +kernel
theorem dX8_common_11 : decode cX8_common 11 = .ok (.iload_n 1, 1) := by decide +kernel
theorem dX8_common_12 : decode cX8_common 12 = .ok (.invokevirtual 78, 3) := by decide +kernel
theorem dX8_common_15 : decode cX8_common 15 = .ok (.invokevirtual 198, 3) := by decide +kernel
theorem dX8_common_18 : decode cX8_common 18 = .ok (.iand, 1) := by decide +kernel
theorem dX8_common_19 : decode cX8_common 19 = .ok (.invokestatic 210, 3) := by decide +kernel
theorem dX8_common_22 : decode cX8_common 22 = .ok (.ireturn, 1) := by decide +kernel
set_option maxRecDepth 20000 in
theorem ggX8_ofCouple_X8_one : GoodIn wsX8_ofCouple wsX8_one := goodIn_r _ [5, 6, 50, 51, 52, 53, 54, 55, 56, 57, 58, 59, 60, 61, 62, 63, 64, 65, 66, 67, 68, 69, 70] (by decide +kernel) (by decide +kernel)
set_option maxRecDepth 20000 in
theorem gX8_ofCouple_X8_one : GoodIn wsX8_ofCouple (wsV RX8 75 RX8 yX8_one wsX8_one) := goodIn_app (goodIn_of _ (by decide +kernel)) ggX8_ofCouple_X8_one
set_option maxRecDepth 20000 in
theorem ggX8_ofCouple_X8_other : GoodIn wsX8_ofCouple wsX8_other := goodIn_r _ [10, 6, 50, 51, 52, 53, 54, 55, 56, 57, 58, 59, 60, 61, 62, 63, 64, 65, 66, 67, 68, 69, 70] (by decide +kernel) (by decide +kernel)
set_option maxRecDepth 20000 in
theorem gX8_ofCouple_X8_other : GoodIn wsX8_ofCouple (wsV RX8 78 RX8 yX8_other wsX8_other) := goodIn_app (goodIn_of _ (by decide +kernel)) ggX8_ofCouple_X8_other
set_option maxRecDepth 20000 in
theorem ggX8_ofCouple_X8_rowOf : GoodIn wsX8_ofCouple wsX8_rowOf := goodIn_r _ [14, 6, 50, 51, 52, 53, 54, 55, 56, 57, 58, 59, 60, 61, 62, 63, 64, 65, 66, 67, 68, 69, 70] (by decide +kernel) (by decide +kernel)
set_option maxRecDepth 20000 in
theorem gX8_ofCouple_X8_rowOf : GoodIn wsX8_ofCouple (wsV RX8 58 RX8 yX8_rowOf wsX8_rowOf) := goodIn_app (goodIn_of _ (by decide +kernel)) ggX8_ofCouple_X8_rowOf
set_option maxRecDepth 20000 in
theorem ggX8_ofCouple_X8_middle : GoodIn wsX8_ofCouple wsX8_middle := goodIn_r _ [18, 1, 2, 3, 4, 5, 6, 19, 20, 21, 22, 11, 12, 13, 14, 23, 24, 25, 26, 7, 8, 9, 10, 50, 51, 52, 53, 54, 55, 56, 57, 58, 59, 60, 61, 62, 63, 64, 65, 66, 67, 68, 69, 70] (by decide +kernel) (by decide +kernel)
set_option maxRecDepth 20000 in
theorem gX8_ofCouple_X8_middle : GoodIn wsX8_ofCouple (wsV RX8 119 RX8 yX8_middle wsX8_middle) := goodIn_app (goodIn_of _ (by decide +kernel)) ggX8_ofCouple_X8_middle
set_option maxRecDepth 20000 in
theorem ggX8_ofCouple_X8_childrenOf : GoodIn wsX8_ofCouple wsX8_childrenOf := goodIn_r _ [30, 6, 31, 32, 33, 4, 34, 50, 51, 52, 53, 54, 55, 56, 57, 58, 59, 60, 61, 62, 63, 64, 65, 66, 67, 68, 69, 70] (by decide +kernel) (by decide +kernel)
set_option maxRecDepth 20000 in
theorem gX8_ofCouple_X8_childrenOf : GoodIn wsX8_ofCouple (wsV RX8 201 RX8 yX8_childrenOf wsX8_childrenOf) := goodIn_app (goodIn_of _ (by decide +kernel)) ggX8_ofCouple_X8_childrenOf
set_option maxRecDepth 20000 in
theorem ggX8_ofCouple_X8_common : GoodIn wsX8_ofCouple wsX8_common := goodIn_r _ [38, 1, 2, 3, 4, 5, 6, 39, 40, 41, 42, 43, 44, 45, 46, 31, 32, 33, 34, 7, 8, 9, 10, 47, 48, 49, 50, 51, 52, 53, 54, 55, 56, 57, 58, 59, 60, 61, 62, 63, 64, 65, 66, 67, 68, 69, 70] (by decide +kernel) (by decide +kernel)
set_option maxRecDepth 20000 in
theorem gX8_ofCouple_X8_common : GoodIn wsX8_ofCouple (wsV RX8 216 RX8 yX8_common wsX8_common) := goodIn_app (goodIn_of _ (by decide +kernel)) ggX8_ofCouple_X8_common
theorem dX8_ofCouple_0 : decode cX8_ofCouple 0 = .ok (.iload_n 2, 1) := by decide +kernel
theorem dX8_ofCouple_1 : decode cX8_ofCouple 1 = .ok (.tableswitch 69 0 4 #[35, 41, 47, 57, 63], 35) := by decide +kernel
theorem dX8_ofCouple_36 : decode cX8_ofCouple 36 = .ok (.aload_n 0, 1) := by decide +kernel
theorem dX8_ofCouple_37 : decode cX8_ofCouple 37 = .ok (.iload_n 1, 1) := by decide +kernel
theorem dX8_ofCouple_38 : decode cX8_ofCouple 38 = .ok (.invokevirtual 75, 3) := by decide +kernel
theorem dX8_ofCouple_41 : decode cX8_ofCouple 41 = .ok (.ireturn, 1) := by decide +kernel
theorem dX8_ofCouple_42 : decode cX8_ofCouple 42 = .ok (.aload_n 0, 1) := by decide +kernel
theorem dX8_ofCouple_43 : decode cX8_ofCouple 43 = .ok (.iload_n 1, 1) := by decide +kernel
theorem dX8_ofCouple_44 : decode cX8_ofCouple 44 = .ok (.invokevirtual 78, 3) := by decide +kernel
theorem dX8_ofCouple_47 : decode cX8_ofCouple 47 = .ok (.ireturn, 1) := by decide +kernel
theorem dX8_ofCouple_48 : decode cX8_ofCouple 48 = .ok (.aload_n 0, 1) := by decide +kernel
theorem dX8_ofCouple_49 : decode cX8_ofCouple 49 = .ok (.aload_n 0, 1) := by decide +kernel
theorem dX8_ofCouple_50 : decode cX8_ofCouple 50 = .ok (.iload_n 1, 1) := by decide +kernel
theorem dX8_ofCouple_51 : decode cX8_ofCouple 51 = .ok (.invokevirtual 75, 3) := by decide +kernel
theorem dX8_ofCouple_54 : decode cX8_ofCouple 54 = .ok (.invokevirtual 58, 3) := by decide +kernel
theorem dX8_ofCouple_57 : decode cX8_ofCouple 57 = .ok (.ireturn, 1) := by decide +kernel
theorem dX8_ofCouple_58 : decode cX8_ofCouple 58 = .ok (.aload_n 0, 1) := by decide +kernel
theorem dX8_ofCouple_59 : decode cX8_ofCouple 59 = .ok (.iload_n 1, 1) := by decide +kernel
theorem dX8_ofCouple_60 : decode cX8_ofCouple 60 = .ok (.invokevirtual 119, 3) := by decide +kernel
theorem dX8_ofCouple_63 : decode cX8_ofCouple 63 = .ok (.ireturn, 1) := by decide +kernel
theorem dX8_ofCouple_64 : decode cX8_ofCouple 64 = .ok (.aload_n 0, 1) := by decide +kernel
theorem dX8_ofCouple_65 : decode cX8_ofCouple 65 = .ok (.iload_n 1, 1) := by decide +kernel
theorem dX8_ofCouple_66 : decode cX8_ofCouple 66 = .ok (.invokevirtual 201, 3) := by decide +kernel
theorem dX8_ofCouple_69 : decode cX8_ofCouple 69 = .ok (.ireturn, 1) := by decide +kernel
theorem dX8_ofCouple_70 : decode cX8_ofCouple 70 = .ok (.aload_n 0, 1) := by decide +kernel
theorem dX8_ofCouple_71 : decode cX8_ofCouple 71 = .ok (.iload_n 1, 1) := by decide +kernel
theorem dX8_ofCouple_72 : decode cX8_ofCouple 72 = .ok (.invokevirtual 216, 3) := by decide +kernel
theorem dX8_ofCouple_75 : decode cX8_ofCouple 75 = .ok (.ireturn, 1) := by decide +kernel
set_option maxRecDepth 20000 in
theorem ggX8_coupleOf_X8_isCouple : GoodIn wsX8_coupleOf wsX8_isCouple := goodIn_r _ [6, 7, 8, 9, 5, 10, 66, 67, 68, 69, 70, 71, 72, 73, 74, 75, 76, 77, 78, 79, 80, 81, 82, 83, 84, 85, 86] (by decide +kernel) (by decide +kernel)
set_option maxRecDepth 20000 in
theorem gX8_coupleOf_X8_isCouple : GoodIn wsX8_coupleOf (wsV RX8 104 RX8 yX8_isCouple wsX8_isCouple) := goodIn_app (goodIn_of _ (by decide +kernel)) ggX8_coupleOf_X8_isCouple
set_option maxRecDepth 20000 in
theorem ggX8_coupleOf_X8_fails : GoodIn wsX8_coupleOf wsX8_fails := goodIn_r _ [14, 1, 66, 67, 68, 69, 70, 71, 72, 73, 74, 75, 76, 77, 78, 79, 80, 81, 82, 83, 84, 85, 86] (by decide +kernel) (by decide +kernel)
set_option maxRecDepth 20000 in
theorem gX8_coupleOf_X8_fails : GoodIn wsX8_coupleOf (wsV RX8 69 RX8 yX8_fails wsX8_fails) := goodIn_app (goodIn_of _ (by decide +kernel)) ggX8_coupleOf_X8_fails
set_option maxRecDepth 20000 in
theorem ggX8_coupleOf_X8_in : GoodIn wsX8_coupleOf wsX8_in := goodIn_r _ [10] (by decide +kernel) (by decide +kernel)
set_option maxRecDepth 20000 in
theorem gX8_coupleOf_X8_in : GoodIn wsX8_coupleOf (va_wsS RX8 54 yX8_in wsX8_in) := goodIn_app (goodIn_of _ (by decide +kernel)) ggX8_coupleOf_X8_in
set_option maxRecDepth 20000 in
theorem ggX8_coupleOf_X8_ofCouple : GoodIn wsX8_coupleOf wsX8_ofCouple := goodIn_r _ [18, 19, 20, 21, 5, 22, 7, 23, 24, 25, 26, 27, 28, 29, 30, 31, 32, 33, 34, 35, 36, 37, 38, 39, 40, 41, 42, 43, 44, 45, 46, 47, 48, 49, 50, 51, 52, 53, 54, 55, 56, 57, 58, 59, 60, 61, 62, 63, 64, 65, 66, 67, 68, 69, 70, 71, 72, 73, 74, 75, 76, 77, 78, 79, 80, 81, 82, 83, 84, 85, 86] (by decide +kernel) (by decide +kernel)
set_option maxRecDepth 20000 in
theorem gX8_coupleOf_X8_ofCouple : GoodIn wsX8_coupleOf (wsV RX8 219 RX8 yX8_ofCouple wsX8_ofCouple) := goodIn_app (goodIn_of _ (by decide +kernel)) ggX8_coupleOf_X8_ofCouple
theorem dX8_coupleOf_0 : decode cX8_coupleOf 0 = .ok (.aload_n 0, 1) := by decide +kernel
theorem dX8_coupleOf_1 : decode cX8_coupleOf 1 = .ok (.iconst 0, 1) := by decide +kernel
theorem dX8_coupleOf_2 : decode cX8_coupleOf 2 = .ok (.putfield 50, 3) := by decide +kernel
theorem dX8_coupleOf_5 : decode cX8_coupleOf 5 = .ok (.aload_n 0, 1) := by decide +kernel
theorem dX8_coupleOf_6 : decode cX8_coupleOf 6 = .ok (.iload_n 1, 1) := by decide +kernel
theorem dX8_coupleOf_7 : decode cX8_coupleOf 7 = .ok (.invokevirtual 104, 3) := by decide +kernel
theorem dX8_coupleOf_10 : decode cX8_coupleOf 10 = .ok (.ifCond .ne 9, 3) := by decide +kernel
theorem dX8_coupleOf_13 : decode cX8_coupleOf 13 = .ok (.aload_n 0, 1) := by decide +kernel
theorem dX8_coupleOf_14 : decode cX8_coupleOf 14 = .ok (.iconst 1, 1) := by decide +kernel
theorem dX8_coupleOf_15 : decode cX8_coupleOf 15 = .ok (.invokevirtual 69, 3) := by decide +kernel
theorem dX8_coupleOf_18 : decode cX8_coupleOf 18 = .ok (.ireturn, 1) := by decide +kernel
theorem dX8_coupleOf_19 : decode cX8_coupleOf 19 = .ok (.iload_n 2, 1) := by decide +kernel
theorem dX8_coupleOf_20 : decode cX8_coupleOf 20 = .ok (.iconst 0, 1) := by decide +kernel
theorem dX8_coupleOf_21 : decode cX8_coupleOf 21 = .ok (.iconst 5, 1) := by decide +kernel
theorem dX8_coupleOf_22 : decode cX8_coupleOf 22 = .ok (.invokestatic 54, 3) := by decide +kernel
theorem dX8_coupleOf_25 : decode cX8_coupleOf 25 = .ok (.ifCond .eq 12, 3) := by decide +kernel
theorem dX8_coupleOf_28 : decode cX8_coupleOf 28 = .ok (.aload_n 0, 1) := by decide +kernel
theorem dX8_coupleOf_29 : decode cX8_coupleOf 29 = .ok (.iload_n 1, 1) := by decide +kernel
theorem dX8_coupleOf_30 : decode cX8_coupleOf 30 = .ok (.iload_n 2, 1) := by decide +kernel
theorem dX8_coupleOf_31 : decode cX8_coupleOf 31 = .ok (.invokevirtual 219, 3) := by decide +kernel
theorem dX8_coupleOf_34 : decode cX8_coupleOf 34 = .ok (.goto 8, 3) := by decide +kernel
theorem dX8_coupleOf_37 : decode cX8_coupleOf 37 = .ok (.aload_n 0, 1) := by decide +kernel
theorem dX8_coupleOf_38 : decode cX8_coupleOf 38 = .ok (.iconst 2, 1) := by decide +kernel
theorem dX8_coupleOf_39 : decode cX8_coupleOf 39 = .ok (.invokevirtual 69, 3) := by decide +kernel
theorem dX8_coupleOf_42 : decode cX8_coupleOf 42 = .ok (.ireturn, 1) := by decide +kernel
set_option maxRecDepth 20000 in
theorem ggX8_personAt_X8_whoIs : GoodIn wsX8_personAt wsX8_whoIs := goodIn_r _ [6, 1, 7, 8, 9, 10, 11, 12, 13, 14, 15, 16, 17, 18, 19, 20, 21, 22, 23, 24, 25, 26, 27] (by decide +kernel) (by decide +kernel)
set_option maxRecDepth 20000 in
theorem gX8_personAt_X8_whoIs : GoodIn wsX8_personAt (wsV RX8 62 RX8 yX8_whoIs wsX8_whoIs) := goodIn_app (goodIn_of _ (by decide +kernel)) ggX8_personAt_X8_whoIs
theorem dX8_personAt_0 : decode cX8_personAt 0 = .ok (.iload_n 2, 1) := by decide +kernel
theorem dX8_personAt_1 : decode cX8_personAt 1 = .ok (.aload_n 0, 1) := by decide +kernel
theorem dX8_personAt_2 : decode cX8_personAt 2 = .ok (.getfield 7, 3) := by decide +kernel
theorem dX8_personAt_5 : decode cX8_personAt 5 = .ok (.bipush 63, 2) := by decide +kernel
theorem dX8_personAt_7 : decode cX8_personAt 7 = .ok (.iload_n 1, 1) := by decide +kernel
theorem dX8_personAt_8 : decode cX8_personAt 8 = .ok (.iadd, 1) := by decide +kernel
theorem dX8_personAt_9 : decode cX8_personAt 9 = .ok (.iaload, 1) := by decide +kernel
theorem dX8_personAt_10 : decode cX8_personAt 10 = .ok (.if_icmp .ge 12, 3) := by decide +kernel
theorem dX8_personAt_13 : decode cX8_personAt 13 = .ok (.aload_n 0, 1) := by decide +kernel
theorem dX8_personAt_14 : decode cX8_personAt 14 = .ok (.iload_n 1, 1) := by decide +kernel
theorem dX8_personAt_15 : decode cX8_personAt 15 = .ok (.iload_n 2, 1) := by decide +kernel
theorem dX8_personAt_16 : decode cX8_personAt 16 = .ok (.invokevirtual 62, 3) := by decide +kernel
theorem dX8_personAt_19 : decode cX8_personAt 19 = .ok (.goto 4, 3) := by decide +kernel
theorem dX8_personAt_22 : decode cX8_personAt 22 = .ok (.iconst (-1), 1) := by decide +kernel
theorem dX8_personAt_23 : decode cX8_personAt 23 = .ok (.ireturn, 1) := by decide +kernel
set_option maxRecDepth 20000 in
theorem ggX8_at_X8_isRow : GoodIn wsX8_at wsX8_isRow := goodIn_r _ [5, 6, 7, 4, 8] (by decide +kernel) (by decide +kernel)
set_option maxRecDepth 20000 in
theorem gX8_at_X8_isRow : GoodIn wsX8_at (va_wsS RX8 94 yX8_isRow wsX8_isRow) := goodIn_app (goodIn_of _ (by decide +kernel)) ggX8_at_X8_isRow
set_option maxRecDepth 20000 in
theorem ggX8_at_X8_fails : GoodIn wsX8_at wsX8_fails := goodIn_r _ [12, 1, 22, 23, 24, 25, 26, 27, 28, 29, 30, 31, 32, 33, 34, 35, 36, 37, 38, 39, 40, 41, 42] (by decide +kernel) (by decide +kernel)
set_option maxRecDepth 20000 in
theorem gX8_at_X8_fails : GoodIn wsX8_at (wsV RX8 69 RX8 yX8_fails wsX8_fails) := goodIn_app (goodIn_of _ (by decide +kernel)) ggX8_at_X8_fails
set_option maxRecDepth 20000 in
theorem ggX8_at_X8_personAt : GoodIn wsX8_at wsX8_personAt := goodIn_r _ [16, 17, 18, 19, 20, 4, 21, 22, 23, 24, 25, 26, 27, 28, 29, 30, 31, 32, 33, 34, 35, 36, 37, 38, 39, 40, 41, 42] (by decide +kernel) (by decide +kernel)
set_option maxRecDepth 20000 in
theorem gX8_at_X8_personAt : GoodIn wsX8_at (wsV RX8 222 RX8 yX8_personAt wsX8_personAt) := goodIn_app (goodIn_of _ (by decide +kernel)) ggX8_at_X8_personAt
theorem dX8_at_0 : decode cX8_at 0 = .ok (.aload_n 0, 1) := by decide +kernel
theorem dX8_at_1 : decode cX8_at 1 = .ok (.iconst 0, 1) := by decide +kernel
theorem dX8_at_2 : decode cX8_at 2 = .ok (.putfield 50, 3) := by decide +kernel
theorem dX8_at_5 : decode cX8_at 5 = .ok (.iload_n 1, 1) := by decide +kernel
theorem dX8_at_6 : decode cX8_at 6 = .ok (.invokestatic 94, 3) := by decide +kernel
theorem dX8_at_9 : decode cX8_at 9 = .ok (.ifCond .ne 9, 3) := by decide +kernel
theorem dX8_at_12 : decode cX8_at 12 = .ok (.aload_n 0, 1) := by decide +kernel
theorem dX8_at_13 : decode cX8_at 13 = .ok (.iconst 1, 1) := by decide +kernel
theorem dX8_at_14 : decode cX8_at 14 = .ok (.invokevirtual 69, 3) := by decide +kernel
theorem dX8_at_17 : decode cX8_at 17 = .ok (.ireturn, 1) := by decide +kernel
theorem dX8_at_18 : decode cX8_at 18 = .ok (.iload_n 2, 1) := by decide +kernel
theorem dX8_at_19 : decode cX8_at 19 = .ok (.ifCond .lt 12, 3) := by decide +kernel
theorem dX8_at_22 : decode cX8_at 22 = .ok (.aload_n 0, 1) := by decide +kernel
theorem dX8_at_23 : decode cX8_at 23 = .ok (.iload_n 1, 1) := by decide +kernel
theorem dX8_at_24 : decode cX8_at 24 = .ok (.iload_n 2, 1) := by decide +kernel
theorem dX8_at_25 : decode cX8_at 25 = .ok (.invokevirtual 222, 3) := by decide +kernel
theorem dX8_at_28 : decode cX8_at 28 = .ok (.goto 8, 3) := by decide +kernel
theorem dX8_at_31 : decode cX8_at 31 = .ok (.aload_n 0, 1) := by decide +kernel
theorem dX8_at_32 : decode cX8_at 32 = .ok (.iconst 2, 1) := by decide +kernel
theorem dX8_at_33 : decode cX8_at 33 = .ok (.invokevirtual 69, 3) := by decide +kernel
theorem dX8_at_36 : decode cX8_at 36 = .ok (.ireturn, 1) := by decide +kernel
set_option maxRecDepth 20000 in
theorem ggX8_crossings_X8_isRow : GoodIn wsX8_crossings wsX8_isRow := goodIn_r _ [5, 6, 7, 4, 8] (by decide +kernel) (by decide +kernel)
set_option maxRecDepth 20000 in
theorem gX8_crossings_X8_isRow : GoodIn wsX8_crossings (va_wsS RX8 94 yX8_isRow wsX8_isRow) := goodIn_app (goodIn_of _ (by decide +kernel)) ggX8_crossings_X8_isRow
set_option maxRecDepth 20000 in
theorem ggX8_crossings_X8_fails : GoodIn wsX8_crossings wsX8_fails := goodIn_r _ [12, 1, 53, 54, 55, 56, 57, 58, 59, 60, 61, 62, 63, 64, 65, 66, 67, 68, 69, 70, 71, 72, 73] (by decide +kernel) (by decide +kernel)
set_option maxRecDepth 20000 in
theorem gX8_crossings_X8_fails : GoodIn wsX8_crossings (wsV RX8 69 RX8 yX8_fails wsX8_fails) := goodIn_app (goodIn_of _ (by decide +kernel)) ggX8_crossings_X8_fails
set_option maxRecDepth 20000 in
theorem ggX8_crossings_X8_in : GoodIn wsX8_crossings wsX8_in := goodIn_r _ [8] (by decide +kernel) (by decide +kernel)
set_option maxRecDepth 20000 in
theorem gX8_crossings_X8_in : GoodIn wsX8_crossings (va_wsS RX8 54 yX8_in wsX8_in) := goodIn_app (goodIn_of _ (by decide +kernel)) ggX8_crossings_X8_in
set_option maxRecDepth 20000 in
theorem ggX8_crossings_X8_crossingsTo : GoodIn wsX8_crossings wsX8_crossingsTo := goodIn_r _ [16, 17, 18, 19, 20, 21, 22, 4, 23, 24, 25, 26, 27, 28, 29, 30, 31, 32, 33, 34, 35, 36, 37, 38, 39, 40, 41, 42, 43, 44, 45, 46, 47, 48, 49, 50, 51, 52, 53, 54, 55, 56, 57, 58, 59, 60, 61, 62, 63, 64, 65, 66, 67, 68, 69, 70, 71, 72, 73] (by decide +kernel) (by decide +kernel)
set_option maxRecDepth 20000 in
theorem gX8_crossings_X8_crossingsTo : GoodIn wsX8_crossings (wsV RX8 126 RX8 yX8_crossingsTo wsX8_crossingsTo) := goodIn_app (goodIn_of _ (by decide +kernel)) ggX8_crossings_X8_crossingsTo
theorem dX8_crossings_0 : decode cX8_crossings 0 = .ok (.aload_n 0, 1) := by decide +kernel
theorem dX8_crossings_1 : decode cX8_crossings 1 = .ok (.iconst 0, 1) := by decide +kernel
theorem dX8_crossings_2 : decode cX8_crossings 2 = .ok (.putfield 50, 3) := by decide +kernel
theorem dX8_crossings_5 : decode cX8_crossings 5 = .ok (.iload_n 1, 1) := by decide +kernel
theorem dX8_crossings_6 : decode cX8_crossings 6 = .ok (.invokestatic 94, 3) := by decide +kernel
theorem dX8_crossings_9 : decode cX8_crossings 9 = .ok (.ifCond .ne 9, 3) := by decide +kernel
theorem dX8_crossings_12 : decode cX8_crossings 12 = .ok (.aload_n 0, 1) := by decide +kernel
theorem dX8_crossings_13 : decode cX8_crossings 13 = .ok (.iconst 1, 1) := by decide +kernel
theorem dX8_crossings_14 : decode cX8_crossings 14 = .ok (.invokevirtual 69, 3) := by decide +kernel
theorem dX8_crossings_17 : decode cX8_crossings 17 = .ok (.ireturn, 1) := by decide +kernel
theorem dX8_crossings_18 : decode cX8_crossings 18 = .ok (.iload_n 2, 1) := by decide +kernel
theorem dX8_crossings_19 : decode cX8_crossings 19 = .ok (.iconst 0, 1) := by decide +kernel
theorem dX8_crossings_20 : decode cX8_crossings 20 = .ok (.iconst 1, 1) := by decide +kernel
theorem dX8_crossings_21 : decode cX8_crossings 21 = .ok (.invokestatic 54, 3) := by decide +kernel
theorem dX8_crossings_24 : decode cX8_crossings 24 = .ok (.ifCond .eq 11, 3) := by decide +kernel
theorem dX8_crossings_27 : decode cX8_crossings 27 = .ok (.aload_n 0, 1) := by decide +kernel
theorem dX8_crossings_28 : decode cX8_crossings 28 = .ok (.iload_n 1, 1) := by decide +kernel
theorem dX8_crossings_29 : decode cX8_crossings 29 = .ok (.invokevirtual 126, 3) := by decide +kernel
theorem dX8_crossings_32 : decode cX8_crossings 32 = .ok (.goto 8, 3) := by decide +kernel
theorem dX8_crossings_35 : decode cX8_crossings 35 = .ok (.aload_n 0, 1) := by decide +kernel
theorem dX8_crossings_36 : decode cX8_crossings 36 = .ok (.iconst 2, 1) := by decide +kernel
theorem dX8_crossings_37 : decode cX8_crossings 37 = .ok (.invokevirtual 69, 3) := by decide +kernel
theorem dX8_crossings_40 : decode cX8_crossings 40 = .ok (.ireturn, 1) := by decide +kernel
set_option maxRecDepth 20000 in
theorem ggX8_allLines_X8_parentsOf : GoodIn wsX8_allLines wsX8_parentsOf := goodIn_r _ [6, 1, 7, 8, 9, 10, 11, 12, 13, 14, 15, 16, 17, 18, 19, 20, 21, 22, 23, 24, 25, 26, 27] (by decide +kernel) (by decide +kernel)
set_option maxRecDepth 20000 in
theorem gX8_allLines_X8_parentsOf : GoodIn wsX8_allLines (wsV RX8 116 RX8 yX8_parentsOf wsX8_parentsOf) := goodIn_app (goodIn_of _ (by decide +kernel)) ggX8_allLines_X8_parentsOf
theorem dX8_allLines_0 : decode cX8_allLines 0 = .ok (.iconst 0, 1) := by decide +kernel
theorem dX8_allLines_1 : decode cX8_allLines 1 = .ok (.istore_n 1, 1) := by decide +kernel
theorem dX8_allLines_2 : decode cX8_allLines 2 = .ok (.iconst 0, 1) := by decide +kernel
theorem dX8_allLines_3 : decode cX8_allLines 3 = .ok (.istore_n 2, 1) := by decide +kernel
theorem dX8_allLines_4 : decode cX8_allLines 4 = .ok (.iload_n 2, 1) := by decide +kernel
theorem dX8_allLines_5 : decode cX8_allLines 5 = .ok (.aload_n 0, 1) := by decide +kernel
theorem dX8_allLines_6 : decode cX8_allLines 6 = .ok (.getfield 7, 3) := by decide +kernel
theorem dX8_allLines_9 : decode cX8_allLines 9 = .ok (.iconst 0, 1) := by decide +kernel
theorem dX8_allLines_10 : decode cX8_allLines 10 = .ok (.iaload, 1) := by decide +kernel
theorem dX8_allLines_11 : decode cX8_allLines 11 = .ok (.if_icmp .ge 26, 3) := by decide +kernel
theorem dX8_allLines_14 : decode cX8_allLines 14 = .ok (.iload_n 1, 1) := by decide +kernel
theorem dX8_allLines_15 : decode cX8_allLines 15 = .ok (.aload_n 0, 1) := by decide +kernel
theorem dX8_allLines_16 : decode cX8_allLines 16 = .ok (.iload_n 2, 1) := by decide +kernel
theorem dX8_allLines_17 : decode cX8_allLines 17 = .ok (.invokevirtual 116, 3) := by decide +kernel
theorem dX8_allLines_20 : decode cX8_allLines 20 = .ok (.iconst (-1), 1) := by decide +kernel
theorem dX8_allLines_21 : decode cX8_allLines 21 = .ok (.if_icmp .eq 7, 3) := by decide +kernel
theorem dX8_allLines_24 : decode cX8_allLines 24 = .ok (.iconst 1, 1) := by decide +kernel
theorem dX8_allLines_25 : decode cX8_allLines 25 = .ok (.goto 4, 3) := by decide +kernel
theorem dX8_allLines_28 : decode cX8_allLines 28 = .ok (.iconst 0, 1) := by decide +kernel
theorem dX8_allLines_29 : decode cX8_allLines 29 = .ok (.iadd, 1) := by decide +kernel
theorem dX8_allLines_30 : decode cX8_allLines 30 = .ok (.istore_n 1, 1) := by decide +kernel
theorem dX8_allLines_31 : decode cX8_allLines 31 = .ok (.iinc 2 1, 3) := by decide +kernel
theorem dX8_allLines_34 : decode cX8_allLines 34 = .ok (.goto (-30), 3) := by decide +kernel
theorem dX8_allLines_37 : decode cX8_allLines 37 = .ok (.iload_n 1, 1) := by decide +kernel
theorem dX8_allLines_38 : decode cX8_allLines 38 = .ok (.ireturn, 1) := by decide +kernel
set_option maxRecDepth 20000 in
theorem ggX8_bent_X8_draw : GoodIn wsX8_bent wsX8_draw := goodIn_r _ [8, 1, 9, 2, 3, 10, 11, 12, 7, 13, 14, 15, 16, 17, 18, 19, 20, 21, 22, 23, 24, 25, 26, 27, 28, 29, 30, 31, 32, 33, 34, 35, 36, 37, 38, 39, 40, 41, 42, 43, 44, 45, 46, 47, 48, 49, 50, 51, 52, 53, 54, 55, 56, 57, 58] (by decide +kernel) (by decide +kernel)
set_option maxRecDepth 20000 in
theorem gX8_bent_X8_draw : GoodIn wsX8_bent (wsV RX8 122 RX8 yX8_draw wsX8_draw) := goodIn_app (goodIn_of _ (by decide +kernel)) ggX8_bent_X8_draw
theorem dX8_bent_0 : decode cX8_bent 0 = .ok (.iconst 0, 1) := by decide +kernel
theorem dX8_bent_1 : decode cX8_bent 1 = .ok (.istore_n 1, 1) := by decide +kernel
theorem dX8_bent_2 : decode cX8_bent 2 = .ok (.iconst 1, 1) := by decide +kernel
theorem dX8_bent_3 : decode cX8_bent 3 = .ok (.istore_n 2, 1) := by decide +kernel
theorem dX8_bent_4 : decode cX8_bent 4 = .ok (.iload_n 2, 1) := by decide +kernel
theorem dX8_bent_5 : decode cX8_bent 5 = .ok (.iconst 4, 1) := by decide +kernel
theorem dX8_bent_6 : decode cX8_bent 6 = .ok (.if_icmp .ge 55, 3) := by decide +kernel
theorem dX8_bent_9 : decode cX8_bent 9 = .ok (.aload_n 0, 1) := by decide +kernel
theorem dX8_bent_10 : decode cX8_bent 10 = .ok (.iload_n 2, 1) := by decide +kernel
theorem dX8_bent_11 : decode cX8_bent 11 = .ok (.invokevirtual 122, 3) := by decide +kernel
theorem dX8_bent_14 : decode cX8_bent 14 = .ok (.iconst 0, 1) := by decide +kernel
theorem dX8_bent_15 : decode cX8_bent 15 = .ok (.istore_n 3, 1) := by decide +kernel
theorem dX8_bent_16 : decode cX8_bent 16 = .ok (.iload_n 3, 1) := by decide +kernel
theorem dX8_bent_17 : decode cX8_bent 17 = .ok (.aload_n 0, 1) := by decide +kernel
theorem dX8_bent_18 : decode cX8_bent 18 = .ok (.getfield 113, 3) := by decide +kernel
theorem dX8_bent_21 : decode cX8_bent 21 = .ok (.if_icmp .ge 34, 3) := by decide +kernel
theorem dX8_bent_24 : decode cX8_bent 24 = .ok (.iload_n 1, 1) := by decide +kernel
theorem dX8_bent_25 : decode cX8_bent 25 = .ok (.aload_n 0, 1) := by decide +kernel
theorem dX8_bent_26 : decode cX8_bent 26 = .ok (.getfield 23, 3) := by decide +kernel
theorem dX8_bent_29 : decode cX8_bent 29 = .ok (.iload_n 3, 1) := by decide +kernel
theorem dX8_bent_30 : decode cX8_bent 30 = .ok (.iaload, 1) := by decide +kernel
theorem dX8_bent_31 : decode cX8_bent 31 = .ok (.iconst 2, 1) := by decide +kernel
theorem dX8_bent_32 : decode cX8_bent 32 = .ok (.aload_n 0, 1) := by decide +kernel
theorem dX8_bent_33 : decode cX8_bent 33 = .ok (.getfield 26, 3) := by decide +kernel
theorem dX8_bent_36 : decode cX8_bent 36 = .ok (.iload_n 3, 1) := by decide +kernel
theorem dX8_bent_37 : decode cX8_bent 37 = .ok (.iaload, 1) := by decide +kernel
theorem dX8_bent_38 : decode cX8_bent 38 = .ok (.imul, 1) := by decide +kernel
theorem dX8_bent_39 : decode cX8_bent 39 = .ok (.if_icmp .eq 7, 3) := by decide +kernel
theorem dX8_bent_42 : decode cX8_bent 42 = .ok (.iconst 1, 1) := by decide +kernel
theorem dX8_bent_43 : decode cX8_bent 43 = .ok (.goto 4, 3) := by decide +kernel
theorem dX8_bent_46 : decode cX8_bent 46 = .ok (.iconst 0, 1) := by decide +kernel
theorem dX8_bent_47 : decode cX8_bent 47 = .ok (.iadd, 1) := by decide +kernel
theorem dX8_bent_48 : decode cX8_bent 48 = .ok (.istore_n 1, 1) := by decide +kernel
theorem dX8_bent_49 : decode cX8_bent 49 = .ok (.iinc 3 1, 3) := by decide +kernel
theorem dX8_bent_52 : decode cX8_bent 52 = .ok (.goto (-36), 3) := by decide +kernel
theorem dX8_bent_55 : decode cX8_bent 55 = .ok (.iinc 2 1, 3) := by decide +kernel
theorem dX8_bent_58 : decode cX8_bent 58 = .ok (.goto (-54), 3) := by decide +kernel
theorem dX8_bent_61 : decode cX8_bent 61 = .ok (.iload_n 1, 1) := by decide +kernel
theorem dX8_bent_62 : decode cX8_bent 62 = .ok (.ireturn, 1) := by decide +kernel
set_option maxRecDepth 20000 in
theorem ggX8_doubles_X8_couplesOf : GoodIn wsX8_doubles wsX8_couplesOf := goodIn_r _ [6, 1, 7, 8, 9, 5, 10, 11, 12, 13, 14, 15, 16, 17, 18, 19, 20, 21, 22, 23, 24, 25, 26, 27, 28, 29, 30, 31, 32, 33, 34, 35] (by decide +kernel) (by decide +kernel)
set_option maxRecDepth 20000 in
theorem gX8_doubles_X8_couplesOf : GoodIn wsX8_doubles (wsV RX8 85 RX8 yX8_couplesOf wsX8_couplesOf) := goodIn_app (goodIn_of _ (by decide +kernel)) ggX8_doubles_X8_couplesOf
theorem dX8_doubles_0 : decode cX8_doubles 0 = .ok (.iconst 0, 1) := by decide +kernel
theorem dX8_doubles_1 : decode cX8_doubles 1 = .ok (.istore_n 1, 1) := by decide +kernel
theorem dX8_doubles_2 : decode cX8_doubles 2 = .ok (.iconst 0, 1) := by decide +kernel
theorem dX8_doubles_3 : decode cX8_doubles 3 = .ok (.istore_n 2, 1) := by decide +kernel
theorem dX8_doubles_4 : decode cX8_doubles 4 = .ok (.iload_n 2, 1) := by decide +kernel
theorem dX8_doubles_5 : decode cX8_doubles 5 = .ok (.aload_n 0, 1) := by decide +kernel
theorem dX8_doubles_6 : decode cX8_doubles 6 = .ok (.getfield 7, 3) := by decide +kernel
theorem dX8_doubles_9 : decode cX8_doubles 9 = .ok (.iconst 0, 1) := by decide +kernel
theorem dX8_doubles_10 : decode cX8_doubles 10 = .ok (.iaload, 1) := by decide +kernel
theorem dX8_doubles_11 : decode cX8_doubles 11 = .ok (.if_icmp .ge 26, 3) := by decide +kernel
theorem dX8_doubles_14 : decode cX8_doubles 14 = .ok (.iload_n 1, 1) := by decide +kernel
theorem dX8_doubles_15 : decode cX8_doubles 15 = .ok (.aload_n 0, 1) := by decide +kernel
theorem dX8_doubles_16 : decode cX8_doubles 16 = .ok (.iload_n 2, 1) := by decide +kernel
theorem dX8_doubles_17 : decode cX8_doubles 17 = .ok (.invokevirtual 85, 3) := by decide +kernel
theorem dX8_doubles_20 : decode cX8_doubles 20 = .ok (.iconst 2, 1) := by decide +kernel
theorem dX8_doubles_21 : decode cX8_doubles 21 = .ok (.if_icmp .ne 7, 3) := by decide +kernel
theorem dX8_doubles_24 : decode cX8_doubles 24 = .ok (.iconst 1, 1) := by decide +kernel
theorem dX8_doubles_25 : decode cX8_doubles 25 = .ok (.goto 4, 3) := by decide +kernel
theorem dX8_doubles_28 : decode cX8_doubles 28 = .ok (.iconst 0, 1) := by decide +kernel
theorem dX8_doubles_29 : decode cX8_doubles 29 = .ok (.iadd, 1) := by decide +kernel
theorem dX8_doubles_30 : decode cX8_doubles 30 = .ok (.istore_n 1, 1) := by decide +kernel
theorem dX8_doubles_31 : decode cX8_doubles 31 = .ok (.iinc 2 1, 3) := by decide +kernel
theorem dX8_doubles_34 : decode cX8_doubles 34 = .ok (.goto (-30), 3) := by decide +kernel
theorem dX8_doubles_37 : decode cX8_doubles 37 = .ok (.iload_n 1, 1) := by decide +kernel
theorem dX8_doubles_38 : decode cX8_doubles 38 = .ok (.ireturn, 1) := by decide +kernel
set_option maxRecDepth 20000 in
theorem ggX8_akin_X8_common : GoodIn wsX8_akin wsX8_common := goodIn_r _ [6, 7, 8, 9, 5, 10, 1, 11, 12, 13, 14, 15, 16, 17, 18, 19, 20, 21, 22, 23, 24, 25, 26, 27, 28, 29, 30, 31, 32, 33, 34, 35, 36, 37, 38, 39, 40, 41, 42, 43, 44, 45, 46, 47, 48, 49, 50] (by decide +kernel) (by decide +kernel)
set_option maxRecDepth 20000 in
theorem gX8_akin_X8_common : GoodIn wsX8_akin (wsV RX8 216 RX8 yX8_common wsX8_common) := goodIn_app (goodIn_of _ (by decide +kernel)) ggX8_akin_X8_common
theorem dX8_akin_0 : decode cX8_akin 0 = .ok (.iconst 0, 1) := by decide +kernel
theorem dX8_akin_1 : decode cX8_akin 1 = .ok (.istore_n 1, 1) := by decide +kernel
theorem dX8_akin_2 : decode cX8_akin 2 = .ok (.iconst 0, 1) := by decide +kernel
theorem dX8_akin_3 : decode cX8_akin 3 = .ok (.istore_n 2, 1) := by decide +kernel
theorem dX8_akin_4 : decode cX8_akin 4 = .ok (.iload_n 2, 1) := by decide +kernel
theorem dX8_akin_5 : decode cX8_akin 5 = .ok (.aload_n 0, 1) := by decide +kernel
theorem dX8_akin_6 : decode cX8_akin 6 = .ok (.getfield 7, 3) := by decide +kernel
theorem dX8_akin_9 : decode cX8_akin 9 = .ok (.iconst 1, 1) := by decide +kernel
theorem dX8_akin_10 : decode cX8_akin 10 = .ok (.iaload, 1) := by decide +kernel
theorem dX8_akin_11 : decode cX8_akin 11 = .ok (.if_icmp .ge 25, 3) := by decide +kernel
theorem dX8_akin_14 : decode cX8_akin 14 = .ok (.iload_n 1, 1) := by decide +kernel
theorem dX8_akin_15 : decode cX8_akin 15 = .ok (.aload_n 0, 1) := by decide +kernel
theorem dX8_akin_16 : decode cX8_akin 16 = .ok (.iload_n 2, 1) := by decide +kernel
theorem dX8_akin_17 : decode cX8_akin 17 = .ok (.invokevirtual 216, 3) := by decide +kernel
theorem dX8_akin_20 : decode cX8_akin 20 = .ok (.ifCond .le 7, 3) := by decide +kernel
theorem dX8_akin_23 : decode cX8_akin 23 = .ok (.iconst 1, 1) := by decide +kernel
theorem dX8_akin_24 : decode cX8_akin 24 = .ok (.goto 4, 3) := by decide +kernel
theorem dX8_akin_27 : decode cX8_akin 27 = .ok (.iconst 0, 1) := by decide +kernel
theorem dX8_akin_28 : decode cX8_akin 28 = .ok (.iadd, 1) := by decide +kernel
theorem dX8_akin_29 : decode cX8_akin 29 = .ok (.istore_n 1, 1) := by decide +kernel
theorem dX8_akin_30 : decode cX8_akin 30 = .ok (.iinc 2 1, 3) := by decide +kernel
theorem dX8_akin_33 : decode cX8_akin 33 = .ok (.goto (-29), 3) := by decide +kernel
theorem dX8_akin_36 : decode cX8_akin 36 = .ok (.iload_n 1, 1) := by decide +kernel
theorem dX8_akin_37 : decode cX8_akin 37 = .ok (.ireturn, 1) := by decide +kernel
set_option maxRecDepth 20000 in
theorem ggX8_count0_X8_allLines : GoodIn wsX8_count0 wsX8_allLines := goodIn_r _ [7, 1, 8, 9, 10, 6, 11, 82, 83, 84, 85, 86, 87, 88, 89, 90, 91, 92, 93, 94, 95, 96, 97, 98, 99, 100, 101, 102] (by decide +kernel) (by decide +kernel)
set_option maxRecDepth 20000 in
theorem gX8_count0_X8_allLines : GoodIn wsX8_count0 (wsV RX8 225 RX8 yX8_allLines wsX8_allLines) := goodIn_app (goodIn_of _ (by decide +kernel)) ggX8_count0_X8_allLines
set_option maxRecDepth 20000 in
theorem ggX8_count0_X8_allCrossings : GoodIn wsX8_count0 wsX8_allCrossings := goodIn_r _ [15, 16, 17, 18, 6, 19, 20, 21, 22, 23, 24, 25, 26, 1, 27, 28, 29, 30, 8, 9, 10, 11, 31, 32, 33, 34, 35, 36, 37, 38, 39, 40, 41, 42, 43, 44, 45, 46, 47, 48, 49, 50, 82, 83, 84, 85, 86, 87, 88, 89, 90, 91, 92, 93, 94, 95, 96, 97, 98, 99, 100, 101, 102] (by decide +kernel) (by decide +kernel)
set_option maxRecDepth 20000 in
theorem gX8_count0_X8_allCrossings : GoodIn wsX8_count0 (wsV RX8 129 RX8 yX8_allCrossings wsX8_allCrossings) := goodIn_app (goodIn_of _ (by decide +kernel)) ggX8_count0_X8_allCrossings
set_option maxRecDepth 20000 in
theorem ggX8_count0_X8_bent : GoodIn wsX8_count0 wsX8_bent := goodIn_r _ [54, 20, 21, 22, 23, 24, 25, 6, 26, 1, 27, 28, 29, 30, 8, 9, 10, 11, 31, 32, 33, 34, 35, 36, 37, 38, 39, 40, 41, 42, 43, 44, 45, 46, 47, 48, 49, 50, 82, 83, 84, 85, 86, 87, 88, 89, 90, 91, 92, 93, 94, 95, 96, 97, 98, 99, 100, 101, 102] (by decide +kernel) (by decide +kernel)
