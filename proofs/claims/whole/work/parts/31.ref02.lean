theorem dX6_bridges_52 : decode cX6_bridges 52 = .ok (.ifCond .eq 6, 3) := by decide +kernel
theorem dX6_bridges_55 : decode cX6_bridges 55 = .ok (.goto 33, 3) := by decide +kernel
theorem dX6_bridges_58 : decode cX6_bridges 58 = .ok (.aload_n 0, 1) := by decide +kernel
theorem dX6_bridges_59 : decode cX6_bridges 59 = .ok (.getfield 7, 3) := by decide +kernel
theorem dX6_bridges_62 : decode cX6_bridges 62 = .ok (.iload_n 1, 1) := by decide +kernel
theorem dX6_bridges_63 : decode cX6_bridges 63 = .ok (.iaload, 1) := by decide +kernel
theorem dX6_bridges_64 : decode cX6_bridges 64 = .ok (.iconst 1, 1) := by decide +kernel
theorem dX6_bridges_65 : decode cX6_bridges 65 = .ok (.if_icmp .ne 13, 3) := by decide +kernel
theorem dX6_bridges_68 : decode cX6_bridges 68 = .ok (.aload_n 0, 1) := by decide +kernel
theorem dX6_bridges_69 : decode cX6_bridges 69 = .ok (.bipush 8, 2) := by decide +kernel
theorem dX6_bridges_71 : decode cX6_bridges 71 = .ok (.iload_n 1, 1) := by decide +kernel
theorem dX6_bridges_72 : decode cX6_bridges 72 = .ok (.invokevirtual 122, 3) := by decide +kernel
theorem dX6_bridges_75 : decode cX6_bridges 75 = .ok (.goto 12, 3) := by decide +kernel
theorem dX6_bridges_78 : decode cX6_bridges 78 = .ok (.aload_n 0, 1) := by decide +kernel
theorem dX6_bridges_79 : decode cX6_bridges 79 = .ok (.bipush 8, 2) := by decide +kernel
theorem dX6_bridges_81 : decode cX6_bridges 81 = .ok (.iload_n 1, 1) := by decide +kernel
theorem dX6_bridges_82 : decode cX6_bridges 82 = .ok (.iload_n 1, 1) := by decide +kernel
theorem dX6_bridges_83 : decode cX6_bridges 83 = .ok (.iconst 2, 1) := by decide +kernel
theorem dX6_bridges_84 : decode cX6_bridges 84 = .ok (.invokevirtual 144, 3) := by decide +kernel
theorem dX6_bridges_87 : decode cX6_bridges 87 = .ok (.ireturn, 1) := by decide +kernel
theorem dX6_bridges_88 : decode cX6_bridges 88 = .ok (.iinc 1 1, 3) := by decide +kernel
theorem dX6_bridges_91 : decode cX6_bridges 91 = .ok (.goto (-89), 3) := by decide +kernel
theorem dX6_bridges_94 : decode cX6_bridges 94 = .ok (.iconst 0, 1) := by decide +kernel
theorem dX6_bridges_95 : decode cX6_bridges 95 = .ok (.ireturn, 1) := by decide +kernel
set_option maxRecDepth 20000 in
theorem ggX6_needs_X6_count : GoodIn wsX6_needs wsX6_count := goodIn_r _ [6, 7, 8, 9, 10, 5, 11, 12, 13, 14, 15, 16, 17, 18, 19, 20, 21, 22, 23, 24, 25, 26, 27, 28, 29, 30, 31, 32, 33, 34, 35, 36, 37, 38, 39, 40, 41, 42, 43, 44, 45, 46] (by decide +kernel) (by decide +kernel)
set_option maxRecDepth 20000 in
theorem gX6_needs_X6_count : GoodIn wsX6_needs (wsV RX6 119 RX6 yX6_count wsX6_count) := goodIn_app (goodIn_of _ (by decide +kernel)) ggX6_needs_X6_count
theorem dX6_needs_0 : decode cX6_needs 0 = .ok (.aload_n 0, 1) := by decide +kernel
theorem dX6_needs_1 : decode cX6_needs 1 = .ok (.getfield 13, 3) := by decide +kernel
theorem dX6_needs_4 : decode cX6_needs 4 = .ok (.iload_n 1, 1) := by decide +kernel
theorem dX6_needs_5 : decode cX6_needs 5 = .ok (.iaload, 1) := by decide +kernel
theorem dX6_needs_6 : decode cX6_needs 6 = .ok (.iconst 1, 1) := by decide +kernel
theorem dX6_needs_7 : decode cX6_needs 7 = .ok (.if_icmp .eq 12, 3) := by decide +kernel
theorem dX6_needs_10 : decode cX6_needs 10 = .ok (.aload_n 0, 1) := by decide +kernel
theorem dX6_needs_11 : decode cX6_needs 11 = .ok (.iload_n 1, 1) := by decide +kernel
theorem dX6_needs_12 : decode cX6_needs 12 = .ok (.iconst 1, 1) := by decide +kernel
theorem dX6_needs_13 : decode cX6_needs 13 = .ok (.invokevirtual 119, 3) := by decide +kernel
theorem dX6_needs_16 : decode cX6_needs 16 = .ok (.ifCond .le 7, 3) := by decide +kernel
theorem dX6_needs_19 : decode cX6_needs 19 = .ok (.iconst 1, 1) := by decide +kernel
theorem dX6_needs_20 : decode cX6_needs 20 = .ok (.goto 4, 3) := by decide +kernel
theorem dX6_needs_23 : decode cX6_needs 23 = .ok (.iconst 0, 1) := by decide +kernel
theorem dX6_needs_24 : decode cX6_needs 24 = .ok (.ireturn, 1) := by decide +kernel
set_option maxRecDepth 20000 in
theorem ggX6_apart_X6_all : GoodIn wsX6_apart wsX6_all := goodIn_r _ [7, 8, 9, 66, 67, 68, 69, 70, 71, 72, 73, 74, 75, 76, 77, 78, 79, 80, 81, 82, 83, 84, 85, 86, 87, 88, 89, 90] (by decide +kernel) (by decide +kernel)
set_option maxRecDepth 20000 in
theorem gX6_apart_X6_all : GoodIn wsX6_apart (wsV RX6 78 RX6 yX6_all wsX6_all) := goodIn_app (goodIn_of _ (by decide +kernel)) ggX6_apart_X6_all
set_option maxRecDepth 20000 in
theorem ggX6_apart_X6_needs : GoodIn wsX6_apart wsX6_needs := goodIn_r _ [13, 14, 15, 16, 17, 6, 18, 2, 19, 20, 21, 22, 8, 23, 24, 25, 26, 9, 3, 4, 5, 7, 66, 67, 68, 69, 70, 71, 72, 73, 74, 75, 76, 77, 78, 79, 80, 81, 82, 83, 84, 85, 86, 87, 88, 89, 90] (by decide +kernel) (by decide +kernel)
set_option maxRecDepth 20000 in
theorem gX6_apart_X6_needs : GoodIn wsX6_apart (wsV RX6 148 RX6 yX6_needs wsX6_needs) := goodIn_app (goodIn_of _ (by decide +kernel)) ggX6_apart_X6_needs
set_option maxRecDepth 20000 in
theorem ggX6_apart_X6_spread : GoodIn wsX6_apart wsX6_spread := goodIn_r _ [30, 1, 2, 31, 32, 33, 6, 34, 3, 4, 5, 7, 8, 9, 23, 24, 25, 26, 35, 36, 37, 38, 66, 67, 68, 69, 70, 71, 72, 73, 74, 75, 76, 77, 78, 79, 80, 81, 82, 83, 84, 85, 86, 87, 88, 89, 90] (by decide +kernel) (by decide +kernel)
set_option maxRecDepth 20000 in
theorem gX6_apart_X6_spread : GoodIn wsX6_apart (wsV RX6 133 RX6 yX6_spread wsX6_spread) := goodIn_app (goodIn_of _ (by decide +kernel)) ggX6_apart_X6_spread
set_option maxRecDepth 20000 in
theorem ggX6_apart_X6_isWrongAt : GoodIn wsX6_apart wsX6_isWrongAt := goodIn_r _ [42, 43, 44, 45, 46, 6, 47, 48, 49, 50, 51, 66, 67, 68, 69, 70, 71, 72, 73, 74, 75, 76, 77, 78, 79, 80, 81, 82, 83, 84, 85, 86, 87, 88, 89, 90] (by decide +kernel) (by decide +kernel)
set_option maxRecDepth 20000 in
theorem gX6_apart_X6_isWrongAt : GoodIn wsX6_apart (wsV RX6 122 RX6 yX6_isWrongAt wsX6_isWrongAt) := goodIn_app (goodIn_of _ (by decide +kernel)) ggX6_apart_X6_isWrongAt
set_option maxRecDepth 20000 in
theorem ggX6_apart_X6_isEdge : GoodIn wsX6_apart wsX6_isEdge := goodIn_r _ [26, 8, 9, 3, 4, 5, 6, 7, 66, 67, 68, 69, 70, 71, 72, 73, 74, 75, 76, 77, 78, 79, 80, 81, 82, 83, 84, 85, 86, 87, 88, 89, 90] (by decide +kernel) (by decide +kernel)
set_option maxRecDepth 20000 in
theorem gX6_apart_X6_isEdge : GoodIn wsX6_apart (wsV RX6 82 RX6 yX6_isEdge wsX6_isEdge) := goodIn_app (goodIn_of _ (by decide +kernel)) ggX6_apart_X6_isEdge
set_option maxRecDepth 20000 in
theorem ggX6_apart_X6_setOne : GoodIn wsX6_apart wsX6_setOne := goodIn_r _ [55, 44, 45, 46, 6, 47, 48, 49, 50, 51, 56, 57, 58, 59, 2, 60, 61, 62, 63, 64, 65, 66, 67, 68, 69, 70, 71, 72, 73, 74, 75, 76, 77, 78, 79, 80, 81, 82, 83, 84, 85, 86, 87, 88, 89, 90] (by decide +kernel) (by decide +kernel)
set_option maxRecDepth 20000 in
theorem gX6_apart_X6_setOne : GoodIn wsX6_apart (wsV RX6 144 RX6 yX6_setOne wsX6_setOne) := goodIn_app (goodIn_of _ (by decide +kernel)) ggX6_apart_X6_setOne
theorem dX6_apart_0 : decode cX6_apart 0 = .ok (.iconst (-1), 1) := by decide +kernel
theorem dX6_apart_1 : decode cX6_apart 1 = .ok (.istore_n 1, 1) := by decide +kernel
theorem dX6_apart_2 : decode cX6_apart 2 = .ok (.aload_n 0, 1) := by decide +kernel
theorem dX6_apart_3 : decode cX6_apart 3 = .ok (.invokevirtual 78, 3) := by decide +kernel
theorem dX6_apart_6 : decode cX6_apart 6 = .ok (.iconst 1, 1) := by decide +kernel
theorem dX6_apart_7 : decode cX6_apart 7 = .ok (.isub, 1) := by decide +kernel
theorem dX6_apart_8 : decode cX6_apart 8 = .ok (.istore_n 2, 1) := by decide +kernel
theorem dX6_apart_9 : decode cX6_apart 9 = .ok (.iload_n 2, 1) := by decide +kernel
theorem dX6_apart_10 : decode cX6_apart 10 = .ok (.ifCond .lt 23, 3) := by decide +kernel
theorem dX6_apart_13 : decode cX6_apart 13 = .ok (.aload_n 0, 1) := by decide +kernel
theorem dX6_apart_14 : decode cX6_apart 14 = .ok (.iload_n 2, 1) := by decide +kernel
theorem dX6_apart_15 : decode cX6_apart 15 = .ok (.invokevirtual 148, 3) := by decide +kernel
theorem dX6_apart_18 : decode cX6_apart 18 = .ok (.ifCond .eq 7, 3) := by decide +kernel
theorem dX6_apart_21 : decode cX6_apart 21 = .ok (.iload_n 2, 1) := by decide +kernel
theorem dX6_apart_22 : decode cX6_apart 22 = .ok (.goto 4, 3) := by decide +kernel
theorem dX6_apart_25 : decode cX6_apart 25 = .ok (.iload_n 1, 1) := by decide +kernel
theorem dX6_apart_26 : decode cX6_apart 26 = .ok (.istore_n 1, 1) := by decide +kernel
theorem dX6_apart_27 : decode cX6_apart 27 = .ok (.iinc 2 (-1), 3) := by decide +kernel
theorem dX6_apart_30 : decode cX6_apart 30 = .ok (.goto (-21), 3) := by decide +kernel
theorem dX6_apart_33 : decode cX6_apart 33 = .ok (.iload_n 1, 1) := by decide +kernel
theorem dX6_apart_34 : decode cX6_apart 34 = .ok (.ifCond .ge 5, 3) := by decide +kernel
theorem dX6_apart_37 : decode cX6_apart 37 = .ok (.iconst 0, 1) := by decide +kernel
theorem dX6_apart_38 : decode cX6_apart 38 = .ok (.ireturn, 1) := by decide +kernel
theorem dX6_apart_39 : decode cX6_apart 39 = .ok (.aload_n 0, 1) := by decide +kernel
theorem dX6_apart_40 : decode cX6_apart 40 = .ok (.iload_n 1, 1) := by decide +kernel
theorem dX6_apart_41 : decode cX6_apart 41 = .ok (.iconst 0, 1) := by decide +kernel
theorem dX6_apart_42 : decode cX6_apart 42 = .ok (.iconst (-1), 1) := by decide +kernel
theorem dX6_apart_43 : decode cX6_apart 43 = .ok (.invokevirtual 133, 3) := by decide +kernel
theorem dX6_apart_46 : decode cX6_apart 46 = .ok (.iconst 0, 1) := by decide +kernel
theorem dX6_apart_47 : decode cX6_apart 47 = .ok (.istore_n 2, 1) := by decide +kernel
theorem dX6_apart_48 : decode cX6_apart 48 = .ok (.iload_n 2, 1) := by decide +kernel
theorem dX6_apart_49 : decode cX6_apart 49 = .ok (.aload_n 0, 1) := by decide +kernel
theorem dX6_apart_50 : decode cX6_apart 50 = .ok (.invokevirtual 78, 3) := by decide +kernel
theorem dX6_apart_53 : decode cX6_apart 53 = .ok (.if_icmp .ge 34, 3) := by decide +kernel
theorem dX6_apart_56 : decode cX6_apart 56 = .ok (.aload_n 0, 1) := by decide +kernel
theorem dX6_apart_57 : decode cX6_apart 57 = .ok (.iload_n 2, 1) := by decide +kernel
theorem dX6_apart_58 : decode cX6_apart 58 = .ok (.invokevirtual 148, 3) := by decide +kernel
theorem dX6_apart_61 : decode cX6_apart 61 = .ok (.ifCond .eq 20, 3) := by decide +kernel
theorem dX6_apart_64 : decode cX6_apart 64 = .ok (.aload_n 0, 1) := by decide +kernel
theorem dX6_apart_65 : decode cX6_apart 65 = .ok (.getfield 66, 3) := by decide +kernel
theorem dX6_apart_68 : decode cX6_apart 68 = .ok (.iload_n 2, 1) := by decide +kernel
theorem dX6_apart_69 : decode cX6_apart 69 = .ok (.baload, 1) := by decide +kernel
theorem dX6_apart_70 : decode cX6_apart 70 = .ok (.ifCond .ne 11, 3) := by decide +kernel
theorem dX6_apart_73 : decode cX6_apart 73 = .ok (.aload_n 0, 1) := by decide +kernel
theorem dX6_apart_74 : decode cX6_apart 74 = .ok (.bipush 9, 2) := by decide +kernel
theorem dX6_apart_76 : decode cX6_apart 76 = .ok (.iload_n 2, 1) := by decide +kernel
theorem dX6_apart_77 : decode cX6_apart 77 = .ok (.invokevirtual 122, 3) := by decide +kernel
theorem dX6_apart_80 : decode cX6_apart 80 = .ok (.ireturn, 1) := by decide +kernel
theorem dX6_apart_81 : decode cX6_apart 81 = .ok (.iinc 2 1, 3) := by decide +kernel
theorem dX6_apart_84 : decode cX6_apart 84 = .ok (.goto (-36), 3) := by decide +kernel
theorem dX6_apart_87 : decode cX6_apart 87 = .ok (.iconst 0, 1) := by decide +kernel
theorem dX6_apart_88 : decode cX6_apart 88 = .ok (.istore_n 2, 1) := by decide +kernel
theorem dX6_apart_89 : decode cX6_apart 89 = .ok (.iload_n 2, 1) := by decide +kernel
theorem dX6_apart_90 : decode cX6_apart 90 = .ok (.iconst 2, 1) := by decide +kernel
theorem dX6_apart_91 : decode cX6_apart 91 = .ok (.aload_n 0, 1) := by decide +kernel
theorem dX6_apart_92 : decode cX6_apart 92 = .ok (.invokevirtual 78, 3) := by decide +kernel
theorem dX6_apart_95 : decode cX6_apart 95 = .ok (.imul, 1) := by decide +kernel
theorem dX6_apart_96 : decode cX6_apart 96 = .ok (.if_icmp .ge 47, 3) := by decide +kernel
theorem dX6_apart_99 : decode cX6_apart 99 = .ok (.aload_n 0, 1) := by decide +kernel
theorem dX6_apart_100 : decode cX6_apart 100 = .ok (.iload_n 2, 1) := by decide +kernel
theorem dX6_apart_101 : decode cX6_apart 101 = .ok (.invokevirtual 82, 3) := by decide +kernel
theorem dX6_apart_104 : decode cX6_apart 104 = .ok (.ifCond .eq 33, 3) := by decide +kernel
theorem dX6_apart_107 : decode cX6_apart 107 = .ok (.aload_n 0, 1) := by decide +kernel
theorem dX6_apart_108 : decode cX6_apart 108 = .ok (.getfield 7, 3) := by decide +kernel
theorem dX6_apart_111 : decode cX6_apart 111 = .ok (.iload_n 2, 1) := by decide +kernel
theorem dX6_apart_112 : decode cX6_apart 112 = .ok (.iaload, 1) := by decide +kernel
theorem dX6_apart_113 : decode cX6_apart 113 = .ok (.ifCond .ne 24, 3) := by decide +kernel
theorem dX6_apart_116 : decode cX6_apart 116 = .ok (.aload_n 0, 1) := by decide +kernel
theorem dX6_apart_117 : decode cX6_apart 117 = .ok (.getfield 66, 3) := by decide +kernel
theorem dX6_apart_120 : decode cX6_apart 120 = .ok (.iload_n 2, 1) := by decide +kernel
theorem dX6_apart_121 : decode cX6_apart 121 = .ok (.iconst 2, 1) := by decide +kernel
theorem dX6_apart_122 : decode cX6_apart 122 = .ok (.idiv, 1) := by decide +kernel
theorem dX6_apart_123 : decode cX6_apart 123 = .ok (.baload, 1) := by decide +kernel
theorem dX6_apart_124 : decode cX6_apart 124 = .ok (.ifCond .ne 13, 3) := by decide +kernel
theorem dX6_apart_127 : decode cX6_apart 127 = .ok (.aload_n 0, 1) := by decide +kernel
theorem dX6_apart_128 : decode cX6_apart 128 = .ok (.bipush 9, 2) := by decide +kernel
theorem dX6_apart_130 : decode cX6_apart 130 = .ok (.iload_n 2, 1) := by decide +kernel
theorem dX6_apart_131 : decode cX6_apart 131 = .ok (.iload_n 2, 1) := by decide +kernel
theorem dX6_apart_132 : decode cX6_apart 132 = .ok (.iconst 2, 1) := by decide +kernel
theorem dX6_apart_133 : decode cX6_apart 133 = .ok (.invokevirtual 144, 3) := by decide +kernel
theorem dX6_apart_136 : decode cX6_apart 136 = .ok (.ireturn, 1) := by decide +kernel
theorem dX6_apart_137 : decode cX6_apart 137 = .ok (.iinc 2 1, 3) := by decide +kernel
theorem dX6_apart_140 : decode cX6_apart 140 = .ok (.goto (-51), 3) := by decide +kernel
theorem dX6_apart_143 : decode cX6_apart 143 = .ok (.iconst 0, 1) := by decide +kernel
theorem dX6_apart_144 : decode cX6_apart 144 = .ok (.ireturn, 1) := by decide +kernel
set_option maxRecDepth 20000 in
theorem ggX6_painted_X6_all : GoodIn wsX6_painted wsX6_all := goodIn_r _ [6, 7, 8, 9, 10, 11, 12, 13, 14, 15, 16, 17, 18, 19, 20, 21, 22, 23, 24, 25, 26, 27, 28, 29, 30, 31, 32, 33] (by decide +kernel) (by decide +kernel)
set_option maxRecDepth 20000 in
theorem gX6_painted_X6_all : GoodIn wsX6_painted (wsV RX6 78 RX6 yX6_all wsX6_all) := goodIn_app (goodIn_of _ (by decide +kernel)) ggX6_painted_X6_all
theorem dX6_painted_0 : decode cX6_painted 0 = .ok (.iconst 0, 1) := by decide +kernel
theorem dX6_painted_1 : decode cX6_painted 1 = .ok (.istore_n 2, 1) := by decide +kernel
theorem dX6_painted_2 : decode cX6_painted 2 = .ok (.iconst 0, 1) := by decide +kernel
theorem dX6_painted_3 : decode cX6_painted 3 = .ok (.istore_n 3, 1) := by decide +kernel
theorem dX6_painted_4 : decode cX6_painted 4 = .ok (.iload_n 3, 1) := by decide +kernel
theorem dX6_painted_5 : decode cX6_painted 5 = .ok (.aload_n 0, 1) := by decide +kernel
theorem dX6_painted_6 : decode cX6_painted 6 = .ok (.invokevirtual 78, 3) := by decide +kernel
theorem dX6_painted_9 : decode cX6_painted 9 = .ok (.if_icmp .ge 27, 3) := by decide +kernel
theorem dX6_painted_12 : decode cX6_painted 12 = .ok (.iload_n 2, 1) := by decide +kernel
theorem dX6_painted_13 : decode cX6_painted 13 = .ok (.aload_n 0, 1) := by decide +kernel
theorem dX6_painted_14 : decode cX6_painted 14 = .ok (.getfield 16, 3) := by decide +kernel
theorem dX6_painted_17 : decode cX6_painted 17 = .ok (.iload_n 3, 1) := by decide +kernel
theorem dX6_painted_18 : decode cX6_painted 18 = .ok (.iaload, 1) := by decide +kernel
theorem dX6_painted_19 : decode cX6_painted 19 = .ok (.iload_n 1, 1) := by decide +kernel
theorem dX6_painted_20 : decode cX6_painted 20 = .ok (.if_icmp .ne 7, 3) := by decide +kernel
theorem dX6_painted_23 : decode cX6_painted 23 = .ok (.iconst 1, 1) := by decide +kernel
theorem dX6_painted_24 : decode cX6_painted 24 = .ok (.goto 4, 3) := by decide +kernel
theorem dX6_painted_27 : decode cX6_painted 27 = .ok (.iconst 0, 1) := by decide +kernel
theorem dX6_painted_28 : decode cX6_painted 28 = .ok (.iadd, 1) := by decide +kernel
theorem dX6_painted_29 : decode cX6_painted 29 = .ok (.istore_n 2, 1) := by decide +kernel
theorem dX6_painted_30 : decode cX6_painted 30 = .ok (.iinc 3 1, 3) := by decide +kernel
theorem dX6_painted_33 : decode cX6_painted 33 = .ok (.goto (-29), 3) := by decide +kernel
theorem dX6_painted_36 : decode cX6_painted 36 = .ok (.iload_n 2, 1) := by decide +kernel
theorem dX6_painted_37 : decode cX6_painted 37 = .ok (.ireturn, 1) := by decide +kernel
set_option maxRecDepth 20000 in
theorem ggX6_many_X6_painted : GoodIn wsX6_many wsX6_painted := goodIn_r _ [7, 2, 8, 9, 10, 6, 11, 12, 13, 37, 38, 39, 40, 41, 42, 43, 44, 45, 46, 47, 48, 49, 50, 51, 52, 53, 54, 55, 56, 57, 58, 59, 60, 61] (by decide +kernel) (by decide +kernel)
set_option maxRecDepth 20000 in
theorem gX6_many_X6_painted : GoodIn wsX6_many (wsV RX6 151 RX6 yX6_painted wsX6_painted) := goodIn_app (goodIn_of _ (by decide +kernel)) ggX6_many_X6_painted
set_option maxRecDepth 20000 in
theorem ggX6_many_X6_isWrongAt : GoodIn wsX6_many wsX6_isWrongAt := goodIn_r _ [17, 18, 19, 20, 21, 6, 22, 23, 24, 25, 26, 37, 38, 39, 40, 41, 42, 43, 44, 45, 46, 47, 48, 49, 50, 51, 52, 53, 54, 55, 56, 57, 58, 59, 60, 61] (by decide +kernel) (by decide +kernel)
set_option maxRecDepth 20000 in
theorem gX6_many_X6_isWrongAt : GoodIn wsX6_many (wsV RX6 122 RX6 yX6_isWrongAt wsX6_isWrongAt) := goodIn_app (goodIn_of _ (by decide +kernel)) ggX6_many_X6_isWrongAt
set_option maxRecDepth 20000 in
theorem ggX6_many_X6_begin : GoodIn wsX6_many wsX6_begin := goodIn_r _ [22, 23, 24, 25, 26, 37, 38, 39, 40, 41, 42, 43, 44, 45, 46, 47, 48, 49, 50, 51, 52, 53, 54, 55, 56, 57, 58, 59, 60, 61] (by decide +kernel) (by decide +kernel)
set_option maxRecDepth 20000 in
theorem gX6_many_X6_begin : GoodIn wsX6_many (wsV RX6 108 RX6 yX6_begin wsX6_begin) := goodIn_app (goodIn_of _ (by decide +kernel)) ggX6_many_X6_begin
set_option maxRecDepth 20000 in
theorem ggX6_many_X6_all : GoodIn wsX6_many wsX6_all := goodIn_r _ [11, 12, 13, 37, 38, 39, 40, 41, 42, 43, 44, 45, 46, 47, 48, 49, 50, 51, 52, 53, 54, 55, 56, 57, 58, 59, 60, 61] (by decide +kernel) (by decide +kernel)
set_option maxRecDepth 20000 in
theorem gX6_many_X6_all : GoodIn wsX6_many (wsV RX6 78 RX6 yX6_all wsX6_all) := goodIn_app (goodIn_of _ (by decide +kernel)) ggX6_many_X6_all
set_option maxRecDepth 20000 in
theorem ggX6_many_X6_paint : GoodIn wsX6_many wsX6_paint := goodIn_r _ [30, 2, 31, 24, 32, 33, 34, 6, 35, 36, 26, 37, 38, 39, 40, 41, 42, 43, 44, 45, 46, 47, 48, 49, 50, 51, 52, 53, 54, 55, 56, 57, 58, 59, 60, 61] (by decide +kernel) (by decide +kernel)
set_option maxRecDepth 20000 in
theorem gX6_many_X6_paint : GoodIn wsX6_many (wsV RX6 154 RX6 yX6_paint wsX6_paint) := goodIn_app (goodIn_of _ (by decide +kernel)) ggX6_many_X6_paint
theorem dX6_many_0 : decode cX6_many 0 = .ok (.aload_n 0, 1) := by decide +kernel
theorem dX6_many_1 : decode cX6_many 1 = .ok (.getfield 19, 3) := by decide +kernel
theorem dX6_many_4 : decode cX6_many 4 = .ok (.ifCond .ge 5, 3) := by decide +kernel
theorem dX6_many_7 : decode cX6_many 7 = .ok (.iconst 0, 1) := by decide +kernel
theorem dX6_many_8 : decode cX6_many 8 = .ok (.ireturn, 1) := by decide +kernel
theorem dX6_many_9 : decode cX6_many 9 = .ok (.aload_n 0, 1) := by decide +kernel
theorem dX6_many_10 : decode cX6_many 10 = .ok (.iconst 1, 1) := by decide +kernel
theorem dX6_many_11 : decode cX6_many 11 = .ok (.invokevirtual 151, 3) := by decide +kernel
theorem dX6_many_14 : decode cX6_many 14 = .ok (.istore_n 1, 1) := by decide +kernel
theorem dX6_many_15 : decode cX6_many 15 = .ok (.aload_n 0, 1) := by decide +kernel
theorem dX6_many_16 : decode cX6_many 16 = .ok (.iconst 0, 1) := by decide +kernel
theorem dX6_many_17 : decode cX6_many 17 = .ok (.invokevirtual 151, 3) := by decide +kernel
theorem dX6_many_20 : decode cX6_many 20 = .ok (.istore_n 2, 1) := by decide +kernel
theorem dX6_many_21 : decode cX6_many 21 = .ok (.iload_n 1, 1) := by decide +kernel
theorem dX6_many_22 : decode cX6_many 22 = .ok (.aload_n 0, 1) := by decide +kernel
theorem dX6_many_23 : decode cX6_many 23 = .ok (.getfield 19, 3) := by decide +kernel
theorem dX6_many_26 : decode cX6_many 26 = .ok (.if_icmp .gt 13, 3) := by decide +kernel
theorem dX6_many_29 : decode cX6_many 29 = .ok (.iload_n 1, 1) := by decide +kernel
theorem dX6_many_30 : decode cX6_many 30 = .ok (.iload_n 2, 1) := by decide +kernel
theorem dX6_many_31 : decode cX6_many 31 = .ok (.iadd, 1) := by decide +kernel
theorem dX6_many_32 : decode cX6_many 32 = .ok (.aload_n 0, 1) := by decide +kernel
theorem dX6_many_33 : decode cX6_many 33 = .ok (.getfield 19, 3) := by decide +kernel
theorem dX6_many_36 : decode cX6_many 36 = .ok (.if_icmp .ge 11, 3) := by decide +kernel
theorem dX6_many_39 : decode cX6_many 39 = .ok (.aload_n 0, 1) := by decide +kernel
theorem dX6_many_40 : decode cX6_many 40 = .ok (.bipush 10, 2) := by decide +kernel
theorem dX6_many_42 : decode cX6_many 42 = .ok (.iconst 0, 1) := by decide +kernel
theorem dX6_many_43 : decode cX6_many 43 = .ok (.invokevirtual 122, 3) := by decide +kernel
theorem dX6_many_46 : decode cX6_many 46 = .ok (.ireturn, 1) := by decide +kernel
theorem dX6_many_47 : decode cX6_many 47 = .ok (.iload_n 2, 1) := by decide +kernel
theorem dX6_many_48 : decode cX6_many 48 = .ok (.ifCond .eq 21, 3) := by decide +kernel
theorem dX6_many_51 : decode cX6_many 51 = .ok (.iload_n 1, 1) := by decide +kernel
theorem dX6_many_52 : decode cX6_many 52 = .ok (.aload_n 0, 1) := by decide +kernel
theorem dX6_many_53 : decode cX6_many 53 = .ok (.getfield 19, 3) := by decide +kernel
theorem dX6_many_56 : decode cX6_many 56 = .ok (.if_icmp .eq 15, 3) := by decide +kernel
theorem dX6_many_59 : decode cX6_many 59 = .ok (.iload_n 1, 1) := by decide +kernel
theorem dX6_many_60 : decode cX6_many 60 = .ok (.iload_n 2, 1) := by decide +kernel
theorem dX6_many_61 : decode cX6_many 61 = .ok (.iadd, 1) := by decide +kernel
theorem dX6_many_62 : decode cX6_many 62 = .ok (.aload_n 0, 1) := by decide +kernel
theorem dX6_many_63 : decode cX6_many 63 = .ok (.getfield 19, 3) := by decide +kernel
theorem dX6_many_66 : decode cX6_many 66 = .ok (.if_icmp .eq 5, 3) := by decide +kernel
theorem dX6_many_69 : decode cX6_many 69 = .ok (.iconst 0, 1) := by decide +kernel
theorem dX6_many_70 : decode cX6_many 70 = .ok (.ireturn, 1) := by decide +kernel
theorem dX6_many_71 : decode cX6_many 71 = .ok (.aload_n 0, 1) := by decide +kernel
theorem dX6_many_72 : decode cX6_many 72 = .ok (.bipush 10, 2) := by decide +kernel
theorem dX6_many_74 : decode cX6_many 74 = .ok (.iconst 0, 1) := by decide +kernel
theorem dX6_many_75 : decode cX6_many 75 = .ok (.invokevirtual 108, 3) := by decide +kernel
theorem dX6_many_78 : decode cX6_many 78 = .ok (.iconst 0, 1) := by decide +kernel
theorem dX6_many_79 : decode cX6_many 79 = .ok (.istore_n 3, 1) := by decide +kernel
theorem dX6_many_80 : decode cX6_many 80 = .ok (.iload_n 3, 1) := by decide +kernel
theorem dX6_many_81 : decode cX6_many 81 = .ok (.aload_n 0, 1) := by decide +kernel
theorem dX6_many_82 : decode cX6_many 82 = .ok (.invokevirtual 78, 3) := by decide +kernel
theorem dX6_many_85 : decode cX6_many 85 = .ok (.if_icmp .ge 36, 3) := by decide +kernel
theorem dX6_many_88 : decode cX6_many 88 = .ok (.aload_n 0, 1) := by decide +kernel
theorem dX6_many_89 : decode cX6_many 89 = .ok (.getfield 16, 3) := by decide +kernel
theorem dX6_many_92 : decode cX6_many 92 = .ok (.iload_n 3, 1) := by decide +kernel
theorem dX6_many_93 : decode cX6_many 93 = .ok (.iaload, 1) := by decide +kernel
theorem dX6_many_94 : decode cX6_many 94 = .ok (.ifCond .ne 21, 3) := by decide +kernel
theorem dX6_many_97 : decode cX6_many 97 = .ok (.aload_n 0, 1) := by decide +kernel
theorem dX6_many_98 : decode cX6_many 98 = .ok (.iload_n 3, 1) := by decide +kernel
theorem dX6_many_99 : decode cX6_many 99 = .ok (.iload_n 1, 1) := by decide +kernel
theorem dX6_many_100 : decode cX6_many 100 = .ok (.aload_n 0, 1) := by decide +kernel
theorem dX6_many_101 : decode cX6_many 101 = .ok (.getfield 19, 3) := by decide +kernel
theorem dX6_many_104 : decode cX6_many 104 = .ok (.if_icmp .ne 7, 3) := by decide +kernel
theorem dX6_many_107 : decode cX6_many 107 = .ok (.iconst 2, 1) := by decide +kernel
theorem dX6_many_108 : decode cX6_many 108 = .ok (.goto 4, 3) := by decide +kernel
theorem dX6_many_111 : decode cX6_many 111 = .ok (.iconst 1, 1) := by decide +kernel
theorem dX6_many_112 : decode cX6_many 112 = .ok (.invokevirtual 154, 3) := by decide +kernel
theorem dX6_many_115 : decode cX6_many 115 = .ok (.iinc 3 1, 3) := by decide +kernel
theorem dX6_many_118 : decode cX6_many 118 = .ok (.goto (-38), 3) := by decide +kernel
theorem dX6_many_121 : decode cX6_many 121 = .ok (.iconst 1, 1) := by decide +kernel
theorem dX6_many_122 : decode cX6_many 122 = .ok (.ireturn, 1) := by decide +kernel
set_option maxRecDepth 20000 in
theorem ggX6_spreadShades_X6_clear : GoodIn wsX6_spreadShades wsX6_clear := goodIn_r _ [7, 1, 22, 23, 24, 25, 26, 27, 28, 29, 30, 31, 32, 33, 34, 35, 36, 37, 38, 39, 40, 41, 42, 43, 44, 45, 46] (by decide +kernel) (by decide +kernel)
set_option maxRecDepth 20000 in
theorem gX6_spreadShades_X6_clear : GoodIn wsX6_spreadShades (wsV RX6 130 RX6 yX6_clear wsX6_clear) := goodIn_app (goodIn_of _ (by decide +kernel)) ggX6_spreadShades_X6_clear
set_option maxRecDepth 20000 in
theorem ggX6_spreadShades_X6_all : GoodIn wsX6_spreadShades wsX6_all := goodIn_r _ [11, 12, 13, 22, 23, 24, 25, 26, 27, 28, 29, 30, 31, 32, 33, 34, 35, 36, 37, 38, 39, 40, 41, 42, 43, 44, 45, 46] (by decide +kernel) (by decide +kernel)
set_option maxRecDepth 20000 in
theorem gX6_spreadShades_X6_all : GoodIn wsX6_spreadShades (wsV RX6 78 RX6 yX6_all wsX6_all) := goodIn_app (goodIn_of _ (by decide +kernel)) ggX6_spreadShades_X6_all
set_option maxRecDepth 20000 in
theorem ggX6_spreadShades_X6_isEdge : GoodIn wsX6_spreadShades wsX6_isEdge := goodIn_r _ [17, 12, 13, 8, 9, 10, 6, 11, 22, 23, 24, 25, 26, 27, 28, 29, 30, 31, 32, 33, 34, 35, 36, 37, 38, 39, 40, 41, 42, 43, 44, 45, 46] (by decide +kernel) (by decide +kernel)
set_option maxRecDepth 20000 in
theorem gX6_spreadShades_X6_isEdge : GoodIn wsX6_spreadShades (wsV RX6 82 RX6 yX6_isEdge wsX6_isEdge) := goodIn_app (goodIn_of _ (by decide +kernel)) ggX6_spreadShades_X6_isEdge
set_option maxRecDepth 20000 in
theorem ggX6_spreadShades_X6_other : GoodIn wsX6_spreadShades wsX6_other := goodIn_r _ [21, 12, 22, 23, 24, 25, 26, 27, 28, 29, 30, 31, 32, 33, 34, 35, 36, 37, 38, 39, 40, 41, 42, 43, 44, 45, 46] (by decide +kernel) (by decide +kernel)
set_option maxRecDepth 20000 in
theorem gX6_spreadShades_X6_other : GoodIn wsX6_spreadShades (wsV RX6 94 RX6 yX6_other wsX6_other) := goodIn_app (goodIn_of _ (by decide +kernel)) ggX6_spreadShades_X6_other
theorem dX6_spreadShades_0 : decode cX6_spreadShades 0 = .ok (.aload_n 0, 1) := by decide +kernel
theorem dX6_spreadShades_1 : decode cX6_spreadShades 1 = .ok (.invokevirtual 130, 3) := by decide +kernel
theorem dX6_spreadShades_4 : decode cX6_spreadShades 4 = .ok (.aload_n 0, 1) := by decide +kernel
theorem dX6_spreadShades_5 : decode cX6_spreadShades 5 = .ok (.getfield 66, 3) := by decide +kernel
theorem dX6_spreadShades_8 : decode cX6_spreadShades 8 = .ok (.iload_n 1, 1) := by decide +kernel
theorem dX6_spreadShades_9 : decode cX6_spreadShades 9 = .ok (.iconst 1, 1) := by decide +kernel
theorem dX6_spreadShades_10 : decode cX6_spreadShades 10 = .ok (.bastore, 1) := by decide +kernel
theorem dX6_spreadShades_11 : decode cX6_spreadShades 11 = .ok (.iconst 1, 1) := by decide +kernel
theorem dX6_spreadShades_12 : decode cX6_spreadShades 12 = .ok (.istore_n 3, 1) := by decide +kernel
theorem dX6_spreadShades_13 : decode cX6_spreadShades 13 = .ok (.iload_n 3, 1) := by decide +kernel
theorem dX6_spreadShades_14 : decode cX6_spreadShades 14 = .ok (.ifCond .eq 120, 3) := by decide +kernel
theorem dX6_spreadShades_17 : decode cX6_spreadShades 17 = .ok (.iconst 0, 1) := by decide +kernel
theorem dX6_spreadShades_18 : decode cX6_spreadShades 18 = .ok (.istore_n 3, 1) := by decide +kernel
theorem dX6_spreadShades_19 : decode cX6_spreadShades 19 = .ok (.iconst 0, 1) := by decide +kernel
theorem dX6_spreadShades_20 : decode cX6_spreadShades 20 = .ok (.istore 4, 2) := by decide +kernel
theorem dX6_spreadShades_22 : decode cX6_spreadShades 22 = .ok (.iload 4, 2) := by decide +kernel
theorem dX6_spreadShades_24 : decode cX6_spreadShades 24 = .ok (.iconst 2, 1) := by decide +kernel
theorem dX6_spreadShades_25 : decode cX6_spreadShades 25 = .ok (.aload_n 0, 1) := by decide +kernel
theorem dX6_spreadShades_26 : decode cX6_spreadShades 26 = .ok (.invokevirtual 78, 3) := by decide +kernel
theorem dX6_spreadShades_29 : decode cX6_spreadShades 29 = .ok (.imul, 1) := by decide +kernel
theorem dX6_spreadShades_30 : decode cX6_spreadShades 30 = .ok (.if_icmp .ge 101, 3) := by decide +kernel
theorem dX6_spreadShades_33 : decode cX6_spreadShades 33 = .ok (.aload_n 0, 1) := by decide +kernel
theorem dX6_spreadShades_34 : decode cX6_spreadShades 34 = .ok (.iload 4, 2) := by decide +kernel
theorem dX6_spreadShades_36 : decode cX6_spreadShades 36 = .ok (.invokevirtual 82, 3) := by decide +kernel
theorem dX6_spreadShades_39 : decode cX6_spreadShades 39 = .ok (.ifCond .eq 86, 3) := by decide +kernel
theorem dX6_spreadShades_42 : decode cX6_spreadShades 42 = .ok (.aload_n 0, 1) := by decide +kernel
theorem dX6_spreadShades_43 : decode cX6_spreadShades 43 = .ok (.getfield 66, 3) := by decide +kernel
theorem dX6_spreadShades_46 : decode cX6_spreadShades 46 = .ok (.iload 4, 2) := by decide +kernel
theorem dX6_spreadShades_48 : decode cX6_spreadShades 48 = .ok (.iconst 2, 1) := by decide +kernel
theorem dX6_spreadShades_49 : decode cX6_spreadShades 49 = .ok (.idiv, 1) := by decide +kernel
theorem dX6_spreadShades_50 : decode cX6_spreadShades 50 = .ok (.baload, 1) := by decide +kernel
theorem dX6_spreadShades_51 : decode cX6_spreadShades 51 = .ok (.aload_n 0, 1) := by decide +kernel
theorem dX6_spreadShades_52 : decode cX6_spreadShades 52 = .ok (.getfield 66, 3) := by decide +kernel
theorem dX6_spreadShades_55 : decode cX6_spreadShades 55 = .ok (.aload_n 0, 1) := by decide +kernel
theorem dX6_spreadShades_56 : decode cX6_spreadShades 56 = .ok (.iload 4, 2) := by decide +kernel
theorem dX6_spreadShades_58 : decode cX6_spreadShades 58 = .ok (.invokevirtual 94, 3) := by decide +kernel
theorem dX6_spreadShades_61 : decode cX6_spreadShades 61 = .ok (.baload, 1) := by decide +kernel
theorem dX6_spreadShades_62 : decode cX6_spreadShades 62 = .ok (.if_icmp .ne 6, 3) := by decide +kernel
theorem dX6_spreadShades_65 : decode cX6_spreadShades 65 = .ok (.goto 60, 3) := by decide +kernel
theorem dX6_spreadShades_68 : decode cX6_spreadShades 68 = .ok (.aload_n 0, 1) := by decide +kernel
theorem dX6_spreadShades_69 : decode cX6_spreadShades 69 = .ok (.getfield 66, 3) := by decide +kernel
theorem dX6_spreadShades_72 : decode cX6_spreadShades 72 = .ok (.iload 4, 2) := by decide +kernel
theorem dX6_spreadShades_74 : decode cX6_spreadShades 74 = .ok (.iconst 2, 1) := by decide +kernel
theorem dX6_spreadShades_75 : decode cX6_spreadShades 75 = .ok (.idiv, 1) := by decide +kernel
theorem dX6_spreadShades_76 : decode cX6_spreadShades 76 = .ok (.baload, 1) := by decide +kernel
theorem dX6_spreadShades_77 : decode cX6_spreadShades 77 = .ok (.ifCond .eq 12, 3) := by decide +kernel
theorem dX6_spreadShades_80 : decode cX6_spreadShades 80 = .ok (.aload_n 0, 1) := by decide +kernel
theorem dX6_spreadShades_81 : decode cX6_spreadShades 81 = .ok (.iload 4, 2) := by decide +kernel
theorem dX6_spreadShades_83 : decode cX6_spreadShades 83 = .ok (.invokevirtual 94, 3) := by decide +kernel
theorem dX6_spreadShades_86 : decode cX6_spreadShades 86 = .ok (.goto 7, 3) := by decide +kernel
theorem dX6_spreadShades_89 : decode cX6_spreadShades 89 = .ok (.iload 4, 2) := by decide +kernel
theorem dX6_spreadShades_91 : decode cX6_spreadShades 91 = .ok (.iconst 2, 1) := by decide +kernel
theorem dX6_spreadShades_92 : decode cX6_spreadShades 92 = .ok (.idiv, 1) := by decide +kernel
theorem dX6_spreadShades_93 : decode cX6_spreadShades 93 = .ok (.istore 5, 2) := by decide +kernel
theorem dX6_spreadShades_95 : decode cX6_spreadShades 95 = .ok (.aload_n 0, 1) := by decide +kernel
theorem dX6_spreadShades_96 : decode cX6_spreadShades 96 = .ok (.getfield 16, 3) := by decide +kernel
theorem dX6_spreadShades_99 : decode cX6_spreadShades 99 = .ok (.iload 5, 2) := by decide +kernel
theorem dX6_spreadShades_101 : decode cX6_spreadShades 101 = .ok (.iaload, 1) := by decide +kernel
theorem dX6_spreadShades_102 : decode cX6_spreadShades 102 = .ok (.iconst 2, 1) := by decide +kernel
theorem dX6_spreadShades_103 : decode cX6_spreadShades 103 = .ok (.if_icmp .eq 22, 3) := by decide +kernel
theorem dX6_spreadShades_106 : decode cX6_spreadShades 106 = .ok (.iload 5, 2) := by decide +kernel
theorem dX6_spreadShades_108 : decode cX6_spreadShades 108 = .ok (.iload_n 2, 1) := by decide +kernel
theorem dX6_spreadShades_109 : decode cX6_spreadShades 109 = .ok (.if_icmp .ne 6, 3) := by decide +kernel
theorem dX6_spreadShades_112 : decode cX6_spreadShades 112 = .ok (.goto 13, 3) := by decide +kernel
theorem dX6_spreadShades_115 : decode cX6_spreadShades 115 = .ok (.aload_n 0, 1) := by decide +kernel
theorem dX6_spreadShades_116 : decode cX6_spreadShades 116 = .ok (.getfield 66, 3) := by decide +kernel
theorem dX6_spreadShades_119 : decode cX6_spreadShades 119 = .ok (.iload 5, 2) := by decide +kernel
theorem dX6_spreadShades_121 : decode cX6_spreadShades 121 = .ok (.iconst 1, 1) := by decide +kernel
theorem dX6_spreadShades_122 : decode cX6_spreadShades 122 = .ok (.bastore, 1) := by decide +kernel
theorem dX6_spreadShades_123 : decode cX6_spreadShades 123 = .ok (.iconst 1, 1) := by decide +kernel
theorem dX6_spreadShades_124 : decode cX6_spreadShades 124 = .ok (.istore_n 3, 1) := by decide +kernel
theorem dX6_spreadShades_125 : decode cX6_spreadShades 125 = .ok (.iinc 4 1, 3) := by decide +kernel
theorem dX6_spreadShades_128 : decode cX6_spreadShades 128 = .ok (.goto (-106), 3) := by decide +kernel
theorem dX6_spreadShades_131 : decode cX6_spreadShades 131 = .ok (.goto (-118), 3) := by decide +kernel
theorem dX6_spreadShades_134 : decode cX6_spreadShades 134 = .ok (.return_, 1) := by decide +kernel
set_option maxRecDepth 20000 in
theorem ggX6_firstBlack_X6_all : GoodIn wsX6_firstBlack wsX6_all := goodIn_r _ [6, 7, 8, 9, 10, 11, 12, 13, 14, 15, 16, 17, 18, 19, 20, 21, 22, 23, 24, 25, 26, 27, 28, 29, 30, 31, 32, 33] (by decide +kernel) (by decide +kernel)
set_option maxRecDepth 20000 in
theorem gX6_firstBlack_X6_all : GoodIn wsX6_firstBlack (wsV RX6 78 RX6 yX6_all wsX6_all) := goodIn_app (goodIn_of _ (by decide +kernel)) ggX6_firstBlack_X6_all
theorem dX6_firstBlack_0 : decode cX6_firstBlack 0 = .ok (.iconst 0, 1) := by decide +kernel
theorem dX6_firstBlack_1 : decode cX6_firstBlack 1 = .ok (.istore_n 1, 1) := by decide +kernel
theorem dX6_firstBlack_2 : decode cX6_firstBlack 2 = .ok (.iload_n 1, 1) := by decide +kernel
theorem dX6_firstBlack_3 : decode cX6_firstBlack 3 = .ok (.aload_n 0, 1) := by decide +kernel
theorem dX6_firstBlack_4 : decode cX6_firstBlack 4 = .ok (.invokevirtual 78, 3) := by decide +kernel
theorem dX6_firstBlack_7 : decode cX6_firstBlack 7 = .ok (.if_icmp .ge 21, 3) := by decide +kernel
theorem dX6_firstBlack_10 : decode cX6_firstBlack 10 = .ok (.aload_n 0, 1) := by decide +kernel
theorem dX6_firstBlack_11 : decode cX6_firstBlack 11 = .ok (.getfield 16, 3) := by decide +kernel
theorem dX6_firstBlack_14 : decode cX6_firstBlack 14 = .ok (.iload_n 1, 1) := by decide +kernel
theorem dX6_firstBlack_15 : decode cX6_firstBlack 15 = .ok (.iaload, 1) := by decide +kernel
theorem dX6_firstBlack_16 : decode cX6_firstBlack 16 = .ok (.iconst 1, 1) := by decide +kernel
theorem dX6_firstBlack_17 : decode cX6_firstBlack 17 = .ok (.if_icmp .ne 5, 3) := by decide +kernel
theorem dX6_firstBlack_20 : decode cX6_firstBlack 20 = .ok (.iload_n 1, 1) := by decide +kernel
theorem dX6_firstBlack_21 : decode cX6_firstBlack 21 = .ok (.ireturn, 1) := by decide +kernel
theorem dX6_firstBlack_22 : decode cX6_firstBlack 22 = .ok (.iinc 1 1, 3) := by decide +kernel
theorem dX6_firstBlack_25 : decode cX6_firstBlack 25 = .ok (.goto (-23), 3) := by decide +kernel
theorem dX6_firstBlack_28 : decode cX6_firstBlack 28 = .ok (.iconst (-1), 1) := by decide +kernel
theorem dX6_firstBlack_29 : decode cX6_firstBlack 29 = .ok (.ireturn, 1) := by decide +kernel
set_option maxRecDepth 20000 in
theorem ggX6_shadeParts_X6_firstBlack : GoodIn wsX6_shadeParts wsX6_firstBlack := goodIn_r _ [7, 1, 8, 9, 10, 6, 11, 12, 13, 57, 58, 59, 60, 61, 62, 63, 64, 65, 66, 67, 68, 69, 70, 71, 72, 73, 74, 75, 76, 77, 78, 79, 80, 81] (by decide +kernel) (by decide +kernel)
set_option maxRecDepth 20000 in
theorem gX6_shadeParts_X6_firstBlack : GoodIn wsX6_shadeParts (wsV RX6 157 RX6 yX6_firstBlack wsX6_firstBlack) := goodIn_app (goodIn_of _ (by decide +kernel)) ggX6_shadeParts_X6_firstBlack
set_option maxRecDepth 20000 in
theorem ggX6_shadeParts_X6_spreadShades : GoodIn wsX6_shadeParts wsX6_spreadShades := goodIn_r _ [17, 2, 1, 18, 19, 20, 6, 21, 8, 9, 10, 11, 12, 13, 22, 23, 24, 25, 26, 27, 28, 29, 57, 58, 59, 60, 61, 62, 63, 64, 65, 66, 67, 68, 69, 70, 71, 72, 73, 74, 75, 76, 77, 78, 79, 80, 81] (by decide +kernel) (by decide +kernel)
set_option maxRecDepth 20000 in
theorem gX6_shadeParts_X6_spreadShades : GoodIn wsX6_shadeParts (wsV RX6 160 RX6 yX6_spreadShades wsX6_spreadShades) := goodIn_app (goodIn_of _ (by decide +kernel)) ggX6_shadeParts_X6_spreadShades
set_option maxRecDepth 20000 in
theorem ggX6_shadeParts_X6_all : GoodIn wsX6_shadeParts wsX6_all := goodIn_r _ [11, 12, 13, 57, 58, 59, 60, 61, 62, 63, 64, 65, 66, 67, 68, 69, 70, 71, 72, 73, 74, 75, 76, 77, 78, 79, 80, 81] (by decide +kernel) (by decide +kernel)
set_option maxRecDepth 20000 in
theorem gX6_shadeParts_X6_all : GoodIn wsX6_shadeParts (wsV RX6 78 RX6 yX6_all wsX6_all) := goodIn_app (goodIn_of _ (by decide +kernel)) ggX6_shadeParts_X6_all
set_option maxRecDepth 20000 in
theorem ggX6_shadeParts_X6_isWrongAt : GoodIn wsX6_shadeParts wsX6_isWrongAt := goodIn_r _ [33, 34, 35, 36, 37, 6, 38, 39, 40, 41, 42, 57, 58, 59, 60, 61, 62, 63, 64, 65, 66, 67, 68, 69, 70, 71, 72, 73, 74, 75, 76, 77, 78, 79, 80, 81] (by decide +kernel) (by decide +kernel)
set_option maxRecDepth 20000 in
theorem gX6_shadeParts_X6_isWrongAt : GoodIn wsX6_shadeParts (wsV RX6 122 RX6 yX6_isWrongAt wsX6_isWrongAt) := goodIn_app (goodIn_of _ (by decide +kernel)) ggX6_shadeParts_X6_isWrongAt
set_option maxRecDepth 20000 in
theorem ggX6_shadeParts_X6_paintOne : GoodIn wsX6_shadeParts wsX6_paintOne := goodIn_r _ [46, 35, 36, 37, 6, 38, 39, 40, 41, 42, 47, 48, 49, 50, 1, 51, 52, 53, 54, 55, 56, 57, 58, 59, 60, 61, 62, 63, 64, 65, 66, 67, 68, 69, 70, 71, 72, 73, 74, 75, 76, 77, 78, 79, 80, 81] (by decide +kernel) (by decide +kernel)
set_option maxRecDepth 20000 in
theorem gX6_shadeParts_X6_paintOne : GoodIn wsX6_shadeParts (wsV RX6 163 RX6 yX6_paintOne wsX6_paintOne) := goodIn_app (goodIn_of _ (by decide +kernel)) ggX6_shadeParts_X6_paintOne
theorem dX6_shadeParts_0 : decode cX6_shadeParts 0 = .ok (.aload_n 0, 1) := by decide +kernel
theorem dX6_shadeParts_1 : decode cX6_shadeParts 1 = .ok (.invokevirtual 157, 3) := by decide +kernel
theorem dX6_shadeParts_4 : decode cX6_shadeParts 4 = .ok (.istore_n 1, 1) := by decide +kernel
theorem dX6_shadeParts_5 : decode cX6_shadeParts 5 = .ok (.iload_n 1, 1) := by decide +kernel
theorem dX6_shadeParts_6 : decode cX6_shadeParts 6 = .ok (.ifCond .ge 5, 3) := by decide +kernel
theorem dX6_shadeParts_9 : decode cX6_shadeParts 9 = .ok (.iconst 0, 1) := by decide +kernel
theorem dX6_shadeParts_10 : decode cX6_shadeParts 10 = .ok (.ireturn, 1) := by decide +kernel
theorem dX6_shadeParts_11 : decode cX6_shadeParts 11 = .ok (.aload_n 0, 1) := by decide +kernel
theorem dX6_shadeParts_12 : decode cX6_shadeParts 12 = .ok (.iload_n 1, 1) := by decide +kernel
theorem dX6_shadeParts_13 : decode cX6_shadeParts 13 = .ok (.iconst (-1), 1) := by decide +kernel
theorem dX6_shadeParts_14 : decode cX6_shadeParts 14 = .ok (.invokevirtual 160, 3) := by decide +kernel
theorem dX6_shadeParts_17 : decode cX6_shadeParts 17 = .ok (.iconst 0, 1) := by decide +kernel
theorem dX6_shadeParts_18 : decode cX6_shadeParts 18 = .ok (.istore_n 2, 1) := by decide +kernel
theorem dX6_shadeParts_19 : decode cX6_shadeParts 19 = .ok (.iload_n 2, 1) := by decide +kernel
theorem dX6_shadeParts_20 : decode cX6_shadeParts 20 = .ok (.aload_n 0, 1) := by decide +kernel
theorem dX6_shadeParts_21 : decode cX6_shadeParts 21 = .ok (.invokevirtual 78, 3) := by decide +kernel
theorem dX6_shadeParts_24 : decode cX6_shadeParts 24 = .ok (.if_icmp .ge 36, 3) := by decide +kernel
theorem dX6_shadeParts_27 : decode cX6_shadeParts 27 = .ok (.aload_n 0, 1) := by decide +kernel
theorem dX6_shadeParts_28 : decode cX6_shadeParts 28 = .ok (.getfield 16, 3) := by decide +kernel
theorem dX6_shadeParts_31 : decode cX6_shadeParts 31 = .ok (.iload_n 2, 1) := by decide +kernel
theorem dX6_shadeParts_32 : decode cX6_shadeParts 32 = .ok (.iaload, 1) := by decide +kernel
theorem dX6_shadeParts_33 : decode cX6_shadeParts 33 = .ok (.iconst 1, 1) := by decide +kernel
theorem dX6_shadeParts_34 : decode cX6_shadeParts 34 = .ok (.if_icmp .ne 20, 3) := by decide +kernel
theorem dX6_shadeParts_37 : decode cX6_shadeParts 37 = .ok (.aload_n 0, 1) := by decide +kernel
theorem dX6_shadeParts_38 : decode cX6_shadeParts 38 = .ok (.getfield 66, 3) := by decide +kernel
theorem dX6_shadeParts_41 : decode cX6_shadeParts 41 = .ok (.iload_n 2, 1) := by decide +kernel
theorem dX6_shadeParts_42 : decode cX6_shadeParts 42 = .ok (.baload, 1) := by decide +kernel
theorem dX6_shadeParts_43 : decode cX6_shadeParts 43 = .ok (.ifCond .ne 11, 3) := by decide +kernel
theorem dX6_shadeParts_46 : decode cX6_shadeParts 46 = .ok (.aload_n 0, 1) := by decide +kernel
theorem dX6_shadeParts_47 : decode cX6_shadeParts 47 = .ok (.bipush 11, 2) := by decide +kernel
theorem dX6_shadeParts_49 : decode cX6_shadeParts 49 = .ok (.iload_n 2, 1) := by decide +kernel
theorem dX6_shadeParts_50 : decode cX6_shadeParts 50 = .ok (.invokevirtual 122, 3) := by decide +kernel
theorem dX6_shadeParts_53 : decode cX6_shadeParts 53 = .ok (.ireturn, 1) := by decide +kernel
theorem dX6_shadeParts_54 : decode cX6_shadeParts 54 = .ok (.iinc 2 1, 3) := by decide +kernel
theorem dX6_shadeParts_57 : decode cX6_shadeParts 57 = .ok (.goto (-38), 3) := by decide +kernel
theorem dX6_shadeParts_60 : decode cX6_shadeParts 60 = .ok (.iconst 0, 1) := by decide +kernel
theorem dX6_shadeParts_61 : decode cX6_shadeParts 61 = .ok (.istore_n 2, 1) := by decide +kernel
theorem dX6_shadeParts_62 : decode cX6_shadeParts 62 = .ok (.iload_n 2, 1) := by decide +kernel
theorem dX6_shadeParts_63 : decode cX6_shadeParts 63 = .ok (.aload_n 0, 1) := by decide +kernel
theorem dX6_shadeParts_64 : decode cX6_shadeParts 64 = .ok (.invokevirtual 78, 3) := by decide +kernel
theorem dX6_shadeParts_67 : decode cX6_shadeParts 67 = .ok (.if_icmp .ge 36, 3) := by decide +kernel
theorem dX6_shadeParts_70 : decode cX6_shadeParts 70 = .ok (.aload_n 0, 1) := by decide +kernel
theorem dX6_shadeParts_71 : decode cX6_shadeParts 71 = .ok (.getfield 16, 3) := by decide +kernel
theorem dX6_shadeParts_74 : decode cX6_shadeParts 74 = .ok (.iload_n 2, 1) := by decide +kernel
theorem dX6_shadeParts_75 : decode cX6_shadeParts 75 = .ok (.iaload, 1) := by decide +kernel
theorem dX6_shadeParts_76 : decode cX6_shadeParts 76 = .ok (.ifCond .ne 21, 3) := by decide +kernel
theorem dX6_shadeParts_79 : decode cX6_shadeParts 79 = .ok (.aload_n 0, 1) := by decide +kernel
theorem dX6_shadeParts_80 : decode cX6_shadeParts 80 = .ok (.getfield 66, 3) := by decide +kernel
theorem dX6_shadeParts_83 : decode cX6_shadeParts 83 = .ok (.iload_n 2, 1) := by decide +kernel
theorem dX6_shadeParts_84 : decode cX6_shadeParts 84 = .ok (.baload, 1) := by decide +kernel
theorem dX6_shadeParts_85 : decode cX6_shadeParts 85 = .ok (.ifCond .ne 12, 3) := by decide +kernel
theorem dX6_shadeParts_88 : decode cX6_shadeParts 88 = .ok (.aload_n 0, 1) := by decide +kernel
theorem dX6_shadeParts_89 : decode cX6_shadeParts 89 = .ok (.bipush 11, 2) := by decide +kernel
theorem dX6_shadeParts_91 : decode cX6_shadeParts 91 = .ok (.iload_n 2, 1) := by decide +kernel
theorem dX6_shadeParts_92 : decode cX6_shadeParts 92 = .ok (.iconst 2, 1) := by decide +kernel
theorem dX6_shadeParts_93 : decode cX6_shadeParts 93 = .ok (.invokevirtual 163, 3) := by decide +kernel
theorem dX6_shadeParts_96 : decode cX6_shadeParts 96 = .ok (.ireturn, 1) := by decide +kernel
theorem dX6_shadeParts_97 : decode cX6_shadeParts 97 = .ok (.iinc 2 1, 3) := by decide +kernel
theorem dX6_shadeParts_100 : decode cX6_shadeParts 100 = .ok (.goto (-38), 3) := by decide +kernel
theorem dX6_shadeParts_103 : decode cX6_shadeParts 103 = .ok (.iconst 0, 1) := by decide +kernel
theorem dX6_shadeParts_104 : decode cX6_shadeParts 104 = .ok (.istore_n 2, 1) := by decide +kernel
theorem dX6_shadeParts_105 : decode cX6_shadeParts 105 = .ok (.iload_n 2, 1) := by decide +kernel
theorem dX6_shadeParts_106 : decode cX6_shadeParts 106 = .ok (.aload_n 0, 1) := by decide +kernel
theorem dX6_shadeParts_107 : decode cX6_shadeParts 107 = .ok (.invokevirtual 78, 3) := by decide +kernel
theorem dX6_shadeParts_110 : decode cX6_shadeParts 110 = .ok (.if_icmp .ge 71, 3) := by decide +kernel
theorem dX6_shadeParts_113 : decode cX6_shadeParts 113 = .ok (.aload_n 0, 1) := by decide +kernel
theorem dX6_shadeParts_114 : decode cX6_shadeParts 114 = .ok (.getfield 16, 3) := by decide +kernel
theorem dX6_shadeParts_117 : decode cX6_shadeParts 117 = .ok (.iload_n 2, 1) := by decide +kernel
theorem dX6_shadeParts_118 : decode cX6_shadeParts 118 = .ok (.iaload, 1) := by decide +kernel
theorem dX6_shadeParts_119 : decode cX6_shadeParts 119 = .ok (.ifCond .eq 6, 3) := by decide +kernel
theorem dX6_shadeParts_122 : decode cX6_shadeParts 122 = .ok (.goto 53, 3) := by decide +kernel
theorem dX6_shadeParts_125 : decode cX6_shadeParts 125 = .ok (.aload_n 0, 1) := by decide +kernel
theorem dX6_shadeParts_126 : decode cX6_shadeParts 126 = .ok (.iload_n 1, 1) := by decide +kernel
theorem dX6_shadeParts_127 : decode cX6_shadeParts 127 = .ok (.iload_n 2, 1) := by decide +kernel
theorem dX6_shadeParts_128 : decode cX6_shadeParts 128 = .ok (.invokevirtual 160, 3) := by decide +kernel
theorem dX6_shadeParts_131 : decode cX6_shadeParts 131 = .ok (.iconst 0, 1) := by decide +kernel
theorem dX6_shadeParts_132 : decode cX6_shadeParts 132 = .ok (.istore_n 3, 1) := by decide +kernel
theorem dX6_shadeParts_133 : decode cX6_shadeParts 133 = .ok (.iload_n 3, 1) := by decide +kernel
theorem dX6_shadeParts_134 : decode cX6_shadeParts 134 = .ok (.aload_n 0, 1) := by decide +kernel
theorem dX6_shadeParts_135 : decode cX6_shadeParts 135 = .ok (.invokevirtual 78, 3) := by decide +kernel
theorem dX6_shadeParts_138 : decode cX6_shadeParts 138 = .ok (.if_icmp .ge 37, 3) := by decide +kernel
theorem dX6_shadeParts_141 : decode cX6_shadeParts 141 = .ok (.aload_n 0, 1) := by decide +kernel
theorem dX6_shadeParts_142 : decode cX6_shadeParts 142 = .ok (.getfield 16, 3) := by decide +kernel
theorem dX6_shadeParts_145 : decode cX6_shadeParts 145 = .ok (.iload_n 3, 1) := by decide +kernel
theorem dX6_shadeParts_146 : decode cX6_shadeParts 146 = .ok (.iaload, 1) := by decide +kernel
theorem dX6_shadeParts_147 : decode cX6_shadeParts 147 = .ok (.iconst 1, 1) := by decide +kernel
theorem dX6_shadeParts_148 : decode cX6_shadeParts 148 = .ok (.if_icmp .ne 21, 3) := by decide +kernel
theorem dX6_shadeParts_151 : decode cX6_shadeParts 151 = .ok (.aload_n 0, 1) := by decide +kernel
theorem dX6_shadeParts_152 : decode cX6_shadeParts 152 = .ok (.getfield 66, 3) := by decide +kernel
theorem dX6_shadeParts_155 : decode cX6_shadeParts 155 = .ok (.iload_n 3, 1) := by decide +kernel
theorem dX6_shadeParts_156 : decode cX6_shadeParts 156 = .ok (.baload, 1) := by decide +kernel
theorem dX6_shadeParts_157 : decode cX6_shadeParts 157 = .ok (.ifCond .ne 12, 3) := by decide +kernel
theorem dX6_shadeParts_160 : decode cX6_shadeParts 160 = .ok (.aload_n 0, 1) := by decide +kernel
theorem dX6_shadeParts_161 : decode cX6_shadeParts 161 = .ok (.bipush 12, 2) := by decide +kernel
theorem dX6_shadeParts_163 : decode cX6_shadeParts 163 = .ok (.iload_n 2, 1) := by decide +kernel
theorem dX6_shadeParts_164 : decode cX6_shadeParts 164 = .ok (.iconst 1, 1) := by decide +kernel
theorem dX6_shadeParts_165 : decode cX6_shadeParts 165 = .ok (.invokevirtual 163, 3) := by decide +kernel
theorem dX6_shadeParts_168 : decode cX6_shadeParts 168 = .ok (.ireturn, 1) := by decide +kernel
theorem dX6_shadeParts_169 : decode cX6_shadeParts 169 = .ok (.iinc 3 1, 3) := by decide +kernel
theorem dX6_shadeParts_172 : decode cX6_shadeParts 172 = .ok (.goto (-39), 3) := by decide +kernel
theorem dX6_shadeParts_175 : decode cX6_shadeParts 175 = .ok (.iinc 2 1, 3) := by decide +kernel
theorem dX6_shadeParts_178 : decode cX6_shadeParts 178 = .ok (.goto (-73), 3) := by decide +kernel
theorem dX6_shadeParts_181 : decode cX6_shadeParts 181 = .ok (.iconst 0, 1) := by decide +kernel
theorem dX6_shadeParts_182 : decode cX6_shadeParts 182 = .ok (.ireturn, 1) := by decide +kernel
set_option maxRecDepth 20000 in
theorem ggX6_paintOne_X6_begin : GoodIn wsX6_paintOne wsX6_begin := goodIn_r _ [5, 6, 7, 8, 9, 21, 22, 23, 24, 25, 26, 27, 28, 29, 30, 31, 32, 33, 34, 35, 36, 37, 38, 39, 40, 41, 42, 43, 44, 45] (by decide +kernel) (by decide +kernel)
set_option maxRecDepth 20000 in
theorem gX6_paintOne_X6_begin : GoodIn wsX6_paintOne (wsV RX6 108 RX6 yX6_begin wsX6_begin) := goodIn_app (goodIn_of _ (by decide +kernel)) ggX6_paintOne_X6_begin
set_option maxRecDepth 20000 in
theorem ggX6_paintOne_X6_paint : GoodIn wsX6_paintOne wsX6_paint := goodIn_r _ [13, 14, 15, 7, 16, 17, 18, 4, 19, 20, 9, 21, 22, 23, 24, 25, 26, 27, 28, 29, 30, 31, 32, 33, 34, 35, 36, 37, 38, 39, 40, 41, 42, 43, 44, 45] (by decide +kernel) (by decide +kernel)
set_option maxRecDepth 20000 in
theorem gX6_paintOne_X6_paint : GoodIn wsX6_paintOne (wsV RX6 154 RX6 yX6_paint wsX6_paint) := goodIn_app (goodIn_of _ (by decide +kernel)) ggX6_paintOne_X6_paint
theorem dX6_paintOne_0 : decode cX6_paintOne 0 = .ok (.aload_n 0, 1) := by decide +kernel
theorem dX6_paintOne_1 : decode cX6_paintOne 1 = .ok (.iload_n 1, 1) := by decide +kernel
theorem dX6_paintOne_2 : decode cX6_paintOne 2 = .ok (.iload_n 2, 1) := by decide +kernel
theorem dX6_paintOne_3 : decode cX6_paintOne 3 = .ok (.invokevirtual 108, 3) := by decide +kernel
theorem dX6_paintOne_6 : decode cX6_paintOne 6 = .ok (.aload_n 0, 1) := by decide +kernel
theorem dX6_paintOne_7 : decode cX6_paintOne 7 = .ok (.iload_n 2, 1) := by decide +kernel
theorem dX6_paintOne_8 : decode cX6_paintOne 8 = .ok (.iload_n 3, 1) := by decide +kernel
theorem dX6_paintOne_9 : decode cX6_paintOne 9 = .ok (.invokevirtual 154, 3) := by decide +kernel
theorem dX6_paintOne_12 : decode cX6_paintOne 12 = .ok (.iconst 1, 1) := by decide +kernel
theorem dX6_paintOne_13 : decode cX6_paintOne 13 = .ok (.ireturn, 1) := by decide +kernel
set_option maxRecDepth 20000 in
theorem ggX6_next_X6_cells : GoodIn wsX6_next wsX6_cells := goodIn_r _ [5, 6, 7, 8, 9, 4, 10, 11, 12, 13, 14, 15, 16, 17, 18, 19, 20, 21, 22, 23, 24, 25, 26, 27, 28, 29, 30, 31, 32, 33, 34, 35, 36, 37, 38, 39, 40, 41, 42, 43, 44, 45, 46, 47, 48, 49, 50, 51, 52, 129, 130, 131, 132, 133, 134, 135, 136, 137, 138, 139, 140, 141, 142, 143, 144, 145, 146, 147, 148, 149, 150, 151, 152, 153] (by decide +kernel) (by decide +kernel)
set_option maxRecDepth 20000 in
theorem gX6_next_X6_cells : GoodIn wsX6_next (wsV RX6 166 RX6 yX6_cells wsX6_cells) := goodIn_app (goodIn_of _ (by decide +kernel)) ggX6_next_X6_cells
set_option maxRecDepth 20000 in
theorem ggX6_next_X6_loops : GoodIn wsX6_next wsX6_loops := goodIn_r _ [56, 17, 57, 7, 8, 9, 4, 10, 11, 12, 13, 14, 15, 16, 18, 19, 20, 21, 22, 23, 24, 25, 58, 59, 60, 61, 62, 63, 64, 65, 66, 67, 68, 69, 70, 71, 72, 73, 74, 75, 76, 77, 6, 26, 27, 28, 29, 30, 31, 32, 33, 34, 35, 36, 37, 38, 78, 79, 80, 81, 43, 44, 45, 46, 47, 48, 49, 50, 51, 52, 129, 130, 131, 132, 133, 134, 135, 136, 137, 138, 139, 140, 141, 142, 143, 144, 145, 146, 147, 148, 149, 150, 151, 152, 153] (by decide +kernel) (by decide +kernel)
set_option maxRecDepth 20000 in
theorem gX6_next_X6_loops : GoodIn wsX6_next (wsV RX6 169 RX6 yX6_loops wsX6_loops) := goodIn_app (goodIn_of _ (by decide +kernel)) ggX6_next_X6_loops
set_option maxRecDepth 20000 in
theorem ggX6_next_X6_borders : GoodIn wsX6_next wsX6_borders := goodIn_r _ [85, 11, 12, 17, 7, 8, 9, 4, 10, 22, 23, 24, 25, 26, 27, 28, 29, 30, 31, 32, 33, 34, 35, 36, 37, 38, 78, 79, 80, 81, 43, 44, 45, 46, 47, 48, 49, 50, 51, 52, 129, 130, 131, 132, 133, 134, 135, 136, 137, 138, 139, 140, 141, 142, 143, 144, 145, 146, 147, 148, 149, 150, 151, 152, 153] (by decide +kernel) (by decide +kernel)
set_option maxRecDepth 20000 in
theorem gX6_next_X6_borders : GoodIn wsX6_next (wsV RX6 172 RX6 yX6_borders wsX6_borders) := goodIn_app (goodIn_of _ (by decide +kernel)) ggX6_next_X6_borders
set_option maxRecDepth 20000 in
theorem ggX6_next_X6_bridges : GoodIn wsX6_next wsX6_bridges := goodIn_r _ [89, 17, 57, 7, 8, 9, 4, 10, 11, 12, 22, 23, 24, 25, 58, 59, 60, 61, 62, 63, 64, 65, 66, 67, 68, 69, 26, 27, 28, 29, 30, 31, 32, 33, 34, 35, 36, 37, 38, 78, 79, 80, 81, 43, 44, 45, 46, 47, 48, 49, 50, 51, 52, 129, 130, 131, 132, 133, 134, 135, 136, 137, 138, 139, 140, 141, 142, 143, 144, 145, 146, 147, 148, 149, 150, 151, 152, 153] (by decide +kernel) (by decide +kernel)
set_option maxRecDepth 20000 in
theorem gX6_next_X6_bridges : GoodIn wsX6_next (wsV RX6 175 RX6 yX6_bridges wsX6_bridges) := goodIn_app (goodIn_of _ (by decide +kernel)) ggX6_next_X6_bridges
set_option maxRecDepth 20000 in
theorem ggX6_next_X6_apart : GoodIn wsX6_next wsX6_apart := goodIn_r _ [93, 57, 17, 7, 8, 9, 4, 10, 11, 12, 94, 95, 96, 97, 6, 13, 14, 15, 16, 18, 19, 20, 21, 22, 23, 24, 25, 58, 59, 60, 61, 62, 63, 64, 65, 66, 67, 68, 69, 26, 27, 28, 29, 30, 31, 32, 33, 34, 35, 36, 37, 38, 78, 79, 80, 81, 43, 44, 45, 46, 47, 48, 49, 50, 51, 52, 129, 130, 131, 132, 133, 134, 135, 136, 137, 138, 139, 140, 141, 142, 143, 144, 145, 146, 147, 148, 149, 150, 151, 152, 153] (by decide +kernel) (by decide +kernel)
set_option maxRecDepth 20000 in
theorem gX6_next_X6_apart : GoodIn wsX6_next (wsV RX6 178 RX6 yX6_apart wsX6_apart) := goodIn_app (goodIn_of _ (by decide +kernel)) ggX6_next_X6_apart
set_option maxRecDepth 20000 in
theorem ggX6_next_X6_many : GoodIn wsX6_next wsX6_many := goodIn_r _ [101, 102, 103, 104, 105, 106, 4, 107, 7, 8, 9, 10, 11, 12, 26, 27, 28, 29, 30, 31, 32, 33, 34, 35, 36, 37, 38, 108, 109, 110, 111, 112, 48, 49, 50, 51, 52, 129, 130, 131, 132, 133, 134, 135, 136, 137, 138, 139, 140, 141, 142, 143, 144, 145, 146, 147, 148, 149, 150, 151, 152, 153] (by decide +kernel) (by decide +kernel)
set_option maxRecDepth 20000 in
theorem gX6_next_X6_many : GoodIn wsX6_next (wsV RX6 181 RX6 yX6_many wsX6_many) := goodIn_app (goodIn_of _ (by decide +kernel)) ggX6_next_X6_many
set_option maxRecDepth 20000 in
theorem ggX6_next_X6_shadeParts : GoodIn wsX6_next wsX6_shadeParts := goodIn_r _ [116, 103, 57, 117, 118, 119, 4, 120, 7, 8, 9, 10, 11, 12, 121, 122, 123, 124, 62, 63, 64, 65, 22, 23, 24, 25, 66, 67, 68, 69, 26, 27, 28, 29, 30, 31, 32, 33, 34, 35, 36, 37, 38, 125, 126, 127, 128, 108, 109, 110, 111, 112, 48, 49, 50, 51, 52, 129, 130, 131, 132, 133, 134, 135, 136, 137, 138, 139, 140, 141, 142, 143, 144, 145, 146, 147, 148, 149, 150, 151, 152, 153] (by decide +kernel) (by decide +kernel)
set_option maxRecDepth 20000 in
theorem gX6_next_X6_shadeParts : GoodIn wsX6_next (wsV RX6 184 RX6 yX6_shadeParts wsX6_shadeParts) := goodIn_app (goodIn_of _ (by decide +kernel)) ggX6_next_X6_shadeParts
theorem dX6_next_0 : decode cX6_next 0 = .ok (.aload_n 0, 1) := by decide +kernel
theorem dX6_next_1 : decode cX6_next 1 = .ok (.invokevirtual 166, 3) := by decide +kernel
theorem dX6_next_4 : decode cX6_next 4 = .ok (.ifCond .ne 45, 3) := by decide +kernel
theorem dX6_next_7 : decode cX6_next 7 = .ok (.aload_n 0, 1) := by decide +kernel
theorem dX6_next_8 : decode cX6_next 8 = .ok (.invokevirtual 169, 3) := by decide +kernel
theorem dX6_next_11 : decode cX6_next 11 = .ok (.ifCond .ne 38, 3) := by decide +kernel
theorem dX6_next_14 : decode cX6_next 14 = .ok (.aload_n 0, 1) := by decide +kernel
theorem dX6_next_15 : decode cX6_next 15 = .ok (.invokevirtual 172, 3) := by decide +kernel
theorem dX6_next_18 : decode cX6_next 18 = .ok (.ifCond .ne 31, 3) := by decide +kernel
theorem dX6_next_21 : decode cX6_next 21 = .ok (.aload_n 0, 1) := by decide +kernel
theorem dX6_next_22 : decode cX6_next 22 = .ok (.invokevirtual 175, 3) := by decide +kernel
theorem dX6_next_25 : decode cX6_next 25 = .ok (.ifCond .ne 24, 3) := by decide +kernel
theorem dX6_next_28 : decode cX6_next 28 = .ok (.aload_n 0, 1) := by decide +kernel
theorem dX6_next_29 : decode cX6_next 29 = .ok (.invokevirtual 178, 3) := by decide +kernel
theorem dX6_next_32 : decode cX6_next 32 = .ok (.ifCond .ne 17, 3) := by decide +kernel
theorem dX6_next_35 : decode cX6_next 35 = .ok (.aload_n 0, 1) := by decide +kernel
theorem dX6_next_36 : decode cX6_next 36 = .ok (.invokevirtual 181, 3) := by decide +kernel
theorem dX6_next_39 : decode cX6_next 39 = .ok (.ifCond .ne 10, 3) := by decide +kernel
theorem dX6_next_42 : decode cX6_next 42 = .ok (.aload_n 0, 1) := by decide +kernel
theorem dX6_next_43 : decode cX6_next 43 = .ok (.invokevirtual 184, 3) := by decide +kernel
theorem dX6_next_46 : decode cX6_next 46 = .ok (.ifCond .eq 7, 3) := by decide +kernel
theorem dX6_next_49 : decode cX6_next 49 = .ok (.iconst 1, 1) := by decide +kernel
theorem dX6_next_50 : decode cX6_next 50 = .ok (.goto 4, 3) := by decide +kernel
theorem dX6_next_53 : decode cX6_next 53 = .ok (.iconst 0, 1) := by decide +kernel
theorem dX6_next_54 : decode cX6_next 54 = .ok (.ireturn, 1) := by decide +kernel
set_option maxRecDepth 20000 in
theorem ggX6_run_X6_next : GoodIn wsX6_run wsX6_next := goodIn_r _ [8, 9, 10, 11, 7, 12, 13, 14, 15, 16, 17, 18, 19, 20, 21, 22, 23, 24, 25, 26, 27, 28, 29, 30, 31, 32, 33, 34, 35, 36, 3, 37, 38, 39, 40, 41, 2, 42, 43, 44, 45, 46, 47, 48, 49, 50, 51, 52, 53, 54, 55, 56, 57, 58, 59, 60, 61, 62, 63, 64, 65, 66, 67, 68, 69, 70, 71, 72, 73, 74, 75, 76, 77, 78, 79, 80, 81, 82, 83, 84, 85, 86, 87, 88, 89, 90, 91, 92, 93, 94, 95, 96, 97, 98, 99, 100, 101, 102, 103, 104, 105, 106, 107, 108, 109, 110, 111, 112, 113, 114, 115, 116, 117, 118, 119, 120, 121, 122, 123, 124, 125, 126, 127, 128, 129, 130, 131, 132, 133, 134, 135, 136, 137, 138, 139, 140, 141, 142, 143, 144, 145, 146, 147, 148, 149, 150, 151, 152, 153, 154, 155, 156, 157, 158] (by decide +kernel) (by decide +kernel)
set_option maxRecDepth 20000 in
theorem gX6_run_X6_next : GoodIn wsX6_run (wsV RX6 187 RX6 yX6_next wsX6_next) := goodIn_app (goodIn_of _ (by decide +kernel)) ggX6_run_X6_next
theorem dX6_run_0 : decode cX6_run 0 = .ok (.aload_n 0, 1) := by decide +kernel
theorem dX6_run_1 : decode cX6_run 1 = .ok (.iconst 0, 1) := by decide +kernel
theorem dX6_run_2 : decode cX6_run 2 = .ok (.putfield 75, 3) := by decide +kernel
theorem dX6_run_5 : decode cX6_run 5 = .ok (.aload_n 0, 1) := by decide +kernel
theorem dX6_run_6 : decode cX6_run 6 = .ok (.getfield 105, 3) := by decide +kernel
theorem dX6_run_9 : decode cX6_run 9 = .ok (.istore_n 1, 1) := by decide +kernel
theorem dX6_run_10 : decode cX6_run 10 = .ok (.iconst 1, 1) := by decide +kernel
theorem dX6_run_11 : decode cX6_run 11 = .ok (.istore_n 2, 1) := by decide +kernel
theorem dX6_run_12 : decode cX6_run 12 = .ok (.iload_n 2, 1) := by decide +kernel
theorem dX6_run_13 : decode cX6_run 13 = .ok (.ifCond .eq 26, 3) := by decide +kernel
theorem dX6_run_16 : decode cX6_run 16 = .ok (.aload_n 0, 1) := by decide +kernel
theorem dX6_run_17 : decode cX6_run 17 = .ok (.getfield 98, 3) := by decide +kernel
theorem dX6_run_20 : decode cX6_run 20 = .ok (.ifCond .ne 14, 3) := by decide +kernel
theorem dX6_run_23 : decode cX6_run 23 = .ok (.aload_n 0, 1) := by decide +kernel
theorem dX6_run_24 : decode cX6_run 24 = .ok (.invokevirtual 187, 3) := by decide +kernel
theorem dX6_run_27 : decode cX6_run 27 = .ok (.ifCond .eq 7, 3) := by decide +kernel
theorem dX6_run_30 : decode cX6_run 30 = .ok (.iconst 1, 1) := by decide +kernel
theorem dX6_run_31 : decode cX6_run 31 = .ok (.goto 4, 3) := by decide +kernel
theorem dX6_run_34 : decode cX6_run 34 = .ok (.iconst 0, 1) := by decide +kernel
theorem dX6_run_35 : decode cX6_run 35 = .ok (.istore_n 2, 1) := by decide +kernel
theorem dX6_run_36 : decode cX6_run 36 = .ok (.goto (-24), 3) := by decide +kernel
theorem dX6_run_39 : decode cX6_run 39 = .ok (.aload_n 0, 1) := by decide +kernel
theorem dX6_run_40 : decode cX6_run 40 = .ok (.getfield 105, 3) := by decide +kernel
theorem dX6_run_43 : decode cX6_run 43 = .ok (.iload_n 1, 1) := by decide +kernel
theorem dX6_run_44 : decode cX6_run 44 = .ok (.isub, 1) := by decide +kernel
theorem dX6_run_45 : decode cX6_run 45 = .ok (.ireturn, 1) := by decide +kernel
theorem dX6_wrong_0 : decode cX6_wrong 0 = .ok (.aload_n 0, 1) := by decide +kernel
theorem dX6_wrong_1 : decode cX6_wrong 1 = .ok (.iconst 0, 1) := by decide +kernel
theorem dX6_wrong_2 : decode cX6_wrong 2 = .ok (.putfield 75, 3) := by decide +kernel
theorem dX6_wrong_5 : decode cX6_wrong 5 = .ok (.aload_n 0, 1) := by decide +kernel
theorem dX6_wrong_6 : decode cX6_wrong 6 = .ok (.getfield 98, 3) := by decide +kernel
theorem dX6_wrong_9 : decode cX6_wrong 9 = .ok (.ireturn, 1) := by decide +kernel
set_option maxRecDepth 20000 in
theorem ggX6_step_X6_fails : GoodIn wsX6_step wsX6_fails := goodIn_r _ [10, 11, 12, 13, 14, 15, 16, 17, 18, 19, 20, 21, 22, 23, 24, 25, 26, 27, 28, 29, 30, 31, 32, 33, 34, 35, 36] (by decide +kernel) (by decide +kernel)
set_option maxRecDepth 20000 in
theorem gX6_step_X6_fails : GoodIn wsX6_step (wsV RX6 90 RX6 yX6_fails wsX6_fails) := goodIn_app (goodIn_of _ (by decide +kernel)) ggX6_step_X6_fails
theorem dX6_step_0 : decode cX6_step 0 = .ok (.aload_n 0, 1) := by decide +kernel
theorem dX6_step_1 : decode cX6_step 1 = .ok (.iconst 1, 1) := by decide +kernel
theorem dX6_step_2 : decode cX6_step 2 = .ok (.iload_n 1, 1) := by decide +kernel
theorem dX6_step_3 : decode cX6_step 3 = .ok (.ifCond .lt 15, 3) := by decide +kernel
theorem dX6_step_6 : decode cX6_step 6 = .ok (.iload_n 1, 1) := by decide +kernel
theorem dX6_step_7 : decode cX6_step 7 = .ok (.aload_n 0, 1) := by decide +kernel
theorem dX6_step_8 : decode cX6_step 8 = .ok (.getfield 105, 3) := by decide +kernel
theorem dX6_step_11 : decode cX6_step 11 = .ok (.if_icmp .ge 7, 3) := by decide +kernel
theorem dX6_step_14 : decode cX6_step 14 = .ok (.iload_n 2, 1) := by decide +kernel
theorem dX6_step_15 : decode cX6_step 15 = .ok (.ifCond .ge 7, 3) := by decide +kernel
theorem dX6_step_18 : decode cX6_step 18 = .ok (.iconst 1, 1) := by decide +kernel
theorem dX6_step_19 : decode cX6_step 19 = .ok (.goto 4, 3) := by decide +kernel
theorem dX6_step_22 : decode cX6_step 22 = .ok (.iconst 0, 1) := by decide +kernel
theorem dX6_step_23 : decode cX6_step 23 = .ok (.invokevirtual 90, 3) := by decide +kernel
theorem dX6_step_26 : decode cX6_step 26 = .ok (.ifCond .eq 5, 3) := by decide +kernel
theorem dX6_step_29 : decode cX6_step 29 = .ok (.iconst 0, 1) := by decide +kernel
theorem dX6_step_30 : decode cX6_step 30 = .ok (.ireturn, 1) := by decide +kernel
theorem dX6_step_31 : decode cX6_step 31 = .ok (.aload_n 0, 1) := by decide +kernel
theorem dX6_step_32 : decode cX6_step 32 = .ok (.getfield 35, 3) := by decide +kernel
theorem dX6_step_35 : decode cX6_step 35 = .ok (.iload_n 1, 1) := by decide +kernel
theorem dX6_step_36 : decode cX6_step 36 = .ok (.iconst 1, 1) := by decide +kernel
theorem dX6_step_37 : decode cX6_step 37 = .ok (.iadd, 1) := by decide +kernel
theorem dX6_step_38 : decode cX6_step 38 = .ok (.iaload, 1) := by decide +kernel
theorem dX6_step_39 : decode cX6_step 39 = .ok (.aload_n 0, 1) := by decide +kernel
theorem dX6_step_40 : decode cX6_step 40 = .ok (.getfield 35, 3) := by decide +kernel
theorem dX6_step_43 : decode cX6_step 43 = .ok (.iload_n 1, 1) := by decide +kernel
theorem dX6_step_44 : decode cX6_step 44 = .ok (.iaload, 1) := by decide +kernel
theorem dX6_step_45 : decode cX6_step 45 = .ok (.isub, 1) := by decide +kernel
theorem dX6_step_46 : decode cX6_step 46 = .ok (.istore_n 3, 1) := by decide +kernel
theorem dX6_step_47 : decode cX6_step 47 = .ok (.iload_n 2, 1) := by decide +kernel
theorem dX6_step_48 : decode cX6_step 48 = .ok (.iconst 3, 1) := by decide +kernel
theorem dX6_step_49 : decode cX6_step 49 = .ok (.if_icmp .ge 32, 3) := by decide +kernel
theorem dX6_step_52 : decode cX6_step 52 = .ok (.iload_n 2, 1) := by decide +kernel
theorem dX6_step_53 : decode cX6_step 53 = .ok (.ifCond .ne 12, 3) := by decide +kernel
theorem dX6_step_56 : decode cX6_step 56 = .ok (.aload_n 0, 1) := by decide +kernel
theorem dX6_step_57 : decode cX6_step 57 = .ok (.getfield 29, 3) := by decide +kernel
theorem dX6_step_60 : decode cX6_step 60 = .ok (.iload_n 1, 1) := by decide +kernel
theorem dX6_step_61 : decode cX6_step 61 = .ok (.iaload, 1) := by decide +kernel
theorem dX6_step_62 : decode cX6_step 62 = .ok (.goto 18, 3) := by decide +kernel
theorem dX6_step_65 : decode cX6_step 65 = .ok (.iload_n 2, 1) := by decide +kernel
theorem dX6_step_66 : decode cX6_step 66 = .ok (.iconst 1, 1) := by decide +kernel
theorem dX6_step_67 : decode cX6_step 67 = .ok (.if_icmp .ne 12, 3) := by decide +kernel
theorem dX6_step_70 : decode cX6_step 70 = .ok (.aload_n 0, 1) := by decide +kernel
theorem dX6_step_71 : decode cX6_step 71 = .ok (.getfield 32, 3) := by decide +kernel
theorem dX6_step_74 : decode cX6_step 74 = .ok (.iload_n 1, 1) := by decide +kernel
theorem dX6_step_75 : decode cX6_step 75 = .ok (.iaload, 1) := by decide +kernel
theorem dX6_step_76 : decode cX6_step 76 = .ok (.goto 4, 3) := by decide +kernel
theorem dX6_step_79 : decode cX6_step 79 = .ok (.iload_n 3, 1) := by decide +kernel
theorem dX6_step_80 : decode cX6_step 80 = .ok (.ireturn, 1) := by decide +kernel
theorem dX6_step_81 : decode cX6_step 81 = .ok (.iload_n 2, 1) := by decide +kernel
theorem dX6_step_82 : decode cX6_step 82 = .ok (.iconst 3, 1) := by decide +kernel
theorem dX6_step_83 : decode cX6_step 83 = .ok (.isub, 1) := by decide +kernel
theorem dX6_step_84 : decode cX6_step 84 = .ok (.iload_n 3, 1) := by decide +kernel
theorem dX6_step_85 : decode cX6_step 85 = .ok (.if_icmp .ge 21, 3) := by decide +kernel
theorem dX6_step_88 : decode cX6_step 88 = .ok (.aload_n 0, 1) := by decide +kernel
theorem dX6_step_89 : decode cX6_step 89 = .ok (.getfield 38, 3) := by decide +kernel
theorem dX6_step_92 : decode cX6_step 92 = .ok (.aload_n 0, 1) := by decide +kernel
theorem dX6_step_93 : decode cX6_step 93 = .ok (.getfield 35, 3) := by decide +kernel
theorem dX6_step_96 : decode cX6_step 96 = .ok (.iload_n 1, 1) := by decide +kernel
theorem dX6_step_97 : decode cX6_step 97 = .ok (.iaload, 1) := by decide +kernel
theorem dX6_step_98 : decode cX6_step 98 = .ok (.iload_n 2, 1) := by decide +kernel
theorem dX6_step_99 : decode cX6_step 99 = .ok (.iadd, 1) := by decide +kernel
theorem dX6_step_100 : decode cX6_step 100 = .ok (.iconst 3, 1) := by decide +kernel
theorem dX6_step_101 : decode cX6_step 101 = .ok (.isub, 1) := by decide +kernel
theorem dX6_step_102 : decode cX6_step 102 = .ok (.iaload, 1) := by decide +kernel
theorem dX6_step_103 : decode cX6_step 103 = .ok (.goto 4, 3) := by decide +kernel
theorem dX6_step_106 : decode cX6_step 106 = .ok (.iconst (-1), 1) := by decide +kernel
theorem dX6_step_107 : decode cX6_step 107 = .ok (.ireturn, 1) := by decide +kernel
theorem dX6_steps_0 : decode cX6_steps 0 = .ok (.aload_n 0, 1) := by decide +kernel
theorem dX6_steps_1 : decode cX6_steps 1 = .ok (.iconst 0, 1) := by decide +kernel
theorem dX6_steps_2 : decode cX6_steps 2 = .ok (.putfield 75, 3) := by decide +kernel
theorem dX6_steps_5 : decode cX6_steps 5 = .ok (.aload_n 0, 1) := by decide +kernel
theorem dX6_steps_6 : decode cX6_steps 6 = .ok (.getfield 105, 3) := by decide +kernel
theorem dX6_steps_9 : decode cX6_steps 9 = .ok (.ireturn, 1) := by decide +kernel
set_option maxRecDepth 20000 in
theorem ggX6_is_X6_isEdge : GoodIn wsX6_is wsX6_isEdge := goodIn_r _ [6, 7, 8, 9, 10, 11, 5, 12, 18, 19, 20, 21, 22, 23, 24, 25, 26, 27, 28, 29, 30, 31, 32, 33, 34, 35, 36, 37, 38, 39, 40, 41, 42] (by decide +kernel) (by decide +kernel)
set_option maxRecDepth 20000 in
theorem gX6_is_X6_isEdge : GoodIn wsX6_is (wsV RX6 82 RX6 yX6_isEdge wsX6_isEdge) := goodIn_app (goodIn_of _ (by decide +kernel)) ggX6_is_X6_isEdge
set_option maxRecDepth 20000 in
theorem ggX6_is_X6_fails : GoodIn wsX6_is wsX6_fails := goodIn_r _ [16, 17, 18, 19, 20, 21, 22, 23, 24, 25, 26, 27, 28, 29, 30, 31, 32, 33, 34, 35, 36, 37, 38, 39, 40, 41, 42] (by decide +kernel) (by decide +kernel)
set_option maxRecDepth 20000 in
theorem gX6_is_X6_fails : GoodIn wsX6_is (wsV RX6 90 RX6 yX6_fails wsX6_fails) := goodIn_app (goodIn_of _ (by decide +kernel)) ggX6_is_X6_fails
theorem dX6_is_0 : decode cX6_is 0 = .ok (.aload_n 0, 1) := by decide +kernel
theorem dX6_is_1 : decode cX6_is 1 = .ok (.iconst 1, 1) := by decide +kernel
theorem dX6_is_2 : decode cX6_is 2 = .ok (.aload_n 0, 1) := by decide +kernel
theorem dX6_is_3 : decode cX6_is 3 = .ok (.iload_n 1, 1) := by decide +kernel
theorem dX6_is_4 : decode cX6_is 4 = .ok (.invokevirtual 82, 3) := by decide +kernel
theorem dX6_is_7 : decode cX6_is 7 = .ok (.ifCond .ne 7, 3) := by decide +kernel
theorem dX6_is_10 : decode cX6_is 10 = .ok (.iconst 1, 1) := by decide +kernel
theorem dX6_is_11 : decode cX6_is 11 = .ok (.goto 4, 3) := by decide +kernel
theorem dX6_is_14 : decode cX6_is 14 = .ok (.iconst 0, 1) := by decide +kernel
theorem dX6_is_15 : decode cX6_is 15 = .ok (.invokevirtual 90, 3) := by decide +kernel
theorem dX6_is_18 : decode cX6_is 18 = .ok (.ifCond .eq 7, 3) := by decide +kernel
theorem dX6_is_21 : decode cX6_is 21 = .ok (.iconst 0, 1) := by decide +kernel
theorem dX6_is_22 : decode cX6_is 22 = .ok (.goto 9, 3) := by decide +kernel
theorem dX6_is_25 : decode cX6_is 25 = .ok (.aload_n 0, 1) := by decide +kernel
theorem dX6_is_26 : decode cX6_is 26 = .ok (.getfield 7, 3) := by decide +kernel
theorem dX6_is_29 : decode cX6_is 29 = .ok (.iload_n 1, 1) := by decide +kernel
theorem dX6_is_30 : decode cX6_is 30 = .ok (.iaload, 1) := by decide +kernel
theorem dX6_is_31 : decode cX6_is 31 = .ok (.ireturn, 1) := by decide +kernel
set_option maxRecDepth 20000 in
theorem ggX6_cell_X6_isCell : GoodIn wsX6_cell wsX6_isCell := goodIn_r _ [8, 9, 10, 11, 7, 12, 13, 14, 33, 34, 35, 36, 37, 38, 39, 40, 41, 42, 43, 44, 45, 46, 47, 48, 49, 50, 51, 52, 53, 54, 55, 56, 57] (by decide +kernel) (by decide +kernel)
set_option maxRecDepth 20000 in
theorem gX6_cell_X6_isCell : GoodIn wsX6_cell (wsV RX6 102 RX6 yX6_isCell wsX6_isCell) := goodIn_app (goodIn_of _ (by decide +kernel)) ggX6_cell_X6_isCell
set_option maxRecDepth 20000 in
theorem ggX6_cell_X6_fails : GoodIn wsX6_cell wsX6_fails := goodIn_r _ [18, 19, 33, 34, 35, 36, 37, 38, 39, 40, 41, 42, 43, 44, 45, 46, 47, 48, 49, 50, 51, 52, 53, 54, 55, 56, 57] (by decide +kernel) (by decide +kernel)
set_option maxRecDepth 20000 in
theorem gX6_cell_X6_fails : GoodIn wsX6_cell (wsV RX6 90 RX6 yX6_fails wsX6_fails) := goodIn_app (goodIn_of _ (by decide +kernel)) ggX6_cell_X6_fails
set_option maxRecDepth 20000 in
theorem ggX6_cell_X6_count : GoodIn wsX6_cell wsX6_count := goodIn_r _ [23, 24, 25, 26, 27, 7, 28, 13, 29, 30, 31, 32, 14, 9, 10, 11, 12, 33, 34, 35, 36, 37, 38, 39, 40, 41, 42, 43, 44, 45, 46, 47, 48, 49, 50, 51, 52, 53, 54, 55, 56, 57] (by decide +kernel) (by decide +kernel)
set_option maxRecDepth 20000 in
theorem gX6_cell_X6_count : GoodIn wsX6_cell (wsV RX6 119 RX6 yX6_count wsX6_count) := goodIn_app (goodIn_of _ (by decide +kernel)) ggX6_cell_X6_count
theorem dX6_cell_0 : decode cX6_cell 0 = .ok (.aload_n 0, 1) := by decide +kernel
theorem dX6_cell_1 : decode cX6_cell 1 = .ok (.iconst 1, 1) := by decide +kernel
theorem dX6_cell_2 : decode cX6_cell 2 = .ok (.aload_n 0, 1) := by decide +kernel
theorem dX6_cell_3 : decode cX6_cell 3 = .ok (.iload_n 1, 1) := by decide +kernel
theorem dX6_cell_4 : decode cX6_cell 4 = .ok (.invokevirtual 102, 3) := by decide +kernel
theorem dX6_cell_7 : decode cX6_cell 7 = .ok (.ifCond .ne 7, 3) := by decide +kernel
theorem dX6_cell_10 : decode cX6_cell 10 = .ok (.iconst 1, 1) := by decide +kernel
theorem dX6_cell_11 : decode cX6_cell 11 = .ok (.goto 4, 3) := by decide +kernel
theorem dX6_cell_14 : decode cX6_cell 14 = .ok (.iconst 0, 1) := by decide +kernel
theorem dX6_cell_15 : decode cX6_cell 15 = .ok (.invokevirtual 90, 3) := by decide +kernel
theorem dX6_cell_18 : decode cX6_cell 18 = .ok (.ifCond .eq 5, 3) := by decide +kernel
theorem dX6_cell_21 : decode cX6_cell 21 = .ok (.iconst 0, 1) := by decide +kernel
theorem dX6_cell_22 : decode cX6_cell 22 = .ok (.ireturn, 1) := by decide +kernel
theorem dX6_cell_23 : decode cX6_cell 23 = .ok (.iload_n 2, 1) := by decide +kernel
theorem dX6_cell_24 : decode cX6_cell 24 = .ok (.tableswitch 71 0 4 #[36, 43, 50, 57, 64], 36) := by decide +kernel
theorem dX6_cell_60 : decode cX6_cell 60 = .ok (.aload_n 0, 1) := by decide +kernel
theorem dX6_cell_61 : decode cX6_cell 61 = .ok (.getfield 16, 3) := by decide +kernel
theorem dX6_cell_64 : decode cX6_cell 64 = .ok (.iload_n 1, 1) := by decide +kernel
theorem dX6_cell_65 : decode cX6_cell 65 = .ok (.iaload, 1) := by decide +kernel
theorem dX6_cell_66 : decode cX6_cell 66 = .ok (.ireturn, 1) := by decide +kernel
theorem dX6_cell_67 : decode cX6_cell 67 = .ok (.aload_n 0, 1) := by decide +kernel
theorem dX6_cell_68 : decode cX6_cell 68 = .ok (.getfield 13, 3) := by decide +kernel
theorem dX6_cell_71 : decode cX6_cell 71 = .ok (.iload_n 1, 1) := by decide +kernel
theorem dX6_cell_72 : decode cX6_cell 72 = .ok (.iaload, 1) := by decide +kernel
theorem dX6_cell_73 : decode cX6_cell 73 = .ok (.ireturn, 1) := by decide +kernel
theorem dX6_cell_74 : decode cX6_cell 74 = .ok (.aload_n 0, 1) := by decide +kernel
theorem dX6_cell_75 : decode cX6_cell 75 = .ok (.iload_n 1, 1) := by decide +kernel
theorem dX6_cell_76 : decode cX6_cell 76 = .ok (.iconst 1, 1) := by decide +kernel
theorem dX6_cell_77 : decode cX6_cell 77 = .ok (.invokevirtual 119, 3) := by decide +kernel
theorem dX6_cell_80 : decode cX6_cell 80 = .ok (.ireturn, 1) := by decide +kernel
theorem dX6_cell_81 : decode cX6_cell 81 = .ok (.aload_n 0, 1) := by decide +kernel
theorem dX6_cell_82 : decode cX6_cell 82 = .ok (.iload_n 1, 1) := by decide +kernel
theorem dX6_cell_83 : decode cX6_cell 83 = .ok (.iconst 0, 1) := by decide +kernel
theorem dX6_cell_84 : decode cX6_cell 84 = .ok (.invokevirtual 119, 3) := by decide +kernel
theorem dX6_cell_87 : decode cX6_cell 87 = .ok (.ireturn, 1) := by decide +kernel
theorem dX6_cell_88 : decode cX6_cell 88 = .ok (.aload_n 0, 1) := by decide +kernel
theorem dX6_cell_89 : decode cX6_cell 89 = .ok (.getfield 26, 3) := by decide +kernel
theorem dX6_cell_92 : decode cX6_cell 92 = .ok (.iload_n 1, 1) := by decide +kernel
theorem dX6_cell_93 : decode cX6_cell 93 = .ok (.iaload, 1) := by decide +kernel
theorem dX6_cell_94 : decode cX6_cell 94 = .ok (.ireturn, 1) := by decide +kernel
theorem dX6_cell_95 : decode cX6_cell 95 = .ok (.iconst (-1), 1) := by decide +kernel
theorem dX6_cell_96 : decode cX6_cell 96 = .ok (.ireturn, 1) := by decide +kernel
set_option maxRecDepth 20000 in
theorem ggX6_reason_X6_isEdge : GoodIn wsX6_reason wsX6_isEdge := goodIn_r _ [6, 7, 8, 9, 10, 11, 5, 12, 18, 19, 20, 21, 22, 23, 24, 25, 26, 27, 28, 29, 30, 31, 32, 33, 34, 35, 36, 37, 38, 39, 40, 41, 42] (by decide +kernel) (by decide +kernel)
set_option maxRecDepth 20000 in
theorem gX6_reason_X6_isEdge : GoodIn wsX6_reason (wsV RX6 82 RX6 yX6_isEdge wsX6_isEdge) := goodIn_app (goodIn_of _ (by decide +kernel)) ggX6_reason_X6_isEdge
set_option maxRecDepth 20000 in
theorem ggX6_reason_X6_fails : GoodIn wsX6_reason wsX6_fails := goodIn_r _ [16, 17, 18, 19, 20, 21, 22, 23, 24, 25, 26, 27, 28, 29, 30, 31, 32, 33, 34, 35, 36, 37, 38, 39, 40, 41, 42] (by decide +kernel) (by decide +kernel)
set_option maxRecDepth 20000 in
theorem gX6_reason_X6_fails : GoodIn wsX6_reason (wsV RX6 90 RX6 yX6_fails wsX6_fails) := goodIn_app (goodIn_of _ (by decide +kernel)) ggX6_reason_X6_fails
theorem dX6_reason_0 : decode cX6_reason 0 = .ok (.aload_n 0, 1) := by decide +kernel
theorem dX6_reason_1 : decode cX6_reason 1 = .ok (.iconst 1, 1) := by decide +kernel
theorem dX6_reason_2 : decode cX6_reason 2 = .ok (.aload_n 0, 1) := by decide +kernel
theorem dX6_reason_3 : decode cX6_reason 3 = .ok (.iload_n 1, 1) := by decide +kernel
theorem dX6_reason_4 : decode cX6_reason 4 = .ok (.invokevirtual 82, 3) := by decide +kernel
theorem dX6_reason_7 : decode cX6_reason 7 = .ok (.ifCond .ne 7, 3) := by decide +kernel
theorem dX6_reason_10 : decode cX6_reason 10 = .ok (.iconst 1, 1) := by decide +kernel
theorem dX6_reason_11 : decode cX6_reason 11 = .ok (.goto 4, 3) := by decide +kernel
theorem dX6_reason_14 : decode cX6_reason 14 = .ok (.iconst 0, 1) := by decide +kernel
theorem dX6_reason_15 : decode cX6_reason 15 = .ok (.invokevirtual 90, 3) := by decide +kernel
theorem dX6_reason_18 : decode cX6_reason 18 = .ok (.ifCond .eq 7, 3) := by decide +kernel
theorem dX6_reason_21 : decode cX6_reason 21 = .ok (.iconst 0, 1) := by decide +kernel
theorem dX6_reason_22 : decode cX6_reason 22 = .ok (.goto 9, 3) := by decide +kernel
theorem dX6_reason_25 : decode cX6_reason 25 = .ok (.aload_n 0, 1) := by decide +kernel
theorem dX6_reason_26 : decode cX6_reason 26 = .ok (.getfield 23, 3) := by decide +kernel
theorem dX6_reason_29 : decode cX6_reason 29 = .ok (.iload_n 1, 1) := by decide +kernel
theorem dX6_reason_30 : decode cX6_reason 30 = .ok (.iaload, 1) := by decide +kernel
theorem dX6_reason_31 : decode cX6_reason 31 = .ok (.ireturn, 1) := by decide +kernel
theorem dX6_mark_0 : decode cX6_mark 0 = .ok (.aload_n 0, 1) := by decide +kernel
theorem dX6_mark_1 : decode cX6_mark 1 = .ok (.iconst 0, 1) := by decide +kernel
theorem dX6_mark_2 : decode cX6_mark 2 = .ok (.putfield 75, 3) := by decide +kernel
theorem dX6_mark_5 : decode cX6_mark 5 = .ok (.aload_n 0, 1) := by decide +kernel
theorem dX6_mark_6 : decode cX6_mark 6 = .ok (.getfield 190, 3) := by decide +kernel
theorem dX6_mark_9 : decode cX6_mark 9 = .ok (.bipush 12, 2) := by decide +kernel
theorem dX6_mark_11 : decode cX6_mark 11 = .ok (.if_icmp .ne 5, 3) := by decide +kernel
theorem dX6_mark_14 : decode cX6_mark 14 = .ok (.iconst (-1), 1) := by decide +kernel
theorem dX6_mark_15 : decode cX6_mark 15 = .ok (.ireturn, 1) := by decide +kernel
theorem dX6_mark_16 : decode cX6_mark 16 = .ok (.iconst 0, 1) := by decide +kernel
theorem dX6_mark_17 : decode cX6_mark 17 = .ok (.istore_n 1, 1) := by decide +kernel
theorem dX6_mark_18 : decode cX6_mark 18 = .ok (.iload_n 1, 1) := by decide +kernel
theorem dX6_mark_19 : decode cX6_mark 19 = .ok (.sipush 128, 3) := by decide +kernel
theorem dX6_mark_22 : decode cX6_mark 22 = .ok (.if_icmp .ge 51, 3) := by decide +kernel
theorem dX6_mark_25 : decode cX6_mark 25 = .ok (.aload_n 0, 1) := by decide +kernel
theorem dX6_mark_26 : decode cX6_mark 26 = .ok (.getfield 41, 3) := by decide +kernel
theorem dX6_mark_29 : decode cX6_mark 29 = .ok (.sipush 128, 3) := by decide +kernel
theorem dX6_mark_32 : decode cX6_mark 32 = .ok (.aload_n 0, 1) := by decide +kernel
theorem dX6_mark_33 : decode cX6_mark 33 = .ok (.getfield 190, 3) := by decide +kernel
theorem dX6_mark_36 : decode cX6_mark 36 = .ok (.imul, 1) := by decide +kernel
theorem dX6_mark_37 : decode cX6_mark 37 = .ok (.iload_n 1, 1) := by decide +kernel
theorem dX6_mark_38 : decode cX6_mark 38 = .ok (.iadd, 1) := by decide +kernel
theorem dX6_mark_39 : decode cX6_mark 39 = .ok (.aload_n 0, 1) := by decide +kernel
theorem dX6_mark_40 : decode cX6_mark 40 = .ok (.getfield 7, 3) := by decide +kernel
theorem dX6_mark_43 : decode cX6_mark 43 = .ok (.iload_n 1, 1) := by decide +kernel
theorem dX6_mark_44 : decode cX6_mark 44 = .ok (.iaload, 1) := by decide +kernel
theorem dX6_mark_45 : decode cX6_mark 45 = .ok (.iastore, 1) := by decide +kernel
theorem dX6_mark_46 : decode cX6_mark 46 = .ok (.aload_n 0, 1) := by decide +kernel
theorem dX6_mark_47 : decode cX6_mark 47 = .ok (.getfield 50, 3) := by decide +kernel
theorem dX6_mark_50 : decode cX6_mark 50 = .ok (.sipush 128, 3) := by decide +kernel
theorem dX6_mark_53 : decode cX6_mark 53 = .ok (.aload_n 0, 1) := by decide +kernel
theorem dX6_mark_54 : decode cX6_mark 54 = .ok (.getfield 190, 3) := by decide +kernel
theorem dX6_mark_57 : decode cX6_mark 57 = .ok (.imul, 1) := by decide +kernel
theorem dX6_mark_58 : decode cX6_mark 58 = .ok (.iload_n 1, 1) := by decide +kernel
theorem dX6_mark_59 : decode cX6_mark 59 = .ok (.iadd, 1) := by decide +kernel
theorem dX6_mark_60 : decode cX6_mark 60 = .ok (.aload_n 0, 1) := by decide +kernel
theorem dX6_mark_61 : decode cX6_mark 61 = .ok (.getfield 23, 3) := by decide +kernel
theorem dX6_mark_64 : decode cX6_mark 64 = .ok (.iload_n 1, 1) := by decide +kernel
theorem dX6_mark_65 : decode cX6_mark 65 = .ok (.iaload, 1) := by decide +kernel
theorem dX6_mark_66 : decode cX6_mark 66 = .ok (.iastore, 1) := by decide +kernel
theorem dX6_mark_67 : decode cX6_mark 67 = .ok (.iinc 1 1, 3) := by decide +kernel
theorem dX6_mark_70 : decode cX6_mark 70 = .ok (.goto (-52), 3) := by decide +kernel
theorem dX6_mark_73 : decode cX6_mark 73 = .ok (.iconst 0, 1) := by decide +kernel
theorem dX6_mark_74 : decode cX6_mark 74 = .ok (.istore_n 1, 1) := by decide +kernel
theorem dX6_mark_75 : decode cX6_mark 75 = .ok (.iload_n 1, 1) := by decide +kernel
theorem dX6_mark_76 : decode cX6_mark 76 = .ok (.bipush 64, 2) := by decide +kernel
theorem dX6_mark_78 : decode cX6_mark 78 = .ok (.if_icmp .ge 69, 3) := by decide +kernel
theorem dX6_mark_81 : decode cX6_mark 81 = .ok (.aload_n 0, 1) := by decide +kernel
theorem dX6_mark_82 : decode cX6_mark 82 = .ok (.getfield 44, 3) := by decide +kernel
theorem dX6_mark_85 : decode cX6_mark 85 = .ok (.bipush 64, 2) := by decide +kernel
theorem dX6_mark_87 : decode cX6_mark 87 = .ok (.aload_n 0, 1) := by decide +kernel
theorem dX6_mark_88 : decode cX6_mark 88 = .ok (.getfield 190, 3) := by decide +kernel
theorem dX6_mark_91 : decode cX6_mark 91 = .ok (.imul, 1) := by decide +kernel
theorem dX6_mark_92 : decode cX6_mark 92 = .ok (.iload_n 1, 1) := by decide +kernel
theorem dX6_mark_93 : decode cX6_mark 93 = .ok (.iadd, 1) := by decide +kernel
theorem dX6_mark_94 : decode cX6_mark 94 = .ok (.aload_n 0, 1) := by decide +kernel
theorem dX6_mark_95 : decode cX6_mark 95 = .ok (.getfield 13, 3) := by decide +kernel
theorem dX6_mark_98 : decode cX6_mark 98 = .ok (.iload_n 1, 1) := by decide +kernel
theorem dX6_mark_99 : decode cX6_mark 99 = .ok (.iaload, 1) := by decide +kernel
theorem dX6_mark_100 : decode cX6_mark 100 = .ok (.iastore, 1) := by decide +kernel
theorem dX6_mark_101 : decode cX6_mark 101 = .ok (.aload_n 0, 1) := by decide +kernel
theorem dX6_mark_102 : decode cX6_mark 102 = .ok (.getfield 47, 3) := by decide +kernel
theorem dX6_mark_105 : decode cX6_mark 105 = .ok (.bipush 64, 2) := by decide +kernel
theorem dX6_mark_107 : decode cX6_mark 107 = .ok (.aload_n 0, 1) := by decide +kernel
theorem dX6_mark_108 : decode cX6_mark 108 = .ok (.getfield 190, 3) := by decide +kernel
theorem dX6_mark_111 : decode cX6_mark 111 = .ok (.imul, 1) := by decide +kernel
theorem dX6_mark_112 : decode cX6_mark 112 = .ok (.iload_n 1, 1) := by decide +kernel
theorem dX6_mark_113 : decode cX6_mark 113 = .ok (.iadd, 1) := by decide +kernel
theorem dX6_mark_114 : decode cX6_mark 114 = .ok (.aload_n 0, 1) := by decide +kernel
theorem dX6_mark_115 : decode cX6_mark 115 = .ok (.getfield 16, 3) := by decide +kernel
theorem dX6_mark_118 : decode cX6_mark 118 = .ok (.iload_n 1, 1) := by decide +kernel
theorem dX6_mark_119 : decode cX6_mark 119 = .ok (.iaload, 1) := by decide +kernel
theorem dX6_mark_120 : decode cX6_mark 120 = .ok (.iastore, 1) := by decide +kernel
theorem dX6_mark_121 : decode cX6_mark 121 = .ok (.aload_n 0, 1) := by decide +kernel
theorem dX6_mark_122 : decode cX6_mark 122 = .ok (.getfield 53, 3) := by decide +kernel
theorem dX6_mark_125 : decode cX6_mark 125 = .ok (.bipush 64, 2) := by decide +kernel
theorem dX6_mark_127 : decode cX6_mark 127 = .ok (.aload_n 0, 1) := by decide +kernel
theorem dX6_mark_128 : decode cX6_mark 128 = .ok (.getfield 190, 3) := by decide +kernel
theorem dX6_mark_131 : decode cX6_mark 131 = .ok (.imul, 1) := by decide +kernel
theorem dX6_mark_132 : decode cX6_mark 132 = .ok (.iload_n 1, 1) := by decide +kernel
theorem dX6_mark_133 : decode cX6_mark 133 = .ok (.iadd, 1) := by decide +kernel
theorem dX6_mark_134 : decode cX6_mark 134 = .ok (.aload_n 0, 1) := by decide +kernel
theorem dX6_mark_135 : decode cX6_mark 135 = .ok (.getfield 26, 3) := by decide +kernel
theorem dX6_mark_138 : decode cX6_mark 138 = .ok (.iload_n 1, 1) := by decide +kernel
theorem dX6_mark_139 : decode cX6_mark 139 = .ok (.iaload, 1) := by decide +kernel
theorem dX6_mark_140 : decode cX6_mark 140 = .ok (.iastore, 1) := by decide +kernel
theorem dX6_mark_141 : decode cX6_mark 141 = .ok (.iinc 1 1, 3) := by decide +kernel
theorem dX6_mark_144 : decode cX6_mark 144 = .ok (.goto (-69), 3) := by decide +kernel
theorem dX6_mark_147 : decode cX6_mark 147 = .ok (.aload_n 0, 1) := by decide +kernel
theorem dX6_mark_148 : decode cX6_mark 148 = .ok (.getfield 56, 3) := by decide +kernel
theorem dX6_mark_151 : decode cX6_mark 151 = .ok (.aload_n 0, 1) := by decide +kernel
theorem dX6_mark_152 : decode cX6_mark 152 = .ok (.getfield 190, 3) := by decide +kernel
theorem dX6_mark_155 : decode cX6_mark 155 = .ok (.aload_n 0, 1) := by decide +kernel
theorem dX6_mark_156 : decode cX6_mark 156 = .ok (.getfield 19, 3) := by decide +kernel
theorem dX6_mark_159 : decode cX6_mark 159 = .ok (.iastore, 1) := by decide +kernel
theorem dX6_mark_160 : decode cX6_mark 160 = .ok (.aload_n 0, 1) := by decide +kernel
theorem dX6_mark_161 : decode cX6_mark 161 = .ok (.getfield 59, 3) := by decide +kernel
theorem dX6_mark_164 : decode cX6_mark 164 = .ok (.aload_n 0, 1) := by decide +kernel
theorem dX6_mark_165 : decode cX6_mark 165 = .ok (.getfield 190, 3) := by decide +kernel
theorem dX6_mark_168 : decode cX6_mark 168 = .ok (.aload_n 0, 1) := by decide +kernel
theorem dX6_mark_169 : decode cX6_mark 169 = .ok (.getfield 105, 3) := by decide +kernel
theorem dX6_mark_172 : decode cX6_mark 172 = .ok (.iastore, 1) := by decide +kernel
theorem dX6_mark_173 : decode cX6_mark 173 = .ok (.aload_n 0, 1) := by decide +kernel
theorem dX6_mark_174 : decode cX6_mark 174 = .ok (.getfield 62, 3) := by decide +kernel
theorem dX6_mark_177 : decode cX6_mark 177 = .ok (.aload_n 0, 1) := by decide +kernel
theorem dX6_mark_178 : decode cX6_mark 178 = .ok (.getfield 190, 3) := by decide +kernel
theorem dX6_mark_181 : decode cX6_mark 181 = .ok (.aload_n 0, 1) := by decide +kernel
theorem dX6_mark_182 : decode cX6_mark 182 = .ok (.getfield 98, 3) := by decide +kernel
theorem dX6_mark_185 : decode cX6_mark 185 = .ok (.bastore, 1) := by decide +kernel
theorem dX6_mark_186 : decode cX6_mark 186 = .ok (.aload_n 0, 1) := by decide +kernel
theorem dX6_mark_187 : decode cX6_mark 187 = .ok (.dup, 1) := by decide +kernel
theorem dX6_mark_188 : decode cX6_mark 188 = .ok (.getfield 190, 3) := by decide +kernel
theorem dX6_mark_191 : decode cX6_mark 191 = .ok (.iconst 1, 1) := by decide +kernel
theorem dX6_mark_192 : decode cX6_mark 192 = .ok (.iadd, 1) := by decide +kernel
theorem dX6_mark_193 : decode cX6_mark 193 = .ok (.putfield 190, 3) := by decide +kernel
theorem dX6_mark_196 : decode cX6_mark 196 = .ok (.aload_n 0, 1) := by decide +kernel
theorem dX6_mark_197 : decode cX6_mark 197 = .ok (.getfield 190, 3) := by decide +kernel
theorem dX6_mark_200 : decode cX6_mark 200 = .ok (.iconst 1, 1) := by decide +kernel
theorem dX6_mark_201 : decode cX6_mark 201 = .ok (.isub, 1) := by decide +kernel
theorem dX6_mark_202 : decode cX6_mark 202 = .ok (.ireturn, 1) := by decide +kernel
theorem dX6_back_0 : decode cX6_back 0 = .ok (.aload_n 0, 1) := by decide +kernel
theorem dX6_back_1 : decode cX6_back 1 = .ok (.iconst 0, 1) := by decide +kernel
theorem dX6_back_2 : decode cX6_back 2 = .ok (.putfield 75, 3) := by decide +kernel
theorem dX6_back_5 : decode cX6_back 5 = .ok (.iload_n 1, 1) := by decide +kernel
theorem dX6_back_6 : decode cX6_back 6 = .ok (.ifCond .lt 11, 3) := by decide +kernel
theorem dX6_back_9 : decode cX6_back 9 = .ok (.iload_n 1, 1) := by decide +kernel
theorem dX6_back_10 : decode cX6_back 10 = .ok (.aload_n 0, 1) := by decide +kernel
theorem dX6_back_11 : decode cX6_back 11 = .ok (.getfield 190, 3) := by decide +kernel
theorem dX6_back_14 : decode cX6_back 14 = .ok (.if_icmp .lt 5, 3) := by decide +kernel
theorem dX6_back_17 : decode cX6_back 17 = .ok (.iconst 0, 1) := by decide +kernel
theorem dX6_back_18 : decode cX6_back 18 = .ok (.ireturn, 1) := by decide +kernel
theorem dX6_back_19 : decode cX6_back 19 = .ok (.aload_n 0, 1) := by decide +kernel
theorem dX6_back_20 : decode cX6_back 20 = .ok (.iload_n 1, 1) := by decide +kernel
theorem dX6_back_21 : decode cX6_back 21 = .ok (.putfield 190, 3) := by decide +kernel
theorem dX6_back_24 : decode cX6_back 24 = .ok (.iconst 0, 1) := by decide +kernel
theorem dX6_back_25 : decode cX6_back 25 = .ok (.istore_n 2, 1) := by decide +kernel
