set_option maxRecDepth 20000 in
theorem ggX2_doFull_X5_least : GoodIn wsX2_doFull wsX5_least := goodIn_r _ [23, 24, 25, 26, 27, 28, 29, 30] (by decide +kernel) (by decide +kernel)
set_option maxRecDepth 20000 in
theorem gX2_doFull_X5_least_n130 : GoodIn wsX2_doFull (wsX5_least) := ggX2_doFull_X5_least
set_option maxRecDepth 20000 in
theorem ggX2_doFull_X2_setOpenEdgesOf : GoodIn wsX2_doFull wsX2_setOpenEdgesOf := goodIn_r _ [35, 36, 37, 4, 38, 39, 40, 41, 42, 43, 44, 45, 46, 47, 48, 49, 50, 51, 52, 53, 54, 55, 56, 57, 58, 59, 60, 61, 62, 63, 64, 65, 8, 66, 11, 10, 67, 68, 69, 70, 71, 72, 73, 22, 74, 75, 76, 77, 78, 34, 79, 2, 80, 81, 82, 83, 84, 85, 86, 87, 88, 89, 90, 91, 92, 93, 94, 95, 96, 97, 98, 99, 100, 101, 102, 103, 104, 105, 106, 107, 108, 109, 121, 122, 123, 124, 125, 126, 127, 128, 129, 130, 131, 132, 118, 119, 120, 110, 111, 112, 113, 114, 115, 116, 117] (by decide +kernel) (by decide +kernel)
set_option maxRecDepth 20000 in
theorem gX2_doFull_X2_setOpenEdgesOf : GoodIn wsX2_doFull (wsV RX2 138 RX2 yX2_setOpenEdgesOf wsX2_setOpenEdgesOf) := goodIn_app (goodIn_of _ (by decide +kernel)) ggX2_doFull_X2_setOpenEdgesOf
theorem dX2_doFull_0 : decode cX2_doFull 0 = .ok (.aload_n 0, 1) := by decide +kernel
theorem dX2_doFull_1 : decode cX2_doFull 1 = .ok (.getfield 110, 3) := by decide +kernel
theorem dX2_doFull_4 : decode cX2_doFull 4 = .ok (.aload_n 0, 1) := by decide +kernel
theorem dX2_doFull_5 : decode cX2_doFull 5 = .ok (.getfield 15, 3) := by decide +kernel
theorem dX2_doFull_8 : decode cX2_doFull 8 = .ok (.getfield 127, 3) := by decide +kernel
theorem dX2_doFull_11 : decode cX2_doFull 11 = .ok (.lor, 1) := by decide +kernel
theorem dX2_doFull_12 : decode cX2_doFull 12 = .ok (.aload_n 0, 1) := by decide +kernel
theorem dX2_doFull_13 : decode cX2_doFull 13 = .ok (.getfield 34, 3) := by decide +kernel
theorem dX2_doFull_16 : decode cX2_doFull 16 = .ok (.invokevirtual 99, 3) := by decide +kernel
theorem dX2_doFull_19 : decode cX2_doFull 19 = .ok (.land, 1) := by decide +kernel
theorem dX2_doFull_20 : decode cX2_doFull 20 = .ok (.lstore_n 1, 1) := by decide +kernel
theorem dX2_doFull_21 : decode cX2_doFull 21 = .ok (.lload_n 1, 1) := by decide +kernel
theorem dX2_doFull_22 : decode cX2_doFull 22 = .ok (.lconst 0, 1) := by decide +kernel
theorem dX2_doFull_23 : decode cX2_doFull 23 = .ok (.lcmp, 1) := by decide +kernel
theorem dX2_doFull_24 : decode cX2_doFull 24 = .ok (.ifCond .eq 20, 3) := by decide +kernel
theorem dX2_doFull_27 : decode cX2_doFull 27 = .ok (.aload_n 0, 1) := by decide +kernel
theorem dX2_doFull_28 : decode cX2_doFull 28 = .ok (.iconst 2, 1) := by decide +kernel
theorem dX2_doFull_29 : decode cX2_doFull 29 = .ok (.lload_n 1, 1) := by decide +kernel
theorem dX2_doFull_30 : decode cX2_doFull 30 = .ok (.invokestatic 130, 3) := by decide +kernel
theorem dX2_doFull_33 : decode cX2_doFull 33 = .ok (.iconst 0, 1) := by decide +kernel
theorem dX2_doFull_34 : decode cX2_doFull 34 = .ok (.invokevirtual 138, 3) := by decide +kernel
theorem dX2_doFull_37 : decode cX2_doFull 37 = .ok (.ifCond .eq 7, 3) := by decide +kernel
theorem dX2_doFull_40 : decode cX2_doFull 40 = .ok (.iconst 1, 1) := by decide +kernel
theorem dX2_doFull_41 : decode cX2_doFull 41 = .ok (.goto 4, 3) := by decide +kernel
theorem dX2_doFull_44 : decode cX2_doFull 44 = .ok (.iconst 0, 1) := by decide +kernel
theorem dX2_doFull_45 : decode cX2_doFull 45 = .ok (.ireturn, 1) := by decide +kernel
set_option maxRecDepth 20000 in
theorem ggX2_doAlone_X0_cellsWithOne : GoodIn wsX2_doAlone wsX0_cellsWithOne := goodIn_r _ [8, 9, 10, 11, 12, 13, 7, 14, 15, 16, 17, 18, 19, 114, 115, 116] (by decide +kernel) (by decide +kernel)
set_option maxRecDepth 20000 in
theorem gX2_doAlone_X0_cellsWithOne : GoodIn wsX2_doAlone (wsV RX2 99 RX0 yX0_cellsWithOne wsX0_cellsWithOne) := goodIn_app (goodIn_of _ (by decide +kernel)) ggX2_doAlone_X0_cellsWithOne
set_option maxRecDepth 20000 in
theorem ggX2_doAlone_X0_cellsWithTwo : GoodIn wsX2_doAlone wsX0_cellsWithTwo := goodIn_r _ [23, 9, 10, 11, 12, 13, 7, 14, 15, 16, 17, 18, 19, 114, 115, 116] (by decide +kernel) (by decide +kernel)
set_option maxRecDepth 20000 in
theorem gX2_doAlone_X0_cellsWithTwo : GoodIn wsX2_doAlone (wsV RX2 107 RX0 yX0_cellsWithTwo wsX0_cellsWithTwo) := goodIn_app (goodIn_of _ (by decide +kernel)) ggX2_doAlone_X0_cellsWithTwo
set_option maxRecDepth 20000 in
theorem ggX2_doAlone_X5_least : GoodIn wsX2_doAlone wsX5_least := goodIn_r _ [26, 27, 28, 29, 30, 31, 32, 33] (by decide +kernel) (by decide +kernel)
set_option maxRecDepth 20000 in
theorem gX2_doAlone_X5_least_n130 : GoodIn wsX2_doAlone (wsX5_least) := ggX2_doAlone_X5_least
set_option maxRecDepth 20000 in
theorem ggX2_doAlone_X2_setOpenEdgesOf : GoodIn wsX2_doAlone wsX2_setOpenEdgesOf := goodIn_r _ [38, 39, 40, 1, 41, 42, 43, 44, 45, 46, 47, 48, 49, 50, 51, 52, 53, 54, 55, 56, 57, 58, 59, 60, 61, 62, 63, 64, 65, 66, 67, 68, 7, 69, 10, 9, 70, 71, 72, 73, 74, 75, 76, 25, 77, 78, 79, 80, 81, 37, 82, 83, 84, 85, 86, 87, 88, 89, 90, 91, 92, 93, 94, 95, 96, 97, 98, 99, 100, 101, 102, 103, 104, 105, 106, 107, 108, 109, 110, 111, 112, 113, 117, 118, 119, 120, 121, 122, 123, 124, 125, 126, 127, 128, 114, 115, 116, 129, 130, 131, 132, 133, 134, 135, 136] (by decide +kernel) (by decide +kernel)
set_option maxRecDepth 20000 in
theorem gX2_doAlone_X2_setOpenEdgesOf : GoodIn wsX2_doAlone (wsV RX2 138 RX2 yX2_setOpenEdgesOf wsX2_setOpenEdgesOf) := goodIn_app (goodIn_of _ (by decide +kernel)) ggX2_doAlone_X2_setOpenEdgesOf
theorem dX2_doAlone_0 : decode cX2_doAlone 0 = .ok (.aload_n 0, 1) := by decide +kernel
theorem dX2_doAlone_1 : decode cX2_doAlone 1 = .ok (.getfield 34, 3) := by decide +kernel
theorem dX2_doAlone_4 : decode cX2_doAlone 4 = .ok (.invokevirtual 99, 3) := by decide +kernel
theorem dX2_doAlone_7 : decode cX2_doAlone 7 = .ok (.aload_n 0, 1) := by decide +kernel
theorem dX2_doAlone_8 : decode cX2_doAlone 8 = .ok (.getfield 34, 3) := by decide +kernel
theorem dX2_doAlone_11 : decode cX2_doAlone 11 = .ok (.invokevirtual 107, 3) := by decide +kernel
theorem dX2_doAlone_14 : decode cX2_doAlone 14 = .ok (.ldc2_w 113, 3) := by decide +kernel
theorem dX2_doAlone_17 : decode cX2_doAlone 17 = .ok (.lxor, 1) := by decide +kernel
theorem dX2_doAlone_18 : decode cX2_doAlone 18 = .ok (.land, 1) := by decide +kernel
theorem dX2_doAlone_19 : decode cX2_doAlone 19 = .ok (.aload_n 0, 1) := by decide +kernel
theorem dX2_doAlone_20 : decode cX2_doAlone 20 = .ok (.getfield 121, 3) := by decide +kernel
theorem dX2_doAlone_23 : decode cX2_doAlone 23 = .ok (.ldc2_w 113, 3) := by decide +kernel
theorem dX2_doAlone_26 : decode cX2_doAlone 26 = .ok (.lxor, 1) := by decide +kernel
theorem dX2_doAlone_27 : decode cX2_doAlone 27 = .ok (.land, 1) := by decide +kernel
theorem dX2_doAlone_28 : decode cX2_doAlone 28 = .ok (.lstore_n 1, 1) := by decide +kernel
theorem dX2_doAlone_29 : decode cX2_doAlone 29 = .ok (.lload_n 1, 1) := by decide +kernel
theorem dX2_doAlone_30 : decode cX2_doAlone 30 = .ok (.lconst 0, 1) := by decide +kernel
theorem dX2_doAlone_31 : decode cX2_doAlone 31 = .ok (.lcmp, 1) := by decide +kernel
theorem dX2_doAlone_32 : decode cX2_doAlone 32 = .ok (.ifCond .eq 20, 3) := by decide +kernel
theorem dX2_doAlone_35 : decode cX2_doAlone 35 = .ok (.aload_n 0, 1) := by decide +kernel
theorem dX2_doAlone_36 : decode cX2_doAlone 36 = .ok (.iconst 3, 1) := by decide +kernel
theorem dX2_doAlone_37 : decode cX2_doAlone 37 = .ok (.lload_n 1, 1) := by decide +kernel
theorem dX2_doAlone_38 : decode cX2_doAlone 38 = .ok (.invokestatic 130, 3) := by decide +kernel
theorem dX2_doAlone_41 : decode cX2_doAlone 41 = .ok (.iconst 0, 1) := by decide +kernel
theorem dX2_doAlone_42 : decode cX2_doAlone 42 = .ok (.invokevirtual 138, 3) := by decide +kernel
theorem dX2_doAlone_45 : decode cX2_doAlone 45 = .ok (.ifCond .eq 7, 3) := by decide +kernel
theorem dX2_doAlone_48 : decode cX2_doAlone 48 = .ok (.iconst 1, 1) := by decide +kernel
theorem dX2_doAlone_49 : decode cX2_doAlone 49 = .ok (.goto 4, 3) := by decide +kernel
theorem dX2_doAlone_52 : decode cX2_doAlone 52 = .ok (.iconst 0, 1) := by decide +kernel
theorem dX2_doAlone_53 : decode cX2_doAlone 53 = .ok (.ireturn, 1) := by decide +kernel
set_option maxRecDepth 20000 in
theorem ggX2_doForced_X0_cellsWithTwo : GoodIn wsX2_doForced wsX0_cellsWithTwo := goodIn_r _ [11, 12, 13, 14, 15, 16, 10, 17, 18, 19, 20, 21, 22, 128, 129, 130] (by decide +kernel) (by decide +kernel)
set_option maxRecDepth 20000 in
theorem gX2_doForced_X0_cellsWithTwo : GoodIn wsX2_doForced (wsV RX2 107 RX0 yX0_cellsWithTwo wsX0_cellsWithTwo) := goodIn_app (goodIn_of _ (by decide +kernel)) ggX2_doForced_X0_cellsWithTwo
set_option maxRecDepth 20000 in
theorem ggX2_doForced_X0_cellsWithThree : GoodIn wsX2_doForced wsX0_cellsWithThree := goodIn_r _ [26, 12, 13, 14, 15, 16, 10, 17, 18, 19, 20, 21, 22, 128, 129, 130] (by decide +kernel) (by decide +kernel)
set_option maxRecDepth 20000 in
theorem gX2_doForced_X0_cellsWithThree : GoodIn wsX2_doForced (wsV RX2 124 RX0 yX0_cellsWithThree wsX0_cellsWithThree) := goodIn_app (goodIn_of _ (by decide +kernel)) ggX2_doForced_X0_cellsWithThree
set_option maxRecDepth 20000 in
theorem ggX2_doForced_X0_cellsWithOne : GoodIn wsX2_doForced wsX0_cellsWithOne := goodIn_r _ [30, 12, 13, 14, 15, 16, 10, 17, 18, 19, 20, 21, 22, 128, 129, 130] (by decide +kernel) (by decide +kernel)
set_option maxRecDepth 20000 in
theorem gX2_doForced_X0_cellsWithOne : GoodIn wsX2_doForced (wsV RX2 99 RX0 yX0_cellsWithOne wsX0_cellsWithOne) := goodIn_app (goodIn_of _ (by decide +kernel)) ggX2_doForced_X0_cellsWithOne
set_option maxRecDepth 20000 in
theorem ggX2_doForced_X5_least : GoodIn wsX2_doForced wsX5_least := goodIn_r _ [33, 34, 35, 36, 37, 38, 39, 40] (by decide +kernel) (by decide +kernel)
set_option maxRecDepth 20000 in
theorem gX2_doForced_X5_least_n130 : GoodIn wsX2_doForced (wsX5_least) := ggX2_doForced_X5_least
set_option maxRecDepth 20000 in
theorem ggX2_doForced_X2_setOpenEdgesOf : GoodIn wsX2_doForced wsX2_setOpenEdgesOf := goodIn_r _ [45, 46, 47, 6, 48, 49, 50, 51, 52, 53, 54, 55, 56, 57, 58, 59, 60, 61, 62, 63, 64, 65, 66, 67, 68, 69, 70, 71, 72, 73, 74, 75, 10, 76, 13, 12, 77, 78, 79, 80, 81, 82, 83, 32, 84, 85, 86, 87, 88, 44, 89, 3, 90, 91, 92, 93, 94, 95, 96, 97, 98, 99, 100, 101, 102, 103, 104, 105, 106, 107, 108, 109, 110, 111, 112, 113, 114, 115, 116, 117, 118, 119, 131, 132, 133, 134, 135, 136, 137, 138, 139, 140, 141, 142, 128, 129, 130, 120, 121, 122, 123, 124, 125, 126, 127] (by decide +kernel) (by decide +kernel)
set_option maxRecDepth 20000 in
theorem gX2_doForced_X2_setOpenEdgesOf : GoodIn wsX2_doForced (wsV RX2 138 RX2 yX2_setOpenEdgesOf wsX2_setOpenEdgesOf) := goodIn_app (goodIn_of _ (by decide +kernel)) ggX2_doForced_X2_setOpenEdgesOf
theorem dX2_doForced_0 : decode cX2_doForced 0 = .ok (.aload_n 0, 1) := by decide +kernel
theorem dX2_doForced_1 : decode cX2_doForced 1 = .ok (.getfield 38, 3) := by decide +kernel
theorem dX2_doForced_4 : decode cX2_doForced 4 = .ok (.invokevirtual 107, 3) := by decide +kernel
theorem dX2_doForced_7 : decode cX2_doForced 7 = .ok (.aload_n 0, 1) := by decide +kernel
theorem dX2_doForced_8 : decode cX2_doForced 8 = .ok (.getfield 38, 3) := by decide +kernel
theorem dX2_doForced_11 : decode cX2_doForced 11 = .ok (.invokevirtual 124, 3) := by decide +kernel
theorem dX2_doForced_14 : decode cX2_doForced 14 = .ok (.ldc2_w 113, 3) := by decide +kernel
theorem dX2_doForced_17 : decode cX2_doForced 17 = .ok (.lxor, 1) := by decide +kernel
theorem dX2_doForced_18 : decode cX2_doForced 18 = .ok (.land, 1) := by decide +kernel
theorem dX2_doForced_19 : decode cX2_doForced 19 = .ok (.lstore_n 1, 1) := by decide +kernel
theorem dX2_doForced_20 : decode cX2_doForced 20 = .ok (.aload_n 0, 1) := by decide +kernel
theorem dX2_doForced_21 : decode cX2_doForced 21 = .ok (.getfield 15, 3) := by decide +kernel
theorem dX2_doForced_24 : decode cX2_doForced 24 = .ok (.getfield 118, 3) := by decide +kernel
theorem dX2_doForced_27 : decode cX2_doForced 27 = .ok (.aload_n 0, 1) := by decide +kernel
theorem dX2_doForced_28 : decode cX2_doForced 28 = .ok (.getfield 115, 3) := by decide +kernel
theorem dX2_doForced_31 : decode cX2_doForced 31 = .ok (.lor, 1) := by decide +kernel
theorem dX2_doForced_32 : decode cX2_doForced 32 = .ok (.lload_n 1, 1) := by decide +kernel
theorem dX2_doForced_33 : decode cX2_doForced 33 = .ok (.land, 1) := by decide +kernel
theorem dX2_doForced_34 : decode cX2_doForced 34 = .ok (.aload_n 0, 1) := by decide +kernel
theorem dX2_doForced_35 : decode cX2_doForced 35 = .ok (.getfield 34, 3) := by decide +kernel
theorem dX2_doForced_38 : decode cX2_doForced 38 = .ok (.invokevirtual 99, 3) := by decide +kernel
theorem dX2_doForced_41 : decode cX2_doForced 41 = .ok (.land, 1) := by decide +kernel
theorem dX2_doForced_42 : decode cX2_doForced 42 = .ok (.lstore_n 3, 1) := by decide +kernel
theorem dX2_doForced_43 : decode cX2_doForced 43 = .ok (.lload_n 3, 1) := by decide +kernel
theorem dX2_doForced_44 : decode cX2_doForced 44 = .ok (.lconst 0, 1) := by decide +kernel
theorem dX2_doForced_45 : decode cX2_doForced 45 = .ok (.lcmp, 1) := by decide +kernel
theorem dX2_doForced_46 : decode cX2_doForced 46 = .ok (.ifCond .eq 20, 3) := by decide +kernel
theorem dX2_doForced_49 : decode cX2_doForced 49 = .ok (.aload_n 0, 1) := by decide +kernel
theorem dX2_doForced_50 : decode cX2_doForced 50 = .ok (.iconst 4, 1) := by decide +kernel
theorem dX2_doForced_51 : decode cX2_doForced 51 = .ok (.lload_n 3, 1) := by decide +kernel
theorem dX2_doForced_52 : decode cX2_doForced 52 = .ok (.invokestatic 130, 3) := by decide +kernel
theorem dX2_doForced_55 : decode cX2_doForced 55 = .ok (.iconst 1, 1) := by decide +kernel
theorem dX2_doForced_56 : decode cX2_doForced 56 = .ok (.invokevirtual 138, 3) := by decide +kernel
theorem dX2_doForced_59 : decode cX2_doForced 59 = .ok (.ifCond .eq 7, 3) := by decide +kernel
theorem dX2_doForced_62 : decode cX2_doForced 62 = .ok (.iconst 1, 1) := by decide +kernel
theorem dX2_doForced_63 : decode cX2_doForced 63 = .ok (.goto 4, 3) := by decide +kernel
theorem dX2_doForced_66 : decode cX2_doForced 66 = .ok (.iconst 0, 1) := by decide +kernel
theorem dX2_doForced_67 : decode cX2_doForced 67 = .ok (.ireturn, 1) := by decide +kernel
set_option maxRecDepth 20000 in
theorem ggX2_doClosed_X5_least : GoodIn wsX2_doClosed wsX5_least := goodIn_r _ [10, 11, 12, 13, 14, 15, 16, 17] (by decide +kernel) (by decide +kernel)
set_option maxRecDepth 20000 in
theorem gX2_doClosed_X5_least_n130 : GoodIn wsX2_doClosed (wsX5_least) := ggX2_doClosed_X5_least
set_option maxRecDepth 20000 in
theorem ggX2_doClosed_X5_only : GoodIn wsX2_doClosed wsX5_only := goodIn_r _ [19] (by decide +kernel) (by decide +kernel)
set_option maxRecDepth 20000 in
theorem gX2_doClosed_X5_only_n145 : GoodIn wsX2_doClosed (wsX5_only) := ggX2_doClosed_X5_only
set_option maxRecDepth 20000 in
theorem ggX2_doClosed_X0_reach : GoodIn wsX2_doClosed wsX0_reach := goodIn_r _ [24, 25, 26, 27, 23, 28, 29, 30, 31, 82, 83, 84] (by decide +kernel) (by decide +kernel)
set_option maxRecDepth 20000 in
theorem gX2_doClosed_X0_reach : GoodIn wsX2_doClosed (wsV RX2 149 RX0 yX0_reach wsX0_reach) := goodIn_app (goodIn_of _ (by decide +kernel)) ggX2_doClosed_X0_reach
set_option maxRecDepth 20000 in
theorem ggX2_doClosed_X2_leavesOut : GoodIn wsX2_doClosed wsX2_leavesOut := goodIn_r _ [36, 37, 7, 57, 58, 59, 60, 61, 62, 63, 64, 65, 66] (by decide +kernel) (by decide +kernel)
set_option maxRecDepth 20000 in
theorem gX2_doClosed_X2_leavesOut : GoodIn wsX2_doClosed (wsV RX2 153 RX2 yX2_leavesOut wsX2_leavesOut) := goodIn_app (goodIn_of _ (by decide +kernel)) ggX2_doClosed_X2_leavesOut
set_option maxRecDepth 20000 in
theorem ggX2_doClosed_X2_wrongAt : GoodIn wsX2_doClosed wsX2_wrongAt := goodIn_r _ [41, 42, 4, 43, 44, 45, 46, 47, 48, 49, 50, 51, 52, 53, 54, 55, 56, 57, 58, 59, 60, 61, 62, 63, 64, 65, 66, 74, 75, 76, 77, 78, 79, 80, 81, 85, 86, 87, 88, 89] (by decide +kernel) (by decide +kernel)
set_option maxRecDepth 20000 in
theorem gX2_doClosed_X2_wrongAt : GoodIn wsX2_doClosed (wsV RX2 134 RX2 yX2_wrongAt wsX2_wrongAt) := goodIn_app (goodIn_of _ (by decide +kernel)) ggX2_doClosed_X2_wrongAt
theorem dX2_doClosed_0 : decode cX2_doClosed 0 = .ok (.aload_n 0, 1) := by decide +kernel
theorem dX2_doClosed_1 : decode cX2_doClosed 1 = .ok (.getfield 103, 3) := by decide +kernel
theorem dX2_doClosed_4 : decode cX2_doClosed 4 = .ok (.lstore_n 1, 1) := by decide +kernel
theorem dX2_doClosed_5 : decode cX2_doClosed 5 = .ok (.iconst 0, 1) := by decide +kernel
theorem dX2_doClosed_6 : decode cX2_doClosed 6 = .ok (.istore_n 3, 1) := by decide +kernel
theorem dX2_doClosed_7 : decode cX2_doClosed 7 = .ok (.iload_n 3, 1) := by decide +kernel
theorem dX2_doClosed_8 : decode cX2_doClosed 8 = .ok (.aload_n 0, 1) := by decide +kernel
theorem dX2_doClosed_9 : decode cX2_doClosed 9 = .ok (.getfield 9, 3) := by decide +kernel
theorem dX2_doClosed_12 : decode cX2_doClosed 12 = .ok (.getfield 142, 3) := by decide +kernel
theorem dX2_doClosed_15 : decode cX2_doClosed 15 = .ok (.if_icmp .ge 92, 3) := by decide +kernel
theorem dX2_doClosed_18 : decode cX2_doClosed 18 = .ok (.lload_n 1, 1) := by decide +kernel
theorem dX2_doClosed_19 : decode cX2_doClosed 19 = .ok (.lconst 0, 1) := by decide +kernel
theorem dX2_doClosed_20 : decode cX2_doClosed 20 = .ok (.lcmp, 1) := by decide +kernel
theorem dX2_doClosed_21 : decode cX2_doClosed 21 = .ok (.ifCond .eq 86, 3) := by decide +kernel
theorem dX2_doClosed_24 : decode cX2_doClosed 24 = .ok (.lload_n 1, 1) := by decide +kernel
theorem dX2_doClosed_25 : decode cX2_doClosed 25 = .ok (.invokestatic 130, 3) := by decide +kernel
theorem dX2_doClosed_28 : decode cX2_doClosed 28 = .ok (.istore 4, 2) := by decide +kernel
theorem dX2_doClosed_30 : decode cX2_doClosed 30 = .ok (.aload_n 0, 1) := by decide +kernel
theorem dX2_doClosed_31 : decode cX2_doClosed 31 = .ok (.getfield 15, 3) := by decide +kernel
theorem dX2_doClosed_34 : decode cX2_doClosed 34 = .ok (.getfield 96, 3) := by decide +kernel
theorem dX2_doClosed_37 : decode cX2_doClosed 37 = .ok (.iload 4, 2) := by decide +kernel
theorem dX2_doClosed_39 : decode cX2_doClosed 39 = .ok (.invokestatic 145, 3) := by decide +kernel
theorem dX2_doClosed_42 : decode cX2_doClosed 42 = .ok (.invokevirtual 149, 3) := by decide +kernel
theorem dX2_doClosed_45 : decode cX2_doClosed 45 = .ok (.lstore 5, 2) := by decide +kernel
theorem dX2_doClosed_47 : decode cX2_doClosed 47 = .ok (.lload 5, 2) := by decide +kernel
theorem dX2_doClosed_49 : decode cX2_doClosed 49 = .ok (.aload_n 0, 1) := by decide +kernel
theorem dX2_doClosed_50 : decode cX2_doClosed 50 = .ok (.getfield 110, 3) := by decide +kernel
theorem dX2_doClosed_53 : decode cX2_doClosed 53 = .ok (.ldc2_w 113, 3) := by decide +kernel
theorem dX2_doClosed_56 : decode cX2_doClosed 56 = .ok (.lxor, 1) := by decide +kernel
theorem dX2_doClosed_57 : decode cX2_doClosed 57 = .ok (.land, 1) := by decide +kernel
theorem dX2_doClosed_58 : decode cX2_doClosed 58 = .ok (.lconst 0, 1) := by decide +kernel
theorem dX2_doClosed_59 : decode cX2_doClosed 59 = .ok (.lcmp, 1) := by decide +kernel
theorem dX2_doClosed_60 : decode cX2_doClosed 60 = .ok (.ifCond .ne 7, 3) := by decide +kernel
theorem dX2_doClosed_63 : decode cX2_doClosed 63 = .ok (.iconst 1, 1) := by decide +kernel
theorem dX2_doClosed_64 : decode cX2_doClosed 64 = .ok (.goto 4, 3) := by decide +kernel
theorem dX2_doClosed_67 : decode cX2_doClosed 67 = .ok (.iconst 0, 1) := by decide +kernel
theorem dX2_doClosed_68 : decode cX2_doClosed 68 = .ok (.istore 7, 2) := by decide +kernel
theorem dX2_doClosed_70 : decode cX2_doClosed 70 = .ok (.iload 7, 2) := by decide +kernel
theorem dX2_doClosed_72 : decode cX2_doClosed 72 = .ok (.ifCond .eq 20, 3) := by decide +kernel
theorem dX2_doClosed_75 : decode cX2_doClosed 75 = .ok (.aload_n 0, 1) := by decide +kernel
theorem dX2_doClosed_76 : decode cX2_doClosed 76 = .ok (.lload 5, 2) := by decide +kernel
theorem dX2_doClosed_78 : decode cX2_doClosed 78 = .ok (.invokevirtual 153, 3) := by decide +kernel
theorem dX2_doClosed_81 : decode cX2_doClosed 81 = .ok (.ifCond .eq 11, 3) := by decide +kernel
theorem dX2_doClosed_84 : decode cX2_doClosed 84 = .ok (.aload_n 0, 1) := by decide +kernel
theorem dX2_doClosed_85 : decode cX2_doClosed 85 = .ok (.iconst 5, 1) := by decide +kernel
theorem dX2_doClosed_86 : decode cX2_doClosed 86 = .ok (.iload 4, 2) := by decide +kernel
theorem dX2_doClosed_88 : decode cX2_doClosed 88 = .ok (.invokevirtual 134, 3) := by decide +kernel
theorem dX2_doClosed_91 : decode cX2_doClosed 91 = .ok (.ireturn, 1) := by decide +kernel
theorem dX2_doClosed_92 : decode cX2_doClosed 92 = .ok (.lload_n 1, 1) := by decide +kernel
theorem dX2_doClosed_93 : decode cX2_doClosed 93 = .ok (.lload 5, 2) := by decide +kernel
theorem dX2_doClosed_95 : decode cX2_doClosed 95 = .ok (.ldc2_w 113, 3) := by decide +kernel
theorem dX2_doClosed_98 : decode cX2_doClosed 98 = .ok (.lxor, 1) := by decide +kernel
theorem dX2_doClosed_99 : decode cX2_doClosed 99 = .ok (.land, 1) := by decide +kernel
theorem dX2_doClosed_100 : decode cX2_doClosed 100 = .ok (.lstore_n 1, 1) := by decide +kernel
theorem dX2_doClosed_101 : decode cX2_doClosed 101 = .ok (.iinc 3 1, 3) := by decide +kernel
theorem dX2_doClosed_104 : decode cX2_doClosed 104 = .ok (.goto (-97), 3) := by decide +kernel
theorem dX2_doClosed_107 : decode cX2_doClosed 107 = .ok (.iconst 0, 1) := by decide +kernel
theorem dX2_doClosed_108 : decode cX2_doClosed 108 = .ok (.ireturn, 1) := by decide +kernel
set_option maxRecDepth 20000 in
theorem ggX2_doEarly_X0_has : GoodIn wsX2_doEarly wsX0_has := goodIn_r _ [13, 14, 15, 16, 17, 12, 18, 19, 20, 21, 22, 23, 24, 25, 111, 112, 113] (by decide +kernel) (by decide +kernel)
set_option maxRecDepth 20000 in
theorem gX2_doEarly_X0_has : GoodIn wsX2_doEarly (wsV RX2 166 RX0 yX0_has wsX0_has) := goodIn_app (goodIn_of _ (by decide +kernel)) ggX2_doEarly_X0_has
set_option maxRecDepth 20000 in
theorem ggX2_doEarly_X2_closesEarly : GoodIn wsX2_doEarly wsX2_closesEarly := goodIn_r _ [30, 31, 32, 6, 33, 20, 21, 22, 23, 24, 25, 34, 35, 36, 12, 37, 38, 39, 40, 41, 15, 14, 42, 43, 44, 45, 46, 47, 48, 49, 17, 18, 50, 51, 52, 53, 54, 55, 29, 56, 57, 58, 101, 102, 103, 104, 105, 106, 107, 108, 109, 110, 121, 122, 123, 124, 125, 126, 127, 128, 111, 112, 113, 114, 115, 116, 117, 118, 119, 120] (by decide +kernel) (by decide +kernel)
set_option maxRecDepth 20000 in
theorem gX2_doEarly_X2_closesEarly : GoodIn wsX2_doEarly (wsV RX2 170 RX2 yX2_closesEarly wsX2_closesEarly) := goodIn_app (goodIn_of _ (by decide +kernel)) ggX2_doEarly_X2_closesEarly
set_option maxRecDepth 20000 in
theorem ggX2_doEarly_X2_setOneEdge : GoodIn wsX2_doEarly wsX2_setOneEdge := goodIn_r _ [62, 63, 64, 65, 66, 67, 68, 69, 70, 71, 72, 73, 74, 75, 76, 77, 78, 79, 29, 80, 31, 81, 82, 83, 84, 85, 86, 87, 88, 89, 90, 12, 91, 14, 15, 16, 17, 18, 19, 20, 21, 22, 23, 24, 25, 92, 93, 94, 95, 96, 97, 98, 99, 100, 101, 102, 103, 104, 105, 106, 107, 108, 109, 110, 129, 130, 131, 132, 133, 121, 122, 123, 124, 125, 126, 127, 128, 111, 112, 113] (by decide +kernel) (by decide +kernel)
set_option maxRecDepth 20000 in
theorem gX2_doEarly_X2_setOneEdge : GoodIn wsX2_doEarly (wsV RX2 173 RX2 yX2_setOneEdge wsX2_setOneEdge) := goodIn_app (goodIn_of _ (by decide +kernel)) ggX2_doEarly_X2_setOneEdge
theorem dX2_doEarly_0 : decode cX2_doEarly 0 = .ok (.aload_n 0, 1) := by decide +kernel
theorem dX2_doEarly_1 : decode cX2_doEarly 1 = .ok (.getfield 41, 3) := by decide +kernel
theorem dX2_doEarly_4 : decode cX2_doEarly 4 = .ok (.aload_n 0, 1) := by decide +kernel
theorem dX2_doEarly_5 : decode cX2_doEarly 5 = .ok (.getfield 34, 3) := by decide +kernel
theorem dX2_doEarly_8 : decode cX2_doEarly 8 = .ok (.getfield 157, 3) := by decide +kernel
theorem dX2_doEarly_11 : decode cX2_doEarly 11 = .ok (.aload_n 0, 1) := by decide +kernel
theorem dX2_doEarly_12 : decode cX2_doEarly 12 = .ok (.getfield 115, 3) := by decide +kernel
theorem dX2_doEarly_15 : decode cX2_doEarly 15 = .ok (.land, 1) := by decide +kernel
theorem dX2_doEarly_16 : decode cX2_doEarly 16 = .ok (.aload_n 0, 1) := by decide +kernel
theorem dX2_doEarly_17 : decode cX2_doEarly 17 = .ok (.getfield 115, 3) := by decide +kernel
theorem dX2_doEarly_20 : decode cX2_doEarly 20 = .ok (.iconst 1, 1) := by decide +kernel
theorem dX2_doEarly_21 : decode cX2_doEarly 21 = .ok (.lushr, 1) := by decide +kernel
theorem dX2_doEarly_22 : decode cX2_doEarly 22 = .ok (.land, 1) := by decide +kernel
theorem dX2_doEarly_23 : decode cX2_doEarly 23 = .ok (.putfield 157, 3) := by decide +kernel
theorem dX2_doEarly_26 : decode cX2_doEarly 26 = .ok (.aload_n 0, 1) := by decide +kernel
theorem dX2_doEarly_27 : decode cX2_doEarly 27 = .ok (.getfield 41, 3) := by decide +kernel
theorem dX2_doEarly_30 : decode cX2_doEarly 30 = .ok (.aload_n 0, 1) := by decide +kernel
theorem dX2_doEarly_31 : decode cX2_doEarly 31 = .ok (.getfield 34, 3) := by decide +kernel
theorem dX2_doEarly_34 : decode cX2_doEarly 34 = .ok (.getfield 160, 3) := by decide +kernel
theorem dX2_doEarly_37 : decode cX2_doEarly 37 = .ok (.aload_n 0, 1) := by decide +kernel
theorem dX2_doEarly_38 : decode cX2_doEarly 38 = .ok (.getfield 115, 3) := by decide +kernel
theorem dX2_doEarly_41 : decode cX2_doEarly 41 = .ok (.land, 1) := by decide +kernel
theorem dX2_doEarly_42 : decode cX2_doEarly 42 = .ok (.aload_n 0, 1) := by decide +kernel
theorem dX2_doEarly_43 : decode cX2_doEarly 43 = .ok (.getfield 115, 3) := by decide +kernel
theorem dX2_doEarly_46 : decode cX2_doEarly 46 = .ok (.aload_n 0, 1) := by decide +kernel
theorem dX2_doEarly_47 : decode cX2_doEarly 47 = .ok (.getfield 9, 3) := by decide +kernel
theorem dX2_doEarly_50 : decode cX2_doEarly 50 = .ok (.getfield 25, 3) := by decide +kernel
theorem dX2_doEarly_53 : decode cX2_doEarly 53 = .ok (.lushr, 1) := by decide +kernel
theorem dX2_doEarly_54 : decode cX2_doEarly 54 = .ok (.land, 1) := by decide +kernel
theorem dX2_doEarly_55 : decode cX2_doEarly 55 = .ok (.putfield 160, 3) := by decide +kernel
theorem dX2_doEarly_58 : decode cX2_doEarly 58 = .ok (.iconst 0, 1) := by decide +kernel
theorem dX2_doEarly_59 : decode cX2_doEarly 59 = .ok (.istore_n 1, 1) := by decide +kernel
theorem dX2_doEarly_60 : decode cX2_doEarly 60 = .ok (.iload_n 1, 1) := by decide +kernel
theorem dX2_doEarly_61 : decode cX2_doEarly 61 = .ok (.aload_n 0, 1) := by decide +kernel
theorem dX2_doEarly_62 : decode cX2_doEarly 62 = .ok (.getfield 9, 3) := by decide +kernel
theorem dX2_doEarly_65 : decode cX2_doEarly 65 = .ok (.getfield 163, 3) := by decide +kernel
theorem dX2_doEarly_68 : decode cX2_doEarly 68 = .ok (.if_icmp .ge 38, 3) := by decide +kernel
theorem dX2_doEarly_71 : decode cX2_doEarly 71 = .ok (.aload_n 0, 1) := by decide +kernel
theorem dX2_doEarly_72 : decode cX2_doEarly 72 = .ok (.getfield 41, 3) := by decide +kernel
theorem dX2_doEarly_75 : decode cX2_doEarly 75 = .ok (.iload_n 1, 1) := by decide +kernel
theorem dX2_doEarly_76 : decode cX2_doEarly 76 = .ok (.invokevirtual 166, 3) := by decide +kernel
theorem dX2_doEarly_79 : decode cX2_doEarly 79 = .ok (.ifCond .eq 21, 3) := by decide +kernel
theorem dX2_doEarly_82 : decode cX2_doEarly 82 = .ok (.aload_n 0, 1) := by decide +kernel
theorem dX2_doEarly_83 : decode cX2_doEarly 83 = .ok (.iload_n 1, 1) := by decide +kernel
theorem dX2_doEarly_84 : decode cX2_doEarly 84 = .ok (.invokevirtual 170, 3) := by decide +kernel
theorem dX2_doEarly_87 : decode cX2_doEarly 87 = .ok (.ifCond .eq 13, 3) := by decide +kernel
theorem dX2_doEarly_90 : decode cX2_doEarly 90 = .ok (.aload_n 0, 1) := by decide +kernel
theorem dX2_doEarly_91 : decode cX2_doEarly 91 = .ok (.bipush 6, 2) := by decide +kernel
theorem dX2_doEarly_93 : decode cX2_doEarly 93 = .ok (.iload_n 1, 1) := by decide +kernel
theorem dX2_doEarly_94 : decode cX2_doEarly 94 = .ok (.iload_n 1, 1) := by decide +kernel
theorem dX2_doEarly_95 : decode cX2_doEarly 95 = .ok (.iconst 0, 1) := by decide +kernel
theorem dX2_doEarly_96 : decode cX2_doEarly 96 = .ok (.invokevirtual 173, 3) := by decide +kernel
theorem dX2_doEarly_99 : decode cX2_doEarly 99 = .ok (.ireturn, 1) := by decide +kernel
theorem dX2_doEarly_100 : decode cX2_doEarly 100 = .ok (.iinc 1 1, 3) := by decide +kernel
theorem dX2_doEarly_103 : decode cX2_doEarly 103 = .ok (.goto (-43), 3) := by decide +kernel
theorem dX2_doEarly_106 : decode cX2_doEarly 106 = .ok (.iconst 0, 1) := by decide +kernel
theorem dX2_doEarly_107 : decode cX2_doEarly 107 = .ok (.ireturn, 1) := by decide +kernel
set_option maxRecDepth 20000 in
theorem ggX2_closesEarly_X1_lesserEnd : GoodIn wsX2_closesEarly wsX1_lesserEnd := goodIn_r _ [7] (by decide +kernel) (by decide +kernel)
set_option maxRecDepth 20000 in
theorem gX2_closesEarly_X1_lesserEnd : GoodIn wsX2_closesEarly (va_wsS RX2 177 yX1_lesserEnd wsX1_lesserEnd) := goodIn_app (goodIn_of _ (by decide +kernel)) ggX2_closesEarly_X1_lesserEnd
set_option maxRecDepth 20000 in
theorem ggX2_closesEarly_X5_only : GoodIn wsX2_closesEarly wsX5_only := goodIn_r _ [10] (by decide +kernel) (by decide +kernel)
set_option maxRecDepth 20000 in
theorem gX2_closesEarly_X5_only_n145 : GoodIn wsX2_closesEarly (wsX5_only) := ggX2_closesEarly_X5_only
set_option maxRecDepth 20000 in
theorem ggX2_closesEarly_X0_reach : GoodIn wsX2_closesEarly wsX0_reach := goodIn_r _ [15, 16, 17, 18, 14, 19, 20, 21, 22, 60, 61, 62] (by decide +kernel) (by decide +kernel)
set_option maxRecDepth 20000 in
theorem gX2_closesEarly_X0_reach : GoodIn wsX2_closesEarly (wsV RX2 149 RX0 yX0_reach wsX0_reach) := goodIn_app (goodIn_of _ (by decide +kernel)) ggX2_closesEarly_X0_reach
set_option maxRecDepth 20000 in
theorem ggX2_closesEarly_X1_greaterEnd : GoodIn wsX2_closesEarly wsX1_greaterEnd := goodIn_r _ [26, 27, 28, 5, 6, 7, 29, 30, 14, 31, 63, 64, 65, 66, 67, 68, 69] (by decide +kernel) (by decide +kernel)
set_option maxRecDepth 20000 in
theorem gX2_closesEarly_X1_greaterEnd : GoodIn wsX2_closesEarly (wsV RX2 181 RX1 yX1_greaterEnd wsX1_greaterEnd) := goodIn_app (goodIn_of _ (by decide +kernel)) ggX2_closesEarly_X1_greaterEnd
set_option maxRecDepth 20000 in
theorem ggX2_closesEarly_X5_holds : GoodIn wsX2_closesEarly wsX5_holds := goodIn_r _ [33, 34, 8, 9, 10] (by decide +kernel) (by decide +kernel)
set_option maxRecDepth 20000 in
theorem gX2_closesEarly_X5_holds_n184 : GoodIn wsX2_closesEarly (wsX5_holds) := ggX2_closesEarly_X5_holds
set_option maxRecDepth 20000 in
theorem ggX2_closesEarly_X2_leavesOut : GoodIn wsX2_closesEarly wsX2_leavesOut := goodIn_r _ [39, 40, 41, 42, 43, 44, 45, 46, 47, 48, 49, 50, 51] (by decide +kernel) (by decide +kernel)
set_option maxRecDepth 20000 in
theorem gX2_closesEarly_X2_leavesOut : GoodIn wsX2_closesEarly (wsV RX2 153 RX2 yX2_leavesOut wsX2_leavesOut) := goodIn_app (goodIn_of _ (by decide +kernel)) ggX2_closesEarly_X2_leavesOut
theorem dX2_closesEarly_0 : decode cX2_closesEarly 0 = .ok (.aload_n 0, 1) := by decide +kernel
theorem dX2_closesEarly_1 : decode cX2_closesEarly 1 = .ok (.getfield 15, 3) := by decide +kernel
theorem dX2_closesEarly_4 : decode cX2_closesEarly 4 = .ok (.getfield 96, 3) := by decide +kernel
theorem dX2_closesEarly_7 : decode cX2_closesEarly 7 = .ok (.iload_n 1, 1) := by decide +kernel
theorem dX2_closesEarly_8 : decode cX2_closesEarly 8 = .ok (.invokestatic 177, 3) := by decide +kernel
theorem dX2_closesEarly_11 : decode cX2_closesEarly 11 = .ok (.invokestatic 145, 3) := by decide +kernel
theorem dX2_closesEarly_14 : decode cX2_closesEarly 14 = .ok (.invokevirtual 149, 3) := by decide +kernel
theorem dX2_closesEarly_17 : decode cX2_closesEarly 17 = .ok (.lstore_n 2, 1) := by decide +kernel
theorem dX2_closesEarly_18 : decode cX2_closesEarly 18 = .ok (.lload_n 2, 1) := by decide +kernel
theorem dX2_closesEarly_19 : decode cX2_closesEarly 19 = .ok (.aload_n 0, 1) := by decide +kernel
theorem dX2_closesEarly_20 : decode cX2_closesEarly 20 = .ok (.getfield 9, 3) := by decide +kernel
theorem dX2_closesEarly_23 : decode cX2_closesEarly 23 = .ok (.iload_n 1, 1) := by decide +kernel
theorem dX2_closesEarly_24 : decode cX2_closesEarly 24 = .ok (.invokevirtual 181, 3) := by decide +kernel
theorem dX2_closesEarly_27 : decode cX2_closesEarly 27 = .ok (.invokestatic 184, 3) := by decide +kernel
theorem dX2_closesEarly_30 : decode cX2_closesEarly 30 = .ok (.ifCond .eq 15, 3) := by decide +kernel
theorem dX2_closesEarly_33 : decode cX2_closesEarly 33 = .ok (.aload_n 0, 1) := by decide +kernel
theorem dX2_closesEarly_34 : decode cX2_closesEarly 34 = .ok (.lload_n 2, 1) := by decide +kernel
theorem dX2_closesEarly_35 : decode cX2_closesEarly 35 = .ok (.invokevirtual 153, 3) := by decide +kernel
theorem dX2_closesEarly_38 : decode cX2_closesEarly 38 = .ok (.ifCond .eq 7, 3) := by decide +kernel
theorem dX2_closesEarly_41 : decode cX2_closesEarly 41 = .ok (.iconst 1, 1) := by decide +kernel
theorem dX2_closesEarly_42 : decode cX2_closesEarly 42 = .ok (.goto 4, 3) := by decide +kernel
theorem dX2_closesEarly_45 : decode cX2_closesEarly 45 = .ok (.iconst 0, 1) := by decide +kernel
theorem dX2_closesEarly_46 : decode cX2_closesEarly 46 = .ok (.ireturn, 1) := by decide +kernel
theorem dX2_leavesOut_0 : decode cX2_leavesOut 0 = .ok (.aload_n 0, 1) := by decide +kernel
theorem dX2_leavesOut_1 : decode cX2_leavesOut 1 = .ok (.getfield 121, 3) := by decide +kernel
theorem dX2_leavesOut_4 : decode cX2_leavesOut 4 = .ok (.lload_n 1, 1) := by decide +kernel
theorem dX2_leavesOut_5 : decode cX2_leavesOut 5 = .ok (.ldc2_w 113, 3) := by decide +kernel
theorem dX2_leavesOut_8 : decode cX2_leavesOut 8 = .ok (.lxor, 1) := by decide +kernel
theorem dX2_leavesOut_9 : decode cX2_leavesOut 9 = .ok (.land, 1) := by decide +kernel
theorem dX2_leavesOut_10 : decode cX2_leavesOut 10 = .ok (.lconst 0, 1) := by decide +kernel
theorem dX2_leavesOut_11 : decode cX2_leavesOut 11 = .ok (.lcmp, 1) := by decide +kernel
theorem dX2_leavesOut_12 : decode cX2_leavesOut 12 = .ok (.ifCond .eq 7, 3) := by decide +kernel
theorem dX2_leavesOut_15 : decode cX2_leavesOut 15 = .ok (.iconst 1, 1) := by decide +kernel
theorem dX2_leavesOut_16 : decode cX2_leavesOut 16 = .ok (.goto 4, 3) := by decide +kernel
theorem dX2_leavesOut_19 : decode cX2_leavesOut 19 = .ok (.iconst 0, 1) := by decide +kernel
theorem dX2_leavesOut_20 : decode cX2_leavesOut 20 = .ok (.ireturn, 1) := by decide +kernel
set_option maxRecDepth 20000 in
theorem ggX2_doBorder_X1_borderCount : GoodIn wsX2_doBorder wsX1_borderCount := goodIn_r _ [12, 13, 14, 103, 104, 105, 106, 107, 108, 109] (by decide +kernel) (by decide +kernel)
set_option maxRecDepth 20000 in
theorem gX2_doBorder_X1_borderCount : GoodIn wsX2_doBorder (wsV RX2 188 RX1 yX1_borderCount wsX1_borderCount) := goodIn_app (goodIn_of _ (by decide +kernel)) ggX2_doBorder_X1_borderCount
set_option maxRecDepth 20000 in
theorem ggX2_doBorder_X1_column : GoodIn wsX2_doBorder wsX1_column := goodIn_r _ [18, 14, 13, 19, 20, 21, 103, 104, 105, 106, 107, 108, 109] (by decide +kernel) (by decide +kernel)
set_option maxRecDepth 20000 in
theorem gX2_doBorder_X1_column : GoodIn wsX2_doBorder (wsV RX2 192 RX1 yX1_column wsX1_column) := goodIn_app (goodIn_of _ (by decide +kernel)) ggX2_doBorder_X1_column
set_option maxRecDepth 20000 in
theorem ggX2_doBorder_X1_row : GoodIn wsX2_doBorder wsX1_row := goodIn_r _ [25, 13, 19, 20, 21, 103, 104, 105, 106, 107, 108, 109] (by decide +kernel) (by decide +kernel)
set_option maxRecDepth 20000 in
theorem gX2_doBorder_X1_row : GoodIn wsX2_doBorder (wsV RX2 195 RX1 yX1_row wsX1_row) := goodIn_app (goodIn_of _ (by decide +kernel)) ggX2_doBorder_X1_row
set_option maxRecDepth 20000 in
theorem ggX2_doBorder_J13_bitCount_95d88 : GoodIn wsX2_doBorder wsJ13_bitCount_95d88 := goodIn_r _ [29, 30, 31, 32] (by decide +kernel) (by decide +kernel)
set_option maxRecDepth 20000 in
theorem gX2_doBorder_J13_bitCount_95d88 : GoodIn wsX2_doBorder (va_wsS RX2 198 yJ13_bitCount_95d88 wsJ13_bitCount_95d88) := goodIn_app (goodIn_of _ (by decide +kernel)) ggX2_doBorder_J13_bitCount_95d88
set_option maxRecDepth 20000 in
theorem ggX2_doBorder_X2_wrongAt : GoodIn wsX2_doBorder wsX2_wrongAt := goodIn_r _ [37, 38, 3, 39, 40, 41, 42, 43, 44, 45, 46, 47, 48, 49, 50, 51, 52, 93, 94, 95, 96, 97, 98, 99, 100, 101, 102, 110, 111, 112, 113, 114, 115, 116, 117, 121, 122, 123, 124, 125] (by decide +kernel) (by decide +kernel)
set_option maxRecDepth 20000 in
theorem gX2_doBorder_X2_wrongAt : GoodIn wsX2_doBorder (wsV RX2 134 RX2 yX2_wrongAt wsX2_wrongAt) := goodIn_app (goodIn_of _ (by decide +kernel)) ggX2_doBorder_X2_wrongAt
set_option maxRecDepth 20000 in
theorem ggX2_doBorder_X5_least : GoodIn wsX2_doBorder wsX5_least := goodIn_r _ [54, 55, 27, 28, 29, 30, 31, 32] (by decide +kernel) (by decide +kernel)
set_option maxRecDepth 20000 in
theorem gX2_doBorder_X5_least_n130 : GoodIn wsX2_doBorder (wsX5_least) := ggX2_doBorder_X5_least
set_option maxRecDepth 20000 in
theorem ggX2_doBorder_X2_setOneEdge : GoodIn wsX2_doBorder wsX2_setOneEdge := goodIn_r _ [59, 38, 40, 41, 42, 43, 44, 45, 46, 47, 48, 49, 50, 51, 52, 60, 61, 62, 36, 63, 3, 64, 65, 66, 67, 68, 69, 70, 71, 72, 73, 74, 75, 76, 77, 78, 79, 80, 81, 82, 11, 83, 19, 20, 21, 84, 85, 86, 87, 88, 89, 90, 91, 92, 93, 94, 95, 96, 97, 98, 99, 100, 101, 102, 121, 122, 123, 124, 125, 110, 111, 112, 113, 114, 115, 116, 117, 118, 119, 120] (by decide +kernel) (by decide +kernel)
set_option maxRecDepth 20000 in
theorem gX2_doBorder_X2_setOneEdge : GoodIn wsX2_doBorder (wsV RX2 173 RX2 yX2_setOneEdge wsX2_setOneEdge) := goodIn_app (goodIn_of _ (by decide +kernel)) ggX2_doBorder_X2_setOneEdge
theorem dX2_doBorder_0 : decode cX2_doBorder 0 = .ok (.aload_n 0, 1) := by decide +kernel
theorem dX2_doBorder_1 : decode cX2_doBorder 1 = .ok (.getfield 9, 3) := by decide +kernel
theorem dX2_doBorder_4 : decode cX2_doBorder 4 = .ok (.invokevirtual 188, 3) := by decide +kernel
theorem dX2_doBorder_7 : decode cX2_doBorder 7 = .ok (.istore_n 1, 1) := by decide +kernel
theorem dX2_doBorder_8 : decode cX2_doBorder 8 = .ok (.iconst 0, 1) := by decide +kernel
theorem dX2_doBorder_9 : decode cX2_doBorder 9 = .ok (.istore_n 2, 1) := by decide +kernel
theorem dX2_doBorder_10 : decode cX2_doBorder 10 = .ok (.iload_n 2, 1) := by decide +kernel
theorem dX2_doBorder_11 : decode cX2_doBorder 11 = .ok (.iload_n 1, 1) := by decide +kernel
theorem dX2_doBorder_12 : decode cX2_doBorder 12 = .ok (.if_icmp .ge 198, 3) := by decide +kernel
theorem dX2_doBorder_15 : decode cX2_doBorder 15 = .ok (.iload_n 2, 1) := by decide +kernel
theorem dX2_doBorder_16 : decode cX2_doBorder 16 = .ok (.aload_n 0, 1) := by decide +kernel
theorem dX2_doBorder_17 : decode cX2_doBorder 17 = .ok (.getfield 9, 3) := by decide +kernel
theorem dX2_doBorder_20 : decode cX2_doBorder 20 = .ok (.getfield 25, 3) := by decide +kernel
theorem dX2_doBorder_23 : decode cX2_doBorder 23 = .ok (.iconst 1, 1) := by decide +kernel
theorem dX2_doBorder_24 : decode cX2_doBorder 24 = .ok (.isub, 1) := by decide +kernel
theorem dX2_doBorder_25 : decode cX2_doBorder 25 = .ok (.if_icmp .ge 7, 3) := by decide +kernel
theorem dX2_doBorder_28 : decode cX2_doBorder 28 = .ok (.iconst 1, 1) := by decide +kernel
theorem dX2_doBorder_29 : decode cX2_doBorder 29 = .ok (.goto 4, 3) := by decide +kernel
theorem dX2_doBorder_32 : decode cX2_doBorder 32 = .ok (.iconst 0, 1) := by decide +kernel
theorem dX2_doBorder_33 : decode cX2_doBorder 33 = .ok (.istore_n 3, 1) := by decide +kernel
theorem dX2_doBorder_34 : decode cX2_doBorder 34 = .ok (.iload_n 3, 1) := by decide +kernel
theorem dX2_doBorder_35 : decode cX2_doBorder 35 = .ok (.ifCond .eq 14, 3) := by decide +kernel
theorem dX2_doBorder_38 : decode cX2_doBorder 38 = .ok (.aload_n 0, 1) := by decide +kernel
theorem dX2_doBorder_39 : decode cX2_doBorder 39 = .ok (.getfield 9, 3) := by decide +kernel
theorem dX2_doBorder_42 : decode cX2_doBorder 42 = .ok (.iload_n 2, 1) := by decide +kernel
theorem dX2_doBorder_43 : decode cX2_doBorder 43 = .ok (.invokevirtual 192, 3) := by decide +kernel
theorem dX2_doBorder_46 : decode cX2_doBorder 46 = .ok (.goto 21, 3) := by decide +kernel
theorem dX2_doBorder_49 : decode cX2_doBorder 49 = .ok (.aload_n 0, 1) := by decide +kernel
theorem dX2_doBorder_50 : decode cX2_doBorder 50 = .ok (.getfield 9, 3) := by decide +kernel
theorem dX2_doBorder_53 : decode cX2_doBorder 53 = .ok (.iload_n 2, 1) := by decide +kernel
theorem dX2_doBorder_54 : decode cX2_doBorder 54 = .ok (.aload_n 0, 1) := by decide +kernel
theorem dX2_doBorder_55 : decode cX2_doBorder 55 = .ok (.getfield 9, 3) := by decide +kernel
theorem dX2_doBorder_58 : decode cX2_doBorder 58 = .ok (.getfield 25, 3) := by decide +kernel
theorem dX2_doBorder_61 : decode cX2_doBorder 61 = .ok (.isub, 1) := by decide +kernel
theorem dX2_doBorder_62 : decode cX2_doBorder 62 = .ok (.iconst 1, 1) := by decide +kernel
theorem dX2_doBorder_63 : decode cX2_doBorder 63 = .ok (.iadd, 1) := by decide +kernel
theorem dX2_doBorder_64 : decode cX2_doBorder 64 = .ok (.invokevirtual 195, 3) := by decide +kernel
theorem dX2_doBorder_67 : decode cX2_doBorder 67 = .ok (.lstore 4, 2) := by decide +kernel
theorem dX2_doBorder_69 : decode cX2_doBorder 69 = .ok (.lload 4, 2) := by decide +kernel
theorem dX2_doBorder_71 : decode cX2_doBorder 71 = .ok (.iload_n 3, 1) := by decide +kernel
theorem dX2_doBorder_72 : decode cX2_doBorder 72 = .ok (.ifCond .eq 16, 3) := by decide +kernel
theorem dX2_doBorder_75 : decode cX2_doBorder 75 = .ok (.aload_n 0, 1) := by decide +kernel
theorem dX2_doBorder_76 : decode cX2_doBorder 76 = .ok (.getfield 15, 3) := by decide +kernel
theorem dX2_doBorder_79 : decode cX2_doBorder 79 = .ok (.getfield 96, 3) := by decide +kernel
theorem dX2_doBorder_82 : decode cX2_doBorder 82 = .ok (.getfield 157, 3) := by decide +kernel
theorem dX2_doBorder_85 : decode cX2_doBorder 85 = .ok (.goto 13, 3) := by decide +kernel
theorem dX2_doBorder_88 : decode cX2_doBorder 88 = .ok (.aload_n 0, 1) := by decide +kernel
theorem dX2_doBorder_89 : decode cX2_doBorder 89 = .ok (.getfield 15, 3) := by decide +kernel
theorem dX2_doBorder_92 : decode cX2_doBorder 92 = .ok (.getfield 96, 3) := by decide +kernel
theorem dX2_doBorder_95 : decode cX2_doBorder 95 = .ok (.getfield 160, 3) := by decide +kernel
theorem dX2_doBorder_98 : decode cX2_doBorder 98 = .ok (.land, 1) := by decide +kernel
theorem dX2_doBorder_99 : decode cX2_doBorder 99 = .ok (.lstore 6, 2) := by decide +kernel
theorem dX2_doBorder_101 : decode cX2_doBorder 101 = .ok (.lload 4, 2) := by decide +kernel
theorem dX2_doBorder_103 : decode cX2_doBorder 103 = .ok (.iload_n 3, 1) := by decide +kernel
theorem dX2_doBorder_104 : decode cX2_doBorder 104 = .ok (.ifCond .eq 13, 3) := by decide +kernel
theorem dX2_doBorder_107 : decode cX2_doBorder 107 = .ok (.aload_n 0, 1) := by decide +kernel
theorem dX2_doBorder_108 : decode cX2_doBorder 108 = .ok (.getfield 34, 3) := by decide +kernel
theorem dX2_doBorder_111 : decode cX2_doBorder 111 = .ok (.getfield 157, 3) := by decide +kernel
theorem dX2_doBorder_114 : decode cX2_doBorder 114 = .ok (.goto 10, 3) := by decide +kernel
theorem dX2_doBorder_117 : decode cX2_doBorder 117 = .ok (.aload_n 0, 1) := by decide +kernel
theorem dX2_doBorder_118 : decode cX2_doBorder 118 = .ok (.getfield 34, 3) := by decide +kernel
theorem dX2_doBorder_121 : decode cX2_doBorder 121 = .ok (.getfield 160, 3) := by decide +kernel
theorem dX2_doBorder_124 : decode cX2_doBorder 124 = .ok (.land, 1) := by decide +kernel
theorem dX2_doBorder_125 : decode cX2_doBorder 125 = .ok (.lstore 8, 2) := by decide +kernel
theorem dX2_doBorder_127 : decode cX2_doBorder 127 = .ok (.lload 6, 2) := by decide +kernel
theorem dX2_doBorder_129 : decode cX2_doBorder 129 = .ok (.invokestatic 198, 3) := by decide +kernel
theorem dX2_doBorder_132 : decode cX2_doBorder 132 = .ok (.iconst 1, 1) := by decide +kernel
theorem dX2_doBorder_133 : decode cX2_doBorder 133 = .ok (.iand, 1) := by decide +kernel
theorem dX2_doBorder_134 : decode cX2_doBorder 134 = .ok (.ifCond .eq 7, 3) := by decide +kernel
theorem dX2_doBorder_137 : decode cX2_doBorder 137 = .ok (.iconst 1, 1) := by decide +kernel
theorem dX2_doBorder_138 : decode cX2_doBorder 138 = .ok (.goto 4, 3) := by decide +kernel
theorem dX2_doBorder_141 : decode cX2_doBorder 141 = .ok (.iconst 0, 1) := by decide +kernel
theorem dX2_doBorder_142 : decode cX2_doBorder 142 = .ok (.istore 10, 2) := by decide +kernel
theorem dX2_doBorder_144 : decode cX2_doBorder 144 = .ok (.lload 8, 2) := by decide +kernel
theorem dX2_doBorder_146 : decode cX2_doBorder 146 = .ok (.lconst 0, 1) := by decide +kernel
theorem dX2_doBorder_147 : decode cX2_doBorder 147 = .ok (.lcmp, 1) := by decide +kernel
theorem dX2_doBorder_148 : decode cX2_doBorder 148 = .ok (.ifCond .ne 16, 3) := by decide +kernel
theorem dX2_doBorder_151 : decode cX2_doBorder 151 = .ok (.iload 10, 2) := by decide +kernel
theorem dX2_doBorder_153 : decode cX2_doBorder 153 = .ok (.ifCond .eq 11, 3) := by decide +kernel
theorem dX2_doBorder_156 : decode cX2_doBorder 156 = .ok (.aload_n 0, 1) := by decide +kernel
theorem dX2_doBorder_157 : decode cX2_doBorder 157 = .ok (.bipush 7, 2) := by decide +kernel
theorem dX2_doBorder_159 : decode cX2_doBorder 159 = .ok (.iload_n 2, 1) := by decide +kernel
theorem dX2_doBorder_160 : decode cX2_doBorder 160 = .ok (.invokevirtual 134, 3) := by decide +kernel
theorem dX2_doBorder_163 : decode cX2_doBorder 163 = .ok (.ireturn, 1) := by decide +kernel
theorem dX2_doBorder_164 : decode cX2_doBorder 164 = .ok (.lload 8, 2) := by decide +kernel
theorem dX2_doBorder_166 : decode cX2_doBorder 166 = .ok (.invokestatic 198, 3) := by decide +kernel
theorem dX2_doBorder_169 : decode cX2_doBorder 169 = .ok (.iconst 1, 1) := by decide +kernel
theorem dX2_doBorder_170 : decode cX2_doBorder 170 = .ok (.if_icmp .ne 34, 3) := by decide +kernel
theorem dX2_doBorder_173 : decode cX2_doBorder 173 = .ok (.iconst 2, 1) := by decide +kernel
theorem dX2_doBorder_174 : decode cX2_doBorder 174 = .ok (.lload 8, 2) := by decide +kernel
theorem dX2_doBorder_176 : decode cX2_doBorder 176 = .ok (.invokestatic 130, 3) := by decide +kernel
theorem dX2_doBorder_179 : decode cX2_doBorder 179 = .ok (.imul, 1) := by decide +kernel
theorem dX2_doBorder_180 : decode cX2_doBorder 180 = .ok (.iload_n 3, 1) := by decide +kernel
theorem dX2_doBorder_181 : decode cX2_doBorder 181 = .ok (.ifCond .eq 7, 3) := by decide +kernel
theorem dX2_doBorder_184 : decode cX2_doBorder 184 = .ok (.iconst 0, 1) := by decide +kernel
theorem dX2_doBorder_185 : decode cX2_doBorder 185 = .ok (.goto 4, 3) := by decide +kernel
theorem dX2_doBorder_188 : decode cX2_doBorder 188 = .ok (.iconst 1, 1) := by decide +kernel
theorem dX2_doBorder_189 : decode cX2_doBorder 189 = .ok (.iadd, 1) := by decide +kernel
theorem dX2_doBorder_190 : decode cX2_doBorder 190 = .ok (.istore 11, 2) := by decide +kernel
theorem dX2_doBorder_192 : decode cX2_doBorder 192 = .ok (.aload_n 0, 1) := by decide +kernel
theorem dX2_doBorder_193 : decode cX2_doBorder 193 = .ok (.bipush 7, 2) := by decide +kernel
theorem dX2_doBorder_195 : decode cX2_doBorder 195 = .ok (.iload_n 2, 1) := by decide +kernel
theorem dX2_doBorder_196 : decode cX2_doBorder 196 = .ok (.iload 11, 2) := by decide +kernel
theorem dX2_doBorder_198 : decode cX2_doBorder 198 = .ok (.iload 10, 2) := by decide +kernel
theorem dX2_doBorder_200 : decode cX2_doBorder 200 = .ok (.invokevirtual 173, 3) := by decide +kernel
theorem dX2_doBorder_203 : decode cX2_doBorder 203 = .ok (.ireturn, 1) := by decide +kernel
theorem dX2_doBorder_204 : decode cX2_doBorder 204 = .ok (.iinc 2 1, 3) := by decide +kernel
theorem dX2_doBorder_207 : decode cX2_doBorder 207 = .ok (.goto (-197), 3) := by decide +kernel
theorem dX2_doBorder_210 : decode cX2_doBorder 210 = .ok (.iconst 0, 1) := by decide +kernel
theorem dX2_doBorder_211 : decode cX2_doBorder 211 = .ok (.ireturn, 1) := by decide +kernel
set_option maxRecDepth 20000 in
theorem ggX2_doBridge_X0_has : GoodIn wsX2_doBridge wsX0_has := goodIn_r _ [10, 11, 12, 13, 14, 9, 15, 16, 17, 18, 19, 20, 21, 22, 130, 131, 132] (by decide +kernel) (by decide +kernel)
set_option maxRecDepth 20000 in
theorem gX2_doBridge_X0_has : GoodIn wsX2_doBridge (wsV RX2 166 RX0 yX0_has wsX0_has) := goodIn_app (goodIn_of _ (by decide +kernel)) ggX2_doBridge_X0_has
set_option maxRecDepth 20000 in
theorem ggX2_doBridge_X2_isBridge : GoodIn wsX2_doBridge wsX2_isBridge := goodIn_r _ [27, 28, 3, 1, 29, 30, 31, 9, 32, 12, 11, 33, 34, 35, 36, 37, 13, 14, 15, 16, 17, 18, 19, 20, 21, 22, 38, 39, 40, 41, 42, 43, 44, 45, 46, 47, 48, 49, 50, 51, 52, 53, 54, 55, 56, 57, 105, 106, 107, 108, 109, 110, 111, 112, 113, 114, 130, 131, 132, 115, 116, 117, 118, 119, 120, 121] (by decide +kernel) (by decide +kernel)
set_option maxRecDepth 20000 in
theorem gX2_doBridge_X2_isBridge : GoodIn wsX2_doBridge (wsV RX2 203 RX2 yX2_isBridge wsX2_isBridge) := goodIn_app (goodIn_of _ (by decide +kernel)) ggX2_doBridge_X2_isBridge
set_option maxRecDepth 20000 in
theorem ggX2_doBridge_X2_wrongAt : GoodIn wsX2_doBridge wsX2_wrongAt := goodIn_r _ [61, 62, 4, 63, 64, 65, 66, 67, 68, 69, 70, 71, 72, 73, 74, 75, 76, 105, 106, 107, 108, 109, 110, 111, 112, 113, 114, 122, 123, 124, 125, 126, 127, 128, 129, 133, 134, 135, 136, 137] (by decide +kernel) (by decide +kernel)
set_option maxRecDepth 20000 in
theorem gX2_doBridge_X2_wrongAt : GoodIn wsX2_doBridge (wsV RX2 134 RX2 yX2_wrongAt wsX2_wrongAt) := goodIn_app (goodIn_of _ (by decide +kernel)) ggX2_doBridge_X2_wrongAt
set_option maxRecDepth 20000 in
theorem ggX2_doBridge_X2_setOneEdge : GoodIn wsX2_doBridge wsX2_setOneEdge := goodIn_r _ [80, 62, 64, 65, 66, 67, 68, 69, 70, 71, 72, 73, 74, 75, 76, 81, 82, 83, 26, 84, 4, 85, 86, 87, 88, 89, 90, 91, 92, 93, 94, 9, 95, 11, 12, 13, 14, 15, 16, 17, 18, 19, 20, 21, 22, 96, 97, 98, 99, 100, 101, 102, 103, 104, 105, 106, 107, 108, 109, 110, 111, 112, 113, 114, 133, 134, 135, 136, 137, 122, 123, 124, 125, 126, 127, 128, 129, 130, 131, 132] (by decide +kernel) (by decide +kernel)
set_option maxRecDepth 20000 in
theorem gX2_doBridge_X2_setOneEdge : GoodIn wsX2_doBridge (wsV RX2 173 RX2 yX2_setOneEdge wsX2_setOneEdge) := goodIn_app (goodIn_of _ (by decide +kernel)) ggX2_doBridge_X2_setOneEdge
theorem dX2_doBridge_0 : decode cX2_doBridge 0 = .ok (.iconst 0, 1) := by decide +kernel
theorem dX2_doBridge_1 : decode cX2_doBridge 1 = .ok (.istore_n 1, 1) := by decide +kernel
theorem dX2_doBridge_2 : decode cX2_doBridge 2 = .ok (.iload_n 1, 1) := by decide +kernel
theorem dX2_doBridge_3 : decode cX2_doBridge 3 = .ok (.aload_n 0, 1) := by decide +kernel
theorem dX2_doBridge_4 : decode cX2_doBridge 4 = .ok (.getfield 9, 3) := by decide +kernel
theorem dX2_doBridge_7 : decode cX2_doBridge 7 = .ok (.getfield 163, 3) := by decide +kernel
theorem dX2_doBridge_10 : decode cX2_doBridge 10 = .ok (.if_icmp .ge 62, 3) := by decide +kernel
theorem dX2_doBridge_13 : decode cX2_doBridge 13 = .ok (.aload_n 0, 1) := by decide +kernel
theorem dX2_doBridge_14 : decode cX2_doBridge 14 = .ok (.getfield 38, 3) := by decide +kernel
theorem dX2_doBridge_17 : decode cX2_doBridge 17 = .ok (.iload_n 1, 1) := by decide +kernel
theorem dX2_doBridge_18 : decode cX2_doBridge 18 = .ok (.invokevirtual 166, 3) := by decide +kernel
theorem dX2_doBridge_21 : decode cX2_doBridge 21 = .ok (.ifCond .eq 45, 3) := by decide +kernel
theorem dX2_doBridge_24 : decode cX2_doBridge 24 = .ok (.aload_n 0, 1) := by decide +kernel
theorem dX2_doBridge_25 : decode cX2_doBridge 25 = .ok (.iload_n 1, 1) := by decide +kernel
theorem dX2_doBridge_26 : decode cX2_doBridge 26 = .ok (.invokevirtual 203, 3) := by decide +kernel
theorem dX2_doBridge_29 : decode cX2_doBridge 29 = .ok (.ifCond .eq 37, 3) := by decide +kernel
theorem dX2_doBridge_32 : decode cX2_doBridge 32 = .ok (.aload_n 0, 1) := by decide +kernel
theorem dX2_doBridge_33 : decode cX2_doBridge 33 = .ok (.getfield 15, 3) := by decide +kernel
theorem dX2_doBridge_36 : decode cX2_doBridge 36 = .ok (.getfield 96, 3) := by decide +kernel
theorem dX2_doBridge_39 : decode cX2_doBridge 39 = .ok (.iload_n 1, 1) := by decide +kernel
theorem dX2_doBridge_40 : decode cX2_doBridge 40 = .ok (.invokevirtual 166, 3) := by decide +kernel
theorem dX2_doBridge_43 : decode cX2_doBridge 43 = .ok (.ifCond .eq 13, 3) := by decide +kernel
theorem dX2_doBridge_46 : decode cX2_doBridge 46 = .ok (.aload_n 0, 1) := by decide +kernel
theorem dX2_doBridge_47 : decode cX2_doBridge 47 = .ok (.bipush 8, 2) := by decide +kernel
theorem dX2_doBridge_49 : decode cX2_doBridge 49 = .ok (.iload_n 1, 1) := by decide +kernel
theorem dX2_doBridge_50 : decode cX2_doBridge 50 = .ok (.invokevirtual 134, 3) := by decide +kernel
theorem dX2_doBridge_53 : decode cX2_doBridge 53 = .ok (.goto 12, 3) := by decide +kernel
theorem dX2_doBridge_56 : decode cX2_doBridge 56 = .ok (.aload_n 0, 1) := by decide +kernel
theorem dX2_doBridge_57 : decode cX2_doBridge 57 = .ok (.bipush 8, 2) := by decide +kernel
theorem dX2_doBridge_59 : decode cX2_doBridge 59 = .ok (.iload_n 1, 1) := by decide +kernel
theorem dX2_doBridge_60 : decode cX2_doBridge 60 = .ok (.iload_n 1, 1) := by decide +kernel
theorem dX2_doBridge_61 : decode cX2_doBridge 61 = .ok (.iconst 0, 1) := by decide +kernel
theorem dX2_doBridge_62 : decode cX2_doBridge 62 = .ok (.invokevirtual 173, 3) := by decide +kernel
theorem dX2_doBridge_65 : decode cX2_doBridge 65 = .ok (.ireturn, 1) := by decide +kernel
theorem dX2_doBridge_66 : decode cX2_doBridge 66 = .ok (.iinc 1 1, 3) := by decide +kernel
theorem dX2_doBridge_69 : decode cX2_doBridge 69 = .ok (.goto (-67), 3) := by decide +kernel
theorem dX2_doBridge_72 : decode cX2_doBridge 72 = .ok (.iconst 0, 1) := by decide +kernel
theorem dX2_doBridge_73 : decode cX2_doBridge 73 = .ok (.ireturn, 1) := by decide +kernel
set_option maxRecDepth 20000 in
theorem ggX2_isBridge_X0_copy : GoodIn wsX2_isBridge wsX0_copy := goodIn_r _ [8, 9, 10, 56, 57, 58] (by decide +kernel) (by decide +kernel)
set_option maxRecDepth 20000 in
theorem gX2_isBridge_X0_copy : GoodIn wsX2_isBridge (wsV RX2 206 RX0 yX0_copy wsX0_copy) := goodIn_app (goodIn_of _ (by decide +kernel)) ggX2_isBridge_X0_copy
set_option maxRecDepth 20000 in
theorem ggX2_isBridge_X0_remove : GoodIn wsX2_isBridge wsX0_remove := goodIn_r _ [14, 10, 15, 9, 16, 17, 7, 18, 19, 20, 21, 22, 23, 24, 25, 56, 57, 58] (by decide +kernel) (by decide +kernel)
set_option maxRecDepth 20000 in
theorem gX2_isBridge_X0_remove : GoodIn wsX2_isBridge (wsV RX2 210 RX0 yX0_remove wsX0_remove) := goodIn_app (goodIn_of _ (by decide +kernel)) ggX2_isBridge_X0_remove
set_option maxRecDepth 20000 in
theorem ggX2_isBridge_X1_lesserEnd : GoodIn wsX2_isBridge wsX1_lesserEnd := goodIn_r _ [22] (by decide +kernel) (by decide +kernel)
set_option maxRecDepth 20000 in
theorem gX2_isBridge_X1_lesserEnd : GoodIn wsX2_isBridge (va_wsS RX2 177 yX1_lesserEnd wsX1_lesserEnd) := goodIn_app (goodIn_of _ (by decide +kernel)) ggX2_isBridge_X1_lesserEnd
set_option maxRecDepth 20000 in
theorem ggX2_isBridge_X1_greaterEnd : GoodIn wsX2_isBridge wsX1_greaterEnd := goodIn_r _ [30, 31, 32, 20, 21, 22, 33, 17, 7, 18, 59, 60, 61, 62, 63, 64, 65] (by decide +kernel) (by decide +kernel)
set_option maxRecDepth 20000 in
theorem gX2_isBridge_X1_greaterEnd : GoodIn wsX2_isBridge (wsV RX2 181 RX1 yX1_greaterEnd wsX1_greaterEnd) := goodIn_app (goodIn_of _ (by decide +kernel)) ggX2_isBridge_X1_greaterEnd
set_option maxRecDepth 20000 in
theorem ggX2_isBridge_X0_joins : GoodIn wsX2_isBridge wsX0_joins := goodIn_r _ [37, 23, 24, 25, 38, 39, 40, 41, 42, 43, 7, 44, 9, 10, 45, 56, 57, 58] (by decide +kernel) (by decide +kernel)
set_option maxRecDepth 20000 in
theorem gX2_isBridge_X0_joins : GoodIn wsX2_isBridge (wsV RX2 213 RX0 yX0_joins wsX0_joins) := goodIn_app (goodIn_of _ (by decide +kernel)) ggX2_isBridge_X0_joins
theorem dX2_isBridge_0 : decode cX2_isBridge 0 = .ok (.aload_n 0, 1) := by decide +kernel
theorem dX2_isBridge_1 : decode cX2_isBridge 1 = .ok (.getfield 41, 3) := by decide +kernel
theorem dX2_isBridge_4 : decode cX2_isBridge 4 = .ok (.aload_n 0, 1) := by decide +kernel
theorem dX2_isBridge_5 : decode cX2_isBridge 5 = .ok (.getfield 38, 3) := by decide +kernel
theorem dX2_isBridge_8 : decode cX2_isBridge 8 = .ok (.invokevirtual 206, 3) := by decide +kernel
theorem dX2_isBridge_11 : decode cX2_isBridge 11 = .ok (.aload_n 0, 1) := by decide +kernel
theorem dX2_isBridge_12 : decode cX2_isBridge 12 = .ok (.getfield 41, 3) := by decide +kernel
theorem dX2_isBridge_15 : decode cX2_isBridge 15 = .ok (.iload_n 1, 1) := by decide +kernel
theorem dX2_isBridge_16 : decode cX2_isBridge 16 = .ok (.invokevirtual 210, 3) := by decide +kernel
theorem dX2_isBridge_19 : decode cX2_isBridge 19 = .ok (.aload_n 0, 1) := by decide +kernel
theorem dX2_isBridge_20 : decode cX2_isBridge 20 = .ok (.getfield 41, 3) := by decide +kernel
theorem dX2_isBridge_23 : decode cX2_isBridge 23 = .ok (.iload_n 1, 1) := by decide +kernel
theorem dX2_isBridge_24 : decode cX2_isBridge 24 = .ok (.invokestatic 177, 3) := by decide +kernel
theorem dX2_isBridge_27 : decode cX2_isBridge 27 = .ok (.aload_n 0, 1) := by decide +kernel
theorem dX2_isBridge_28 : decode cX2_isBridge 28 = .ok (.getfield 9, 3) := by decide +kernel
theorem dX2_isBridge_31 : decode cX2_isBridge 31 = .ok (.iload_n 1, 1) := by decide +kernel
theorem dX2_isBridge_32 : decode cX2_isBridge 32 = .ok (.invokevirtual 181, 3) := by decide +kernel
theorem dX2_isBridge_35 : decode cX2_isBridge 35 = .ok (.invokevirtual 213, 3) := by decide +kernel
theorem dX2_isBridge_38 : decode cX2_isBridge 38 = .ok (.ifCond .ne 7, 3) := by decide +kernel
theorem dX2_isBridge_41 : decode cX2_isBridge 41 = .ok (.iconst 1, 1) := by decide +kernel
theorem dX2_isBridge_42 : decode cX2_isBridge 42 = .ok (.goto 4, 3) := by decide +kernel
theorem dX2_isBridge_45 : decode cX2_isBridge 45 = .ok (.iconst 0, 1) := by decide +kernel
theorem dX2_isBridge_46 : decode cX2_isBridge 46 = .ok (.ireturn, 1) := by decide +kernel
set_option maxRecDepth 20000 in
theorem ggX2_doApart_X5_least : GoodIn wsX2_doApart wsX5_least := goodIn_r _ [9, 10, 11, 12, 13, 14, 15, 16] (by decide +kernel) (by decide +kernel)
set_option maxRecDepth 20000 in
theorem gX2_doApart_X5_least_n130 : GoodIn wsX2_doApart (wsX5_least) := ggX2_doApart_X5_least
set_option maxRecDepth 20000 in
theorem ggX2_doApart_X5_only : GoodIn wsX2_doApart wsX5_only := goodIn_r _ [18] (by decide +kernel) (by decide +kernel)
set_option maxRecDepth 20000 in
theorem gX2_doApart_X5_only_n145 : GoodIn wsX2_doApart (wsX5_only) := ggX2_doApart_X5_only
set_option maxRecDepth 20000 in
theorem ggX2_doApart_X0_reach : GoodIn wsX2_doApart wsX0_reach := goodIn_r _ [23, 24, 25, 26, 22, 27, 28, 29, 30, 112, 113, 114] (by decide +kernel) (by decide +kernel)
set_option maxRecDepth 20000 in
theorem gX2_doApart_X0_reach : GoodIn wsX2_doApart (wsV RX2 149 RX0 yX0_reach wsX0_reach) := goodIn_app (goodIn_of _ (by decide +kernel)) ggX2_doApart_X0_reach
set_option maxRecDepth 20000 in
theorem ggX2_doApart_X2_wrongAt : GoodIn wsX2_doApart wsX2_wrongAt := goodIn_r _ [35, 36, 37, 38, 39, 40, 41, 42, 43, 44, 45, 46, 47, 48, 49, 50, 51, 95, 96, 97, 98, 99, 100, 101, 102, 103, 104, 115, 116, 117, 118, 119, 120, 121, 122, 123, 124, 125, 126, 127] (by decide +kernel) (by decide +kernel)
set_option maxRecDepth 20000 in
theorem gX2_doApart_X2_wrongAt : GoodIn wsX2_doApart (wsV RX2 134 RX2 yX2_wrongAt wsX2_wrongAt) := goodIn_app (goodIn_of _ (by decide +kernel)) ggX2_doApart_X2_wrongAt
set_option maxRecDepth 20000 in
theorem ggX2_doApart_X0_has : GoodIn wsX2_doApart wsX0_has := goodIn_r _ [55, 29, 28, 56, 57, 22, 58, 59, 60, 61, 62, 17, 8, 18, 112, 113, 114] (by decide +kernel) (by decide +kernel)
set_option maxRecDepth 20000 in
theorem gX2_doApart_X0_has : GoodIn wsX2_doApart (wsV RX2 166 RX0 yX0_has wsX0_has) := goodIn_app (goodIn_of _ (by decide +kernel)) ggX2_doApart_X0_has
set_option maxRecDepth 20000 in
theorem ggX2_doApart_X1_lesserEnd : GoodIn wsX2_doApart wsX1_lesserEnd := goodIn_r _ [62] (by decide +kernel) (by decide +kernel)
set_option maxRecDepth 20000 in
theorem gX2_doApart_X1_lesserEnd : GoodIn wsX2_doApart (va_wsS RX2 177 yX1_lesserEnd wsX1_lesserEnd) := goodIn_app (goodIn_of _ (by decide +kernel)) ggX2_doApart_X1_lesserEnd
set_option maxRecDepth 20000 in
theorem ggX2_doApart_X5_holds : GoodIn wsX2_doApart wsX5_holds := goodIn_r _ [65, 66, 17, 8, 18] (by decide +kernel) (by decide +kernel)
set_option maxRecDepth 20000 in
theorem gX2_doApart_X5_holds_n184 : GoodIn wsX2_doApart (wsX5_holds) := ggX2_doApart_X5_holds
set_option maxRecDepth 20000 in
theorem ggX2_doApart_X2_setOneEdge : GoodIn wsX2_doApart wsX2_setOneEdge := goodIn_r _ [70, 36, 39, 40, 41, 42, 43, 44, 45, 46, 47, 48, 49, 50, 51, 71, 72, 73, 34, 74, 37, 75, 76, 77, 78, 79, 80, 81, 82, 83, 84, 22, 85, 29, 28, 56, 57, 58, 59, 60, 61, 62, 17, 8, 18, 86, 87, 88, 89, 90, 91, 92, 93, 94, 95, 96, 97, 98, 99, 100, 101, 102, 103, 104, 123, 124, 125, 126, 127, 115, 116, 117, 118, 119, 120, 121, 122, 112, 113, 114] (by decide +kernel) (by decide +kernel)
set_option maxRecDepth 20000 in
theorem gX2_doApart_X2_setOneEdge : GoodIn wsX2_doApart (wsV RX2 173 RX2 yX2_setOneEdge wsX2_setOneEdge) := goodIn_app (goodIn_of _ (by decide +kernel)) ggX2_doApart_X2_setOneEdge
theorem dX2_doApart_0 : decode cX2_doApart 0 = .ok (.aload_n 0, 1) := by decide +kernel
theorem dX2_doApart_1 : decode cX2_doApart 1 = .ok (.getfield 121, 3) := by decide +kernel
theorem dX2_doApart_4 : decode cX2_doApart 4 = .ok (.lconst 0, 1) := by decide +kernel
theorem dX2_doApart_5 : decode cX2_doApart 5 = .ok (.lcmp, 1) := by decide +kernel
theorem dX2_doApart_6 : decode cX2_doApart 6 = .ok (.ifCond .ne 5, 3) := by decide +kernel
theorem dX2_doApart_9 : decode cX2_doApart 9 = .ok (.iconst 0, 1) := by decide +kernel
theorem dX2_doApart_10 : decode cX2_doApart 10 = .ok (.ireturn, 1) := by decide +kernel
theorem dX2_doApart_11 : decode cX2_doApart 11 = .ok (.aload_n 0, 1) := by decide +kernel
theorem dX2_doApart_12 : decode cX2_doApart 12 = .ok (.getfield 38, 3) := by decide +kernel
theorem dX2_doApart_15 : decode cX2_doApart 15 = .ok (.aload_n 0, 1) := by decide +kernel
theorem dX2_doApart_16 : decode cX2_doApart 16 = .ok (.getfield 121, 3) := by decide +kernel
theorem dX2_doApart_19 : decode cX2_doApart 19 = .ok (.invokestatic 130, 3) := by decide +kernel
theorem dX2_doApart_22 : decode cX2_doApart 22 = .ok (.invokestatic 145, 3) := by decide +kernel
theorem dX2_doApart_25 : decode cX2_doApart 25 = .ok (.invokevirtual 149, 3) := by decide +kernel
theorem dX2_doApart_28 : decode cX2_doApart 28 = .ok (.lstore_n 1, 1) := by decide +kernel
theorem dX2_doApart_29 : decode cX2_doApart 29 = .ok (.aload_n 0, 1) := by decide +kernel
theorem dX2_doApart_30 : decode cX2_doApart 30 = .ok (.getfield 121, 3) := by decide +kernel
theorem dX2_doApart_33 : decode cX2_doApart 33 = .ok (.lload_n 1, 1) := by decide +kernel
theorem dX2_doApart_34 : decode cX2_doApart 34 = .ok (.ldc2_w 113, 3) := by decide +kernel
theorem dX2_doApart_37 : decode cX2_doApart 37 = .ok (.lxor, 1) := by decide +kernel
theorem dX2_doApart_38 : decode cX2_doApart 38 = .ok (.land, 1) := by decide +kernel
theorem dX2_doApart_39 : decode cX2_doApart 39 = .ok (.lstore_n 3, 1) := by decide +kernel
theorem dX2_doApart_40 : decode cX2_doApart 40 = .ok (.lload_n 3, 1) := by decide +kernel
theorem dX2_doApart_41 : decode cX2_doApart 41 = .ok (.lconst 0, 1) := by decide +kernel
theorem dX2_doApart_42 : decode cX2_doApart 42 = .ok (.lcmp, 1) := by decide +kernel
theorem dX2_doApart_43 : decode cX2_doApart 43 = .ok (.ifCond .eq 14, 3) := by decide +kernel
theorem dX2_doApart_46 : decode cX2_doApart 46 = .ok (.aload_n 0, 1) := by decide +kernel
theorem dX2_doApart_47 : decode cX2_doApart 47 = .ok (.bipush 9, 2) := by decide +kernel
theorem dX2_doApart_49 : decode cX2_doApart 49 = .ok (.lload_n 3, 1) := by decide +kernel
theorem dX2_doApart_50 : decode cX2_doApart 50 = .ok (.invokestatic 130, 3) := by decide +kernel
theorem dX2_doApart_53 : decode cX2_doApart 53 = .ok (.invokevirtual 134, 3) := by decide +kernel
theorem dX2_doApart_56 : decode cX2_doApart 56 = .ok (.ireturn, 1) := by decide +kernel
theorem dX2_doApart_57 : decode cX2_doApart 57 = .ok (.iconst 0, 1) := by decide +kernel
theorem dX2_doApart_58 : decode cX2_doApart 58 = .ok (.istore 5, 2) := by decide +kernel
theorem dX2_doApart_60 : decode cX2_doApart 60 = .ok (.iload 5, 2) := by decide +kernel
theorem dX2_doApart_62 : decode cX2_doApart 62 = .ok (.aload_n 0, 1) := by decide +kernel
theorem dX2_doApart_63 : decode cX2_doApart 63 = .ok (.getfield 9, 3) := by decide +kernel
theorem dX2_doApart_66 : decode cX2_doApart 66 = .ok (.getfield 163, 3) := by decide +kernel
theorem dX2_doApart_69 : decode cX2_doApart 69 = .ok (.if_icmp .ge 45, 3) := by decide +kernel
theorem dX2_doApart_72 : decode cX2_doApart 72 = .ok (.aload_n 0, 1) := by decide +kernel
theorem dX2_doApart_73 : decode cX2_doApart 73 = .ok (.getfield 34, 3) := by decide +kernel
theorem dX2_doApart_76 : decode cX2_doApart 76 = .ok (.iload 5, 2) := by decide +kernel
theorem dX2_doApart_78 : decode cX2_doApart 78 = .ok (.invokevirtual 166, 3) := by decide +kernel
theorem dX2_doApart_81 : decode cX2_doApart 81 = .ok (.ifCond .eq 27, 3) := by decide +kernel
theorem dX2_doApart_84 : decode cX2_doApart 84 = .ok (.lload_n 1, 1) := by decide +kernel
theorem dX2_doApart_85 : decode cX2_doApart 85 = .ok (.iload 5, 2) := by decide +kernel
theorem dX2_doApart_87 : decode cX2_doApart 87 = .ok (.invokestatic 177, 3) := by decide +kernel
theorem dX2_doApart_90 : decode cX2_doApart 90 = .ok (.invokestatic 184, 3) := by decide +kernel
theorem dX2_doApart_93 : decode cX2_doApart 93 = .ok (.ifCond .ne 15, 3) := by decide +kernel
theorem dX2_doApart_96 : decode cX2_doApart 96 = .ok (.aload_n 0, 1) := by decide +kernel
theorem dX2_doApart_97 : decode cX2_doApart 97 = .ok (.bipush 9, 2) := by decide +kernel
theorem dX2_doApart_99 : decode cX2_doApart 99 = .ok (.iload 5, 2) := by decide +kernel
theorem dX2_doApart_101 : decode cX2_doApart 101 = .ok (.iload 5, 2) := by decide +kernel
theorem dX2_doApart_103 : decode cX2_doApart 103 = .ok (.iconst 0, 1) := by decide +kernel
theorem dX2_doApart_104 : decode cX2_doApart 104 = .ok (.invokevirtual 173, 3) := by decide +kernel
theorem dX2_doApart_107 : decode cX2_doApart 107 = .ok (.ireturn, 1) := by decide +kernel
theorem dX2_doApart_108 : decode cX2_doApart 108 = .ok (.iinc 5 1, 3) := by decide +kernel
theorem dX2_doApart_111 : decode cX2_doApart 111 = .ok (.goto (-51), 3) := by decide +kernel
theorem dX2_doApart_114 : decode cX2_doApart 114 = .ok (.iconst 0, 1) := by decide +kernel
theorem dX2_doApart_115 : decode cX2_doApart 115 = .ok (.ireturn, 1) := by decide +kernel
set_option maxRecDepth 20000 in
theorem ggX2_doMany_J13_bitCount_95d88 : GoodIn wsX2_doMany wsJ13_bitCount_95d88 := goodIn_r _ [11, 12, 13, 14] (by decide +kernel) (by decide +kernel)
set_option maxRecDepth 20000 in
theorem gX2_doMany_J13_bitCount_95d88 : GoodIn wsX2_doMany (va_wsS RX2 198 yJ13_bitCount_95d88 wsJ13_bitCount_95d88) := goodIn_app (goodIn_of _ (by decide +kernel)) ggX2_doMany_J13_bitCount_95d88
set_option maxRecDepth 20000 in
theorem ggX2_doMany_X2_wrongAt : GoodIn wsX2_doMany wsX2_wrongAt := goodIn_r _ [19, 20, 1, 21, 22, 23, 24, 25, 26, 27, 28, 29, 30, 31, 32, 33, 34, 70, 71, 72, 73, 74, 75, 76, 77, 78, 79, 80, 81, 82, 83, 84, 85, 86, 87, 95, 96, 97, 98, 99] (by decide +kernel) (by decide +kernel)
set_option maxRecDepth 20000 in
theorem gX2_doMany_X2_wrongAt : GoodIn wsX2_doMany (wsV RX2 134 RX2 yX2_wrongAt wsX2_wrongAt) := goodIn_app (goodIn_of _ (by decide +kernel)) ggX2_doMany_X2_wrongAt
set_option maxRecDepth 20000 in
theorem ggX2_doMany_X2_setOpenShades : GoodIn wsX2_doMany wsX2_setOpenShades := goodIn_r _ [38, 20, 4, 39, 22, 23, 24, 25, 26, 27, 28, 29, 30, 31, 32, 33, 34, 40, 41, 42, 18, 43, 5, 1, 3, 7, 6, 44, 45, 46, 47, 48, 49, 50, 51, 52, 53, 54, 55, 56, 57, 58, 59, 60, 61, 62, 63, 64, 65, 66, 67, 68, 69, 70, 71, 72, 73, 74, 75, 76, 77, 78, 79, 88, 89, 90, 91, 92, 93, 94, 95, 96, 97, 98, 99, 80, 81, 82, 83, 84, 85, 86, 87] (by decide +kernel) (by decide +kernel)
set_option maxRecDepth 20000 in
theorem gX2_doMany_X2_setOpenShades : GoodIn wsX2_doMany (wsV RX2 228 RX2 yX2_setOpenShades wsX2_setOpenShades) := goodIn_app (goodIn_of _ (by decide +kernel)) ggX2_doMany_X2_setOpenShades
theorem dX2_doMany_0 : decode cX2_doMany 0 = .ok (.aload_n 0, 1) := by decide +kernel
theorem dX2_doMany_1 : decode cX2_doMany 1 = .ok (.getfield 15, 3) := by decide +kernel
theorem dX2_doMany_4 : decode cX2_doMany 4 = .ok (.getfield 216, 3) := by decide +kernel
theorem dX2_doMany_7 : decode cX2_doMany 7 = .ok (.iconst (-1), 1) := by decide +kernel
theorem dX2_doMany_8 : decode cX2_doMany 8 = .ok (.if_icmp .ne 5, 3) := by decide +kernel
theorem dX2_doMany_11 : decode cX2_doMany 11 = .ok (.iconst 0, 1) := by decide +kernel
theorem dX2_doMany_12 : decode cX2_doMany 12 = .ok (.ireturn, 1) := by decide +kernel
theorem dX2_doMany_13 : decode cX2_doMany 13 = .ok (.aload_n 0, 1) := by decide +kernel
theorem dX2_doMany_14 : decode cX2_doMany 14 = .ok (.getfield 15, 3) := by decide +kernel
theorem dX2_doMany_17 : decode cX2_doMany 17 = .ok (.getfield 219, 3) := by decide +kernel
theorem dX2_doMany_20 : decode cX2_doMany 20 = .ok (.invokestatic 198, 3) := by decide +kernel
theorem dX2_doMany_23 : decode cX2_doMany 23 = .ok (.istore_n 1, 1) := by decide +kernel
theorem dX2_doMany_24 : decode cX2_doMany 24 = .ok (.aload_n 0, 1) := by decide +kernel
theorem dX2_doMany_25 : decode cX2_doMany 25 = .ok (.getfield 9, 3) := by decide +kernel
theorem dX2_doMany_28 : decode cX2_doMany 28 = .ok (.getfield 222, 3) := by decide +kernel
theorem dX2_doMany_31 : decode cX2_doMany 31 = .ok (.aload_n 0, 1) := by decide +kernel
theorem dX2_doMany_32 : decode cX2_doMany 32 = .ok (.getfield 15, 3) := by decide +kernel
theorem dX2_doMany_35 : decode cX2_doMany 35 = .ok (.getfield 225, 3) := by decide +kernel
theorem dX2_doMany_38 : decode cX2_doMany 38 = .ok (.ldc2_w 113, 3) := by decide +kernel
theorem dX2_doMany_41 : decode cX2_doMany 41 = .ok (.lxor, 1) := by decide +kernel
theorem dX2_doMany_42 : decode cX2_doMany 42 = .ok (.land, 1) := by decide +kernel
theorem dX2_doMany_43 : decode cX2_doMany 43 = .ok (.invokestatic 198, 3) := by decide +kernel
theorem dX2_doMany_46 : decode cX2_doMany 46 = .ok (.istore_n 2, 1) := by decide +kernel
theorem dX2_doMany_47 : decode cX2_doMany 47 = .ok (.iload_n 1, 1) := by decide +kernel
theorem dX2_doMany_48 : decode cX2_doMany 48 = .ok (.aload_n 0, 1) := by decide +kernel
theorem dX2_doMany_49 : decode cX2_doMany 49 = .ok (.getfield 15, 3) := by decide +kernel
theorem dX2_doMany_52 : decode cX2_doMany 52 = .ok (.getfield 216, 3) := by decide +kernel
theorem dX2_doMany_55 : decode cX2_doMany 55 = .ok (.if_icmp .gt 14, 3) := by decide +kernel
theorem dX2_doMany_58 : decode cX2_doMany 58 = .ok (.iload_n 2, 1) := by decide +kernel
theorem dX2_doMany_59 : decode cX2_doMany 59 = .ok (.aload_n 0, 1) := by decide +kernel
theorem dX2_doMany_60 : decode cX2_doMany 60 = .ok (.getfield 15, 3) := by decide +kernel
theorem dX2_doMany_63 : decode cX2_doMany 63 = .ok (.getfield 216, 3) := by decide +kernel
theorem dX2_doMany_66 : decode cX2_doMany 66 = .ok (.if_icmp .ge 11, 3) := by decide +kernel
theorem dX2_doMany_69 : decode cX2_doMany 69 = .ok (.aload_n 0, 1) := by decide +kernel
theorem dX2_doMany_70 : decode cX2_doMany 70 = .ok (.bipush 10, 2) := by decide +kernel
theorem dX2_doMany_72 : decode cX2_doMany 72 = .ok (.iconst 0, 1) := by decide +kernel
theorem dX2_doMany_73 : decode cX2_doMany 73 = .ok (.invokevirtual 134, 3) := by decide +kernel
theorem dX2_doMany_76 : decode cX2_doMany 76 = .ok (.ireturn, 1) := by decide +kernel
theorem dX2_doMany_77 : decode cX2_doMany 77 = .ok (.iload_n 1, 1) := by decide +kernel
theorem dX2_doMany_78 : decode cX2_doMany 78 = .ok (.iload_n 2, 1) := by decide +kernel
theorem dX2_doMany_79 : decode cX2_doMany 79 = .ok (.if_icmp .eq 25, 3) := by decide +kernel
theorem dX2_doMany_82 : decode cX2_doMany 82 = .ok (.iload_n 1, 1) := by decide +kernel
theorem dX2_doMany_83 : decode cX2_doMany 83 = .ok (.aload_n 0, 1) := by decide +kernel
theorem dX2_doMany_84 : decode cX2_doMany 84 = .ok (.getfield 15, 3) := by decide +kernel
theorem dX2_doMany_87 : decode cX2_doMany 87 = .ok (.getfield 216, 3) := by decide +kernel
theorem dX2_doMany_90 : decode cX2_doMany 90 = .ok (.if_icmp .eq 16, 3) := by decide +kernel
theorem dX2_doMany_93 : decode cX2_doMany 93 = .ok (.iload_n 2, 1) := by decide +kernel
theorem dX2_doMany_94 : decode cX2_doMany 94 = .ok (.aload_n 0, 1) := by decide +kernel
theorem dX2_doMany_95 : decode cX2_doMany 95 = .ok (.getfield 15, 3) := by decide +kernel
theorem dX2_doMany_98 : decode cX2_doMany 98 = .ok (.getfield 216, 3) := by decide +kernel
theorem dX2_doMany_101 : decode cX2_doMany 101 = .ok (.if_icmp .eq 5, 3) := by decide +kernel
theorem dX2_doMany_104 : decode cX2_doMany 104 = .ok (.iconst 0, 1) := by decide +kernel
theorem dX2_doMany_105 : decode cX2_doMany 105 = .ok (.ireturn, 1) := by decide +kernel
theorem dX2_doMany_106 : decode cX2_doMany 106 = .ok (.aload_n 0, 1) := by decide +kernel
theorem dX2_doMany_107 : decode cX2_doMany 107 = .ok (.iload_n 2, 1) := by decide +kernel
theorem dX2_doMany_108 : decode cX2_doMany 108 = .ok (.aload_n 0, 1) := by decide +kernel
theorem dX2_doMany_109 : decode cX2_doMany 109 = .ok (.getfield 15, 3) := by decide +kernel
theorem dX2_doMany_112 : decode cX2_doMany 112 = .ok (.getfield 216, 3) := by decide +kernel
theorem dX2_doMany_115 : decode cX2_doMany 115 = .ok (.if_icmp .ne 7, 3) := by decide +kernel
theorem dX2_doMany_118 : decode cX2_doMany 118 = .ok (.iconst 1, 1) := by decide +kernel
theorem dX2_doMany_119 : decode cX2_doMany 119 = .ok (.goto 4, 3) := by decide +kernel
theorem dX2_doMany_122 : decode cX2_doMany 122 = .ok (.iconst 0, 1) := by decide +kernel
theorem dX2_doMany_123 : decode cX2_doMany 123 = .ok (.invokevirtual 228, 3) := by decide +kernel
theorem dX2_doMany_126 : decode cX2_doMany 126 = .ok (.ireturn, 1) := by decide +kernel
set_option maxRecDepth 20000 in
theorem ggX2_doParts_X5_least : GoodIn wsX2_doParts wsX5_least := goodIn_r _ [9, 10, 11, 12, 13, 14, 15, 16] (by decide +kernel) (by decide +kernel)
set_option maxRecDepth 20000 in
theorem gX2_doParts_X5_least_n130 : GoodIn wsX2_doParts (wsX5_least) := ggX2_doParts_X5_least
set_option maxRecDepth 20000 in
theorem ggX2_doParts_X2_shadePart : GoodIn wsX2_doParts wsX2_shadePart := goodIn_r _ [21, 22, 3, 23, 24, 25, 26, 27, 8, 28, 29, 30, 31, 32, 33, 34, 35, 36, 37, 38, 39, 40, 88, 89, 90, 91, 92, 93, 94, 95, 96, 97, 106, 107, 108, 109, 110, 111, 112, 113, 114, 115] (by decide +kernel) (by decide +kernel)
set_option maxRecDepth 20000 in
theorem gX2_doParts_X2_shadePart : GoodIn wsX2_doParts (wsV RX2 232 RX2 yX2_shadePart wsX2_shadePart) := goodIn_app (goodIn_of _ (by decide +kernel)) ggX2_doParts_X2_shadePart
set_option maxRecDepth 20000 in
theorem ggX2_doParts_X2_wrongAt : GoodIn wsX2_doParts wsX2_wrongAt := goodIn_r _ [44, 45, 1, 46, 47, 48, 49, 50, 51, 52, 53, 54, 55, 56, 57, 58, 59, 88, 89, 90, 91, 92, 93, 94, 95, 96, 97, 98, 99, 100, 101, 102, 103, 104, 105, 116, 117, 118, 119, 120] (by decide +kernel) (by decide +kernel)
set_option maxRecDepth 20000 in
theorem gX2_doParts_X2_wrongAt : GoodIn wsX2_doParts (wsV RX2 134 RX2 yX2_wrongAt wsX2_wrongAt) := goodIn_app (goodIn_of _ (by decide +kernel)) ggX2_doParts_X2_wrongAt
set_option maxRecDepth 20000 in
theorem ggX2_doParts_X2_openShades : GoodIn wsX2_doParts wsX2_openShades := goodIn_r _ [63, 3, 4, 1, 2, 6, 5, 88, 89, 90, 91, 92, 93, 94, 95, 96, 97, 106, 107, 108, 109, 110, 111, 112, 98, 99, 100, 101, 102, 103, 104, 105] (by decide +kernel) (by decide +kernel)
set_option maxRecDepth 20000 in
theorem gX2_doParts_X2_openShades : GoodIn wsX2_doParts (wsV RX2 236 RX2 yX2_openShades wsX2_openShades) := goodIn_app (goodIn_of _ (by decide +kernel)) ggX2_doParts_X2_openShades
set_option maxRecDepth 20000 in
theorem ggX2_doParts_X2_setOneShade : GoodIn wsX2_doParts wsX2_setOneShade := goodIn_r _ [67, 45, 47, 48, 49, 50, 51, 52, 53, 54, 55, 56, 57, 58, 59, 68, 69, 70, 20, 71, 1, 72, 73, 74, 75, 76, 77, 78, 27, 8, 28, 79, 80, 81, 82, 83, 84, 85, 86, 87, 88, 89, 90, 91, 92, 93, 94, 95, 96, 97, 116, 117, 118, 119, 120, 98, 99, 100, 101, 102, 103, 104, 105] (by decide +kernel) (by decide +kernel)
set_option maxRecDepth 20000 in
theorem gX2_doParts_X2_setOneShade : GoodIn wsX2_doParts (wsV RX2 239 RX2 yX2_setOneShade wsX2_setOneShade) := goodIn_app (goodIn_of _ (by decide +kernel)) ggX2_doParts_X2_setOneShade
theorem dX2_doParts_0 : decode cX2_doParts 0 = .ok (.aload_n 0, 1) := by decide +kernel
theorem dX2_doParts_1 : decode cX2_doParts 1 = .ok (.getfield 15, 3) := by decide +kernel
theorem dX2_doParts_4 : decode cX2_doParts 4 = .ok (.getfield 219, 3) := by decide +kernel
theorem dX2_doParts_7 : decode cX2_doParts 7 = .ok (.lconst 0, 1) := by decide +kernel
theorem dX2_doParts_8 : decode cX2_doParts 8 = .ok (.lcmp, 1) := by decide +kernel
theorem dX2_doParts_9 : decode cX2_doParts 9 = .ok (.ifCond .ne 5, 3) := by decide +kernel
theorem dX2_doParts_12 : decode cX2_doParts 12 = .ok (.iconst 0, 1) := by decide +kernel
theorem dX2_doParts_13 : decode cX2_doParts 13 = .ok (.ireturn, 1) := by decide +kernel
theorem dX2_doParts_14 : decode cX2_doParts 14 = .ok (.aload_n 0, 1) := by decide +kernel
theorem dX2_doParts_15 : decode cX2_doParts 15 = .ok (.aload_n 0, 1) := by decide +kernel
theorem dX2_doParts_16 : decode cX2_doParts 16 = .ok (.getfield 15, 3) := by decide +kernel
theorem dX2_doParts_19 : decode cX2_doParts 19 = .ok (.getfield 219, 3) := by decide +kernel
theorem dX2_doParts_22 : decode cX2_doParts 22 = .ok (.invokestatic 130, 3) := by decide +kernel
theorem dX2_doParts_25 : decode cX2_doParts 25 = .ok (.aload_n 0, 1) := by decide +kernel
theorem dX2_doParts_26 : decode cX2_doParts 26 = .ok (.getfield 9, 3) := by decide +kernel
theorem dX2_doParts_29 : decode cX2_doParts 29 = .ok (.getfield 222, 3) := by decide +kernel
theorem dX2_doParts_32 : decode cX2_doParts 32 = .ok (.aload_n 0, 1) := by decide +kernel
theorem dX2_doParts_33 : decode cX2_doParts 33 = .ok (.getfield 15, 3) := by decide +kernel
theorem dX2_doParts_36 : decode cX2_doParts 36 = .ok (.getfield 225, 3) := by decide +kernel
theorem dX2_doParts_39 : decode cX2_doParts 39 = .ok (.ldc2_w 113, 3) := by decide +kernel
theorem dX2_doParts_42 : decode cX2_doParts 42 = .ok (.lxor, 1) := by decide +kernel
theorem dX2_doParts_43 : decode cX2_doParts 43 = .ok (.land, 1) := by decide +kernel
theorem dX2_doParts_44 : decode cX2_doParts 44 = .ok (.invokevirtual 232, 3) := by decide +kernel
theorem dX2_doParts_47 : decode cX2_doParts 47 = .ok (.lstore_n 1, 1) := by decide +kernel
theorem dX2_doParts_48 : decode cX2_doParts 48 = .ok (.aload_n 0, 1) := by decide +kernel
theorem dX2_doParts_49 : decode cX2_doParts 49 = .ok (.getfield 15, 3) := by decide +kernel
theorem dX2_doParts_52 : decode cX2_doParts 52 = .ok (.getfield 219, 3) := by decide +kernel
theorem dX2_doParts_55 : decode cX2_doParts 55 = .ok (.lload_n 1, 1) := by decide +kernel
theorem dX2_doParts_56 : decode cX2_doParts 56 = .ok (.ldc2_w 113, 3) := by decide +kernel
theorem dX2_doParts_59 : decode cX2_doParts 59 = .ok (.lxor, 1) := by decide +kernel
theorem dX2_doParts_60 : decode cX2_doParts 60 = .ok (.land, 1) := by decide +kernel
theorem dX2_doParts_61 : decode cX2_doParts 61 = .ok (.lstore_n 3, 1) := by decide +kernel
theorem dX2_doParts_62 : decode cX2_doParts 62 = .ok (.lload_n 3, 1) := by decide +kernel
theorem dX2_doParts_63 : decode cX2_doParts 63 = .ok (.lconst 0, 1) := by decide +kernel
theorem dX2_doParts_64 : decode cX2_doParts 64 = .ok (.lcmp, 1) := by decide +kernel
theorem dX2_doParts_65 : decode cX2_doParts 65 = .ok (.ifCond .eq 14, 3) := by decide +kernel
theorem dX2_doParts_68 : decode cX2_doParts 68 = .ok (.aload_n 0, 1) := by decide +kernel
theorem dX2_doParts_69 : decode cX2_doParts 69 = .ok (.bipush 11, 2) := by decide +kernel
theorem dX2_doParts_71 : decode cX2_doParts 71 = .ok (.lload_n 3, 1) := by decide +kernel
theorem dX2_doParts_72 : decode cX2_doParts 72 = .ok (.invokestatic 130, 3) := by decide +kernel
theorem dX2_doParts_75 : decode cX2_doParts 75 = .ok (.invokevirtual 134, 3) := by decide +kernel
theorem dX2_doParts_78 : decode cX2_doParts 78 = .ok (.ireturn, 1) := by decide +kernel
theorem dX2_doParts_79 : decode cX2_doParts 79 = .ok (.aload_n 0, 1) := by decide +kernel
theorem dX2_doParts_80 : decode cX2_doParts 80 = .ok (.invokevirtual 236, 3) := by decide +kernel
theorem dX2_doParts_83 : decode cX2_doParts 83 = .ok (.lload_n 1, 1) := by decide +kernel
theorem dX2_doParts_84 : decode cX2_doParts 84 = .ok (.ldc2_w 113, 3) := by decide +kernel
theorem dX2_doParts_87 : decode cX2_doParts 87 = .ok (.lxor, 1) := by decide +kernel
theorem dX2_doParts_88 : decode cX2_doParts 88 = .ok (.land, 1) := by decide +kernel
theorem dX2_doParts_89 : decode cX2_doParts 89 = .ok (.lstore 5, 2) := by decide +kernel
theorem dX2_doParts_91 : decode cX2_doParts 91 = .ok (.lload 5, 2) := by decide +kernel
theorem dX2_doParts_93 : decode cX2_doParts 93 = .ok (.lconst 0, 1) := by decide +kernel
theorem dX2_doParts_94 : decode cX2_doParts 94 = .ok (.lcmp, 1) := by decide +kernel
theorem dX2_doParts_95 : decode cX2_doParts 95 = .ok (.ifCond .eq 22, 3) := by decide +kernel
theorem dX2_doParts_98 : decode cX2_doParts 98 = .ok (.aload_n 0, 1) := by decide +kernel
theorem dX2_doParts_99 : decode cX2_doParts 99 = .ok (.bipush 11, 2) := by decide +kernel
theorem dX2_doParts_101 : decode cX2_doParts 101 = .ok (.lload 5, 2) := by decide +kernel
theorem dX2_doParts_103 : decode cX2_doParts 103 = .ok (.invokestatic 130, 3) := by decide +kernel
theorem dX2_doParts_106 : decode cX2_doParts 106 = .ok (.iconst 0, 1) := by decide +kernel
theorem dX2_doParts_107 : decode cX2_doParts 107 = .ok (.invokevirtual 239, 3) := by decide +kernel
theorem dX2_doParts_110 : decode cX2_doParts 110 = .ok (.ifCond .eq 7, 3) := by decide +kernel
theorem dX2_doParts_113 : decode cX2_doParts 113 = .ok (.iconst 1, 1) := by decide +kernel
theorem dX2_doParts_114 : decode cX2_doParts 114 = .ok (.goto 4, 3) := by decide +kernel
theorem dX2_doParts_117 : decode cX2_doParts 117 = .ok (.iconst 0, 1) := by decide +kernel
theorem dX2_doParts_118 : decode cX2_doParts 118 = .ok (.ireturn, 1) := by decide +kernel
set_option maxRecDepth 20000 in
theorem ggX2_doCut_X2_openShades : GoodIn wsX2_doCut wsX2_openShades := goodIn_r _ [9, 3, 10, 1, 2, 11, 12, 91, 92, 93, 94, 95, 96, 97, 98, 99, 100, 109, 110, 111, 112, 113, 114, 115, 101, 102, 103, 104, 105, 106, 107, 108] (by decide +kernel) (by decide +kernel)
set_option maxRecDepth 20000 in
theorem gX2_doCut_X2_openShades : GoodIn wsX2_doCut (wsV RX2 236 RX2 yX2_openShades wsX2_openShades) := goodIn_app (goodIn_of _ (by decide +kernel)) ggX2_doCut_X2_openShades
set_option maxRecDepth 20000 in
theorem ggX2_doCut_X5_holds : GoodIn wsX2_doCut wsX5_holds := goodIn_r _ [15, 16, 17, 14, 18] (by decide +kernel) (by decide +kernel)
set_option maxRecDepth 20000 in
theorem gX2_doCut_X5_holds_n184 : GoodIn wsX2_doCut (wsX5_holds) := ggX2_doCut_X5_holds
set_option maxRecDepth 20000 in
theorem ggX2_doCut_X2_cutsBlack : GoodIn wsX2_doCut wsX2_cutsBlack := goodIn_r _ [22, 1, 2, 3, 10, 12, 11, 23, 14, 24, 25, 26, 27, 28, 29, 30, 31, 17, 18, 32, 33, 34, 8, 35, 36, 37, 38, 39, 40, 41, 42, 43, 44, 45, 46, 47, 48, 49, 50, 51, 52, 91, 92, 93, 94, 95, 96, 97, 98, 99, 100, 101, 102, 103, 104, 105, 106, 107, 108, 109, 110, 111, 112, 113, 114, 115, 116, 117, 118] (by decide +kernel) (by decide +kernel)
set_option maxRecDepth 20000 in
theorem gX2_doCut_X2_cutsBlack : GoodIn wsX2_doCut (wsV RX2 242 RX2 yX2_cutsBlack wsX2_cutsBlack) := goodIn_app (goodIn_of _ (by decide +kernel)) ggX2_doCut_X2_cutsBlack
set_option maxRecDepth 20000 in
theorem ggX2_doCut_X2_setOneShade : GoodIn wsX2_doCut wsX2_setOneShade := goodIn_r _ [56, 57, 58, 59, 60, 61, 62, 63, 64, 65, 66, 67, 68, 69, 70, 71, 72, 73, 8, 74, 1, 75, 76, 77, 78, 79, 80, 81, 17, 14, 18, 82, 83, 84, 85, 86, 87, 88, 89, 90, 91, 92, 93, 94, 95, 96, 97, 98, 99, 100, 119, 120, 121, 122, 123, 101, 102, 103, 104, 105, 106, 107, 108] (by decide +kernel) (by decide +kernel)
set_option maxRecDepth 20000 in
theorem gX2_doCut_X2_setOneShade : GoodIn wsX2_doCut (wsV RX2 239 RX2 yX2_setOneShade wsX2_setOneShade) := goodIn_app (goodIn_of _ (by decide +kernel)) ggX2_doCut_X2_setOneShade
theorem dX2_doCut_0 : decode cX2_doCut 0 = .ok (.aload_n 0, 1) := by decide +kernel
theorem dX2_doCut_1 : decode cX2_doCut 1 = .ok (.getfield 15, 3) := by decide +kernel
theorem dX2_doCut_4 : decode cX2_doCut 4 = .ok (.getfield 219, 3) := by decide +kernel
theorem dX2_doCut_7 : decode cX2_doCut 7 = .ok (.lconst 0, 1) := by decide +kernel
theorem dX2_doCut_8 : decode cX2_doCut 8 = .ok (.lcmp, 1) := by decide +kernel
theorem dX2_doCut_9 : decode cX2_doCut 9 = .ok (.ifCond .ne 5, 3) := by decide +kernel
theorem dX2_doCut_12 : decode cX2_doCut 12 = .ok (.iconst 0, 1) := by decide +kernel
theorem dX2_doCut_13 : decode cX2_doCut 13 = .ok (.ireturn, 1) := by decide +kernel
theorem dX2_doCut_14 : decode cX2_doCut 14 = .ok (.aload_n 0, 1) := by decide +kernel
theorem dX2_doCut_15 : decode cX2_doCut 15 = .ok (.invokevirtual 236, 3) := by decide +kernel
theorem dX2_doCut_18 : decode cX2_doCut 18 = .ok (.lstore_n 1, 1) := by decide +kernel
theorem dX2_doCut_19 : decode cX2_doCut 19 = .ok (.iconst 0, 1) := by decide +kernel
theorem dX2_doCut_20 : decode cX2_doCut 20 = .ok (.istore_n 3, 1) := by decide +kernel
theorem dX2_doCut_21 : decode cX2_doCut 21 = .ok (.iload_n 3, 1) := by decide +kernel
theorem dX2_doCut_22 : decode cX2_doCut 22 = .ok (.aload_n 0, 1) := by decide +kernel
theorem dX2_doCut_23 : decode cX2_doCut 23 = .ok (.getfield 9, 3) := by decide +kernel
theorem dX2_doCut_26 : decode cX2_doCut 26 = .ok (.getfield 142, 3) := by decide +kernel
theorem dX2_doCut_29 : decode cX2_doCut 29 = .ok (.if_icmp .ge 34, 3) := by decide +kernel
theorem dX2_doCut_32 : decode cX2_doCut 32 = .ok (.lload_n 1, 1) := by decide +kernel
theorem dX2_doCut_33 : decode cX2_doCut 33 = .ok (.iload_n 3, 1) := by decide +kernel
theorem dX2_doCut_34 : decode cX2_doCut 34 = .ok (.invokestatic 184, 3) := by decide +kernel
theorem dX2_doCut_37 : decode cX2_doCut 37 = .ok (.ifCond .eq 20, 3) := by decide +kernel
theorem dX2_doCut_40 : decode cX2_doCut 40 = .ok (.aload_n 0, 1) := by decide +kernel
theorem dX2_doCut_41 : decode cX2_doCut 41 = .ok (.iload_n 3, 1) := by decide +kernel
theorem dX2_doCut_42 : decode cX2_doCut 42 = .ok (.invokevirtual 242, 3) := by decide +kernel
theorem dX2_doCut_45 : decode cX2_doCut 45 = .ok (.ifCond .eq 12, 3) := by decide +kernel
theorem dX2_doCut_48 : decode cX2_doCut 48 = .ok (.aload_n 0, 1) := by decide +kernel
theorem dX2_doCut_49 : decode cX2_doCut 49 = .ok (.bipush 12, 2) := by decide +kernel
theorem dX2_doCut_51 : decode cX2_doCut 51 = .ok (.iload_n 3, 1) := by decide +kernel
theorem dX2_doCut_52 : decode cX2_doCut 52 = .ok (.iconst 1, 1) := by decide +kernel
theorem dX2_doCut_53 : decode cX2_doCut 53 = .ok (.invokevirtual 239, 3) := by decide +kernel
theorem dX2_doCut_56 : decode cX2_doCut 56 = .ok (.ireturn, 1) := by decide +kernel
theorem dX2_doCut_57 : decode cX2_doCut 57 = .ok (.iinc 3 1, 3) := by decide +kernel
theorem dX2_doCut_60 : decode cX2_doCut 60 = .ok (.goto (-39), 3) := by decide +kernel
theorem dX2_doCut_63 : decode cX2_doCut 63 = .ok (.iconst 0, 1) := by decide +kernel
theorem dX2_doCut_64 : decode cX2_doCut 64 = .ok (.ireturn, 1) := by decide +kernel
set_option maxRecDepth 20000 in
theorem ggX2_cutsBlack_X5_least : GoodIn wsX2_cutsBlack wsX5_least := goodIn_r _ [9, 10, 11, 12, 13, 14, 15, 16] (by decide +kernel) (by decide +kernel)
set_option maxRecDepth 20000 in
theorem gX2_cutsBlack_X5_least_n130 : GoodIn wsX2_cutsBlack (wsX5_least) := ggX2_cutsBlack_X5_least
set_option maxRecDepth 20000 in
theorem ggX2_cutsBlack_X5_only : GoodIn wsX2_cutsBlack wsX5_only := goodIn_r _ [18] (by decide +kernel) (by decide +kernel)
set_option maxRecDepth 20000 in
theorem gX2_cutsBlack_X5_only_n145 : GoodIn wsX2_cutsBlack (wsX5_only) := ggX2_cutsBlack_X5_only
set_option maxRecDepth 20000 in
theorem ggX2_cutsBlack_X2_shadePart : GoodIn wsX2_cutsBlack wsX2_shadePart := goodIn_r _ [23, 24, 3, 25, 26, 27, 28, 17, 8, 18, 29, 30, 31, 32, 33, 34, 35, 36, 37, 38, 39, 40, 41, 42, 43, 44, 45, 46, 47, 48, 49, 50, 59, 60, 61, 62, 63, 64, 65, 66, 67, 68] (by decide +kernel) (by decide +kernel)
set_option maxRecDepth 20000 in
theorem gX2_cutsBlack_X2_shadePart : GoodIn wsX2_cutsBlack (wsV RX2 232 RX2 yX2_shadePart wsX2_shadePart) := goodIn_app (goodIn_of _ (by decide +kernel)) ggX2_cutsBlack_X2_shadePart
theorem dX2_cutsBlack_0 : decode cX2_cutsBlack 0 = .ok (.aload_n 0, 1) := by decide +kernel
theorem dX2_cutsBlack_1 : decode cX2_cutsBlack 1 = .ok (.aload_n 0, 1) := by decide +kernel
theorem dX2_cutsBlack_2 : decode cX2_cutsBlack 2 = .ok (.getfield 15, 3) := by decide +kernel
theorem dX2_cutsBlack_5 : decode cX2_cutsBlack 5 = .ok (.getfield 219, 3) := by decide +kernel
theorem dX2_cutsBlack_8 : decode cX2_cutsBlack 8 = .ok (.invokestatic 130, 3) := by decide +kernel
theorem dX2_cutsBlack_11 : decode cX2_cutsBlack 11 = .ok (.aload_n 0, 1) := by decide +kernel
theorem dX2_cutsBlack_12 : decode cX2_cutsBlack 12 = .ok (.getfield 9, 3) := by decide +kernel
theorem dX2_cutsBlack_15 : decode cX2_cutsBlack 15 = .ok (.getfield 222, 3) := by decide +kernel
theorem dX2_cutsBlack_18 : decode cX2_cutsBlack 18 = .ok (.aload_n 0, 1) := by decide +kernel
theorem dX2_cutsBlack_19 : decode cX2_cutsBlack 19 = .ok (.getfield 15, 3) := by decide +kernel
theorem dX2_cutsBlack_22 : decode cX2_cutsBlack 22 = .ok (.getfield 225, 3) := by decide +kernel
theorem dX2_cutsBlack_25 : decode cX2_cutsBlack 25 = .ok (.ldc2_w 113, 3) := by decide +kernel
theorem dX2_cutsBlack_28 : decode cX2_cutsBlack 28 = .ok (.lxor, 1) := by decide +kernel
theorem dX2_cutsBlack_29 : decode cX2_cutsBlack 29 = .ok (.land, 1) := by decide +kernel
theorem dX2_cutsBlack_30 : decode cX2_cutsBlack 30 = .ok (.iload_n 1, 1) := by decide +kernel
