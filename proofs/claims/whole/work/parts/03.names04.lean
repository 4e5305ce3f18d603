theorem dX2_cutsBlack_31 : decode cX2_cutsBlack 31 = .ok (.invokestatic 145, 3) := by decide +kernel
theorem dX2_cutsBlack_34 : decode cX2_cutsBlack 34 = .ok (.ldc2_w 113, 3) := by decide +kernel
theorem dX2_cutsBlack_37 : decode cX2_cutsBlack 37 = .ok (.lxor, 1) := by decide +kernel
theorem dX2_cutsBlack_38 : decode cX2_cutsBlack 38 = .ok (.land, 1) := by decide +kernel
theorem dX2_cutsBlack_39 : decode cX2_cutsBlack 39 = .ok (.invokevirtual 232, 3) := by decide +kernel
theorem dX2_cutsBlack_42 : decode cX2_cutsBlack 42 = .ok (.lstore_n 2, 1) := by decide +kernel
theorem dX2_cutsBlack_43 : decode cX2_cutsBlack 43 = .ok (.aload_n 0, 1) := by decide +kernel
theorem dX2_cutsBlack_44 : decode cX2_cutsBlack 44 = .ok (.getfield 15, 3) := by decide +kernel
theorem dX2_cutsBlack_47 : decode cX2_cutsBlack 47 = .ok (.getfield 219, 3) := by decide +kernel
theorem dX2_cutsBlack_50 : decode cX2_cutsBlack 50 = .ok (.lload_n 2, 1) := by decide +kernel
theorem dX2_cutsBlack_51 : decode cX2_cutsBlack 51 = .ok (.ldc2_w 113, 3) := by decide +kernel
theorem dX2_cutsBlack_54 : decode cX2_cutsBlack 54 = .ok (.lxor, 1) := by decide +kernel
theorem dX2_cutsBlack_55 : decode cX2_cutsBlack 55 = .ok (.land, 1) := by decide +kernel
theorem dX2_cutsBlack_56 : decode cX2_cutsBlack 56 = .ok (.lconst 0, 1) := by decide +kernel
theorem dX2_cutsBlack_57 : decode cX2_cutsBlack 57 = .ok (.lcmp, 1) := by decide +kernel
theorem dX2_cutsBlack_58 : decode cX2_cutsBlack 58 = .ok (.ifCond .eq 7, 3) := by decide +kernel
theorem dX2_cutsBlack_61 : decode cX2_cutsBlack 61 = .ok (.iconst 1, 1) := by decide +kernel
theorem dX2_cutsBlack_62 : decode cX2_cutsBlack 62 = .ok (.goto 4, 3) := by decide +kernel
theorem dX2_cutsBlack_65 : decode cX2_cutsBlack 65 = .ok (.iconst 0, 1) := by decide +kernel
theorem dX2_cutsBlack_66 : decode cX2_cutsBlack 66 = .ok (.ireturn, 1) := by decide +kernel
set_option maxRecDepth 20000 in
theorem ggX2_shadePart_X5_only : GoodIn wsX2_shadePart wsX5_only := goodIn_r _ [9] (by decide +kernel) (by decide +kernel)
set_option maxRecDepth 20000 in
theorem gX2_shadePart_X5_only_n145 : GoodIn wsX2_shadePart (wsX5_only) := ggX2_shadePart_X5_only
set_option maxRecDepth 20000 in
theorem ggX2_shadePart_X0_reach : GoodIn wsX2_shadePart wsX0_reach := goodIn_r _ [14, 15, 16, 17, 13, 18, 19, 20, 21, 39, 40, 41] (by decide +kernel) (by decide +kernel)
set_option maxRecDepth 20000 in
theorem gX2_shadePart_X0_reach : GoodIn wsX2_shadePart (wsV RX2 149 RX0 yX0_reach wsX0_reach) := goodIn_app (goodIn_of _ (by decide +kernel)) ggX2_shadePart_X0_reach
theorem dX2_shadePart_0 : decode cX2_shadePart 0 = .ok (.aload_n 0, 1) := by decide +kernel
theorem dX2_shadePart_1 : decode cX2_shadePart 1 = .ok (.getfield 41, 3) := by decide +kernel
theorem dX2_shadePart_4 : decode cX2_shadePart 4 = .ok (.aload_n 0, 1) := by decide +kernel
theorem dX2_shadePart_5 : decode cX2_shadePart 5 = .ok (.getfield 9, 3) := by decide +kernel
theorem dX2_shadePart_8 : decode cX2_shadePart 8 = .ok (.getfield 84, 3) := by decide +kernel
theorem dX2_shadePart_11 : decode cX2_shadePart 11 = .ok (.getfield 157, 3) := by decide +kernel
theorem dX2_shadePart_14 : decode cX2_shadePart 14 = .ok (.lload_n 2, 1) := by decide +kernel
theorem dX2_shadePart_15 : decode cX2_shadePart 15 = .ok (.land, 1) := by decide +kernel
theorem dX2_shadePart_16 : decode cX2_shadePart 16 = .ok (.lload_n 2, 1) := by decide +kernel
theorem dX2_shadePart_17 : decode cX2_shadePart 17 = .ok (.iconst 1, 1) := by decide +kernel
theorem dX2_shadePart_18 : decode cX2_shadePart 18 = .ok (.lushr, 1) := by decide +kernel
theorem dX2_shadePart_19 : decode cX2_shadePart 19 = .ok (.land, 1) := by decide +kernel
theorem dX2_shadePart_20 : decode cX2_shadePart 20 = .ok (.putfield 157, 3) := by decide +kernel
theorem dX2_shadePart_23 : decode cX2_shadePart 23 = .ok (.aload_n 0, 1) := by decide +kernel
theorem dX2_shadePart_24 : decode cX2_shadePart 24 = .ok (.getfield 41, 3) := by decide +kernel
theorem dX2_shadePart_27 : decode cX2_shadePart 27 = .ok (.aload_n 0, 1) := by decide +kernel
theorem dX2_shadePart_28 : decode cX2_shadePart 28 = .ok (.getfield 9, 3) := by decide +kernel
theorem dX2_shadePart_31 : decode cX2_shadePart 31 = .ok (.getfield 84, 3) := by decide +kernel
theorem dX2_shadePart_34 : decode cX2_shadePart 34 = .ok (.getfield 160, 3) := by decide +kernel
theorem dX2_shadePart_37 : decode cX2_shadePart 37 = .ok (.lload_n 2, 1) := by decide +kernel
theorem dX2_shadePart_38 : decode cX2_shadePart 38 = .ok (.land, 1) := by decide +kernel
theorem dX2_shadePart_39 : decode cX2_shadePart 39 = .ok (.lload_n 2, 1) := by decide +kernel
theorem dX2_shadePart_40 : decode cX2_shadePart 40 = .ok (.aload_n 0, 1) := by decide +kernel
theorem dX2_shadePart_41 : decode cX2_shadePart 41 = .ok (.getfield 9, 3) := by decide +kernel
theorem dX2_shadePart_44 : decode cX2_shadePart 44 = .ok (.getfield 25, 3) := by decide +kernel
theorem dX2_shadePart_47 : decode cX2_shadePart 47 = .ok (.lushr, 1) := by decide +kernel
theorem dX2_shadePart_48 : decode cX2_shadePart 48 = .ok (.land, 1) := by decide +kernel
theorem dX2_shadePart_49 : decode cX2_shadePart 49 = .ok (.putfield 160, 3) := by decide +kernel
theorem dX2_shadePart_52 : decode cX2_shadePart 52 = .ok (.aload_n 0, 1) := by decide +kernel
theorem dX2_shadePart_53 : decode cX2_shadePart 53 = .ok (.getfield 41, 3) := by decide +kernel
theorem dX2_shadePart_56 : decode cX2_shadePart 56 = .ok (.iload_n 1, 1) := by decide +kernel
theorem dX2_shadePart_57 : decode cX2_shadePart 57 = .ok (.invokestatic 145, 3) := by decide +kernel
theorem dX2_shadePart_60 : decode cX2_shadePart 60 = .ok (.invokevirtual 149, 3) := by decide +kernel
theorem dX2_shadePart_63 : decode cX2_shadePart 63 = .ok (.lreturn, 1) := by decide +kernel
theorem dX2_openShades_0 : decode cX2_openShades 0 = .ok (.aload_n 0, 1) := by decide +kernel
theorem dX2_openShades_1 : decode cX2_openShades 1 = .ok (.getfield 9, 3) := by decide +kernel
theorem dX2_openShades_4 : decode cX2_openShades 4 = .ok (.getfield 222, 3) := by decide +kernel
theorem dX2_openShades_7 : decode cX2_openShades 7 = .ok (.aload_n 0, 1) := by decide +kernel
theorem dX2_openShades_8 : decode cX2_openShades 8 = .ok (.getfield 15, 3) := by decide +kernel
theorem dX2_openShades_11 : decode cX2_openShades 11 = .ok (.getfield 219, 3) := by decide +kernel
theorem dX2_openShades_14 : decode cX2_openShades 14 = .ok (.ldc2_w 113, 3) := by decide +kernel
theorem dX2_openShades_17 : decode cX2_openShades 17 = .ok (.lxor, 1) := by decide +kernel
theorem dX2_openShades_18 : decode cX2_openShades 18 = .ok (.land, 1) := by decide +kernel
theorem dX2_openShades_19 : decode cX2_openShades 19 = .ok (.aload_n 0, 1) := by decide +kernel
theorem dX2_openShades_20 : decode cX2_openShades 20 = .ok (.getfield 15, 3) := by decide +kernel
theorem dX2_openShades_23 : decode cX2_openShades 23 = .ok (.getfield 225, 3) := by decide +kernel
theorem dX2_openShades_26 : decode cX2_openShades 26 = .ok (.ldc2_w 113, 3) := by decide +kernel
theorem dX2_openShades_29 : decode cX2_openShades 29 = .ok (.lxor, 1) := by decide +kernel
theorem dX2_openShades_30 : decode cX2_openShades 30 = .ok (.land, 1) := by decide +kernel
theorem dX2_openShades_31 : decode cX2_openShades 31 = .ok (.lreturn, 1) := by decide +kernel
set_option maxRecDepth 20000 in
theorem ggX2_wrongAt_X4_begin : GoodIn wsX2_wrongAt wsX4_begin := goodIn_r _ [8, 9, 10, 11, 12, 13, 14, 15, 7, 16, 35, 36, 37, 38, 39] (by decide +kernel) (by decide +kernel)
set_option maxRecDepth 20000 in
theorem gX2_wrongAt_X4_begin : GoodIn wsX2_wrongAt (wsV RX2 245 RX4 yX4_begin wsX4_begin) := goodIn_app (goodIn_of _ (by decide +kernel)) ggX2_wrongAt_X4_begin
theorem dX2_wrongAt_0 : decode cX2_wrongAt 0 = .ok (.aload_n 0, 1) := by decide +kernel
theorem dX2_wrongAt_1 : decode cX2_wrongAt 1 = .ok (.getfield 19, 3) := by decide +kernel
theorem dX2_wrongAt_4 : decode cX2_wrongAt 4 = .ok (.iload_n 1, 1) := by decide +kernel
theorem dX2_wrongAt_5 : decode cX2_wrongAt 5 = .ok (.iload_n 2, 1) := by decide +kernel
theorem dX2_wrongAt_6 : decode cX2_wrongAt 6 = .ok (.invokevirtual 245, 3) := by decide +kernel
theorem dX2_wrongAt_9 : decode cX2_wrongAt 9 = .ok (.aload_n 0, 1) := by decide +kernel
theorem dX2_wrongAt_10 : decode cX2_wrongAt 10 = .ok (.getfield 15, 3) := by decide +kernel
theorem dX2_wrongAt_13 : decode cX2_wrongAt 13 = .ok (.iconst 1, 1) := by decide +kernel
theorem dX2_wrongAt_14 : decode cX2_wrongAt 14 = .ok (.putfield 251, 3) := by decide +kernel
theorem dX2_wrongAt_17 : decode cX2_wrongAt 17 = .ok (.iconst 1, 1) := by decide +kernel
theorem dX2_wrongAt_18 : decode cX2_wrongAt 18 = .ok (.ireturn, 1) := by decide +kernel
set_option maxRecDepth 20000 in
theorem ggX2_setOpenEdgesOf_X4_begin : GoodIn wsX2_setOpenEdgesOf wsX4_begin := goodIn_r _ [8, 9, 10, 11, 12, 13, 14, 15, 7, 16, 82, 83, 84, 85, 86] (by decide +kernel) (by decide +kernel)
set_option maxRecDepth 20000 in
theorem gX2_setOpenEdgesOf_X4_begin : GoodIn wsX2_setOpenEdgesOf (wsV RX2 245 RX4 yX4_begin wsX4_begin) := goodIn_app (goodIn_of _ (by decide +kernel)) ggX2_setOpenEdgesOf_X4_begin
set_option maxRecDepth 20000 in
theorem ggX2_setOpenEdgesOf_X1_edgeOf : GoodIn wsX2_setOpenEdgesOf wsX1_edgeOf := goodIn_r _ [21, 22, 23, 24, 25, 20, 26, 27, 28, 29, 30, 31, 32, 33, 34, 35, 36, 37, 38, 39, 40, 41, 42, 43, 44, 87, 88, 89, 90, 91, 92, 93, 94, 95, 96] (by decide +kernel) (by decide +kernel)
set_option maxRecDepth 20000 in
theorem gX2_setOpenEdgesOf_X1_edgeOf : GoodIn wsX2_setOpenEdgesOf (wsV RX2 255 RX1 yX1_edgeOf wsX1_edgeOf) := goodIn_app (goodIn_of _ (by decide +kernel)) ggX2_setOpenEdgesOf_X1_edgeOf
set_option maxRecDepth 20000 in
theorem ggX2_setOpenEdgesOf_X0_has : GoodIn wsX2_setOpenEdgesOf wsX0_has := goodIn_r _ [33, 34, 35, 36, 37, 32, 38, 39, 40, 20, 41, 42, 43, 44, 94, 95, 96] (by decide +kernel) (by decide +kernel)
set_option maxRecDepth 20000 in
theorem gX2_setOpenEdgesOf_X0_has : GoodIn wsX2_setOpenEdgesOf (wsV RX2 166 RX0 yX0_has wsX0_has) := goodIn_app (goodIn_of _ (by decide +kernel)) ggX2_setOpenEdgesOf_X0_has
set_option maxRecDepth 20000 in
theorem ggX2_setOpenEdgesOf_X2_changeEdge : GoodIn wsX2_setOpenEdgesOf wsX2_changeEdge := goodIn_r _ [50, 51, 1, 52, 53, 54, 55, 56, 57, 58, 59, 60, 61, 32, 62, 34, 35, 36, 37, 38, 39, 40, 20, 41, 42, 43, 44, 63, 64, 65, 7, 66, 9, 12, 67, 68, 69, 70, 71, 10, 72, 73, 74, 75, 76, 77, 78, 79, 80, 81, 97, 98, 99, 100, 101, 102, 103, 104, 94, 95, 96, 82, 83, 84, 85, 86] (by decide +kernel) (by decide +kernel)
set_option maxRecDepth 20000 in
theorem gX2_setOpenEdgesOf_X2_changeEdge : GoodIn wsX2_setOpenEdgesOf (wsV RX2 259 RX2 yX2_changeEdge wsX2_changeEdge) := goodIn_app (goodIn_of _ (by decide +kernel)) ggX2_setOpenEdgesOf_X2_changeEdge
theorem dX2_setOpenEdgesOf_0 : decode cX2_setOpenEdgesOf 0 = .ok (.aload_n 0, 1) := by decide +kernel
theorem dX2_setOpenEdgesOf_1 : decode cX2_setOpenEdgesOf 1 = .ok (.getfield 19, 3) := by decide +kernel
theorem dX2_setOpenEdgesOf_4 : decode cX2_setOpenEdgesOf 4 = .ok (.iload_n 1, 1) := by decide +kernel
theorem dX2_setOpenEdgesOf_5 : decode cX2_setOpenEdgesOf 5 = .ok (.iload_n 2, 1) := by decide +kernel
theorem dX2_setOpenEdgesOf_6 : decode cX2_setOpenEdgesOf 6 = .ok (.invokevirtual 245, 3) := by decide +kernel
theorem dX2_setOpenEdgesOf_9 : decode cX2_setOpenEdgesOf 9 = .ok (.iconst 0, 1) := by decide +kernel
theorem dX2_setOpenEdgesOf_10 : decode cX2_setOpenEdgesOf 10 = .ok (.istore 4, 2) := by decide +kernel
theorem dX2_setOpenEdgesOf_12 : decode cX2_setOpenEdgesOf 12 = .ok (.iload 4, 2) := by decide +kernel
theorem dX2_setOpenEdgesOf_14 : decode cX2_setOpenEdgesOf 14 = .ok (.iconst 4, 1) := by decide +kernel
theorem dX2_setOpenEdgesOf_15 : decode cX2_setOpenEdgesOf 15 = .ok (.if_icmp .ge 46, 3) := by decide +kernel
theorem dX2_setOpenEdgesOf_18 : decode cX2_setOpenEdgesOf 18 = .ok (.aload_n 0, 1) := by decide +kernel
theorem dX2_setOpenEdgesOf_19 : decode cX2_setOpenEdgesOf 19 = .ok (.getfield 9, 3) := by decide +kernel
theorem dX2_setOpenEdgesOf_22 : decode cX2_setOpenEdgesOf 22 = .ok (.iload_n 2, 1) := by decide +kernel
theorem dX2_setOpenEdgesOf_23 : decode cX2_setOpenEdgesOf 23 = .ok (.iload 4, 2) := by decide +kernel
theorem dX2_setOpenEdgesOf_25 : decode cX2_setOpenEdgesOf 25 = .ok (.invokevirtual 255, 3) := by decide +kernel
theorem dX2_setOpenEdgesOf_28 : decode cX2_setOpenEdgesOf 28 = .ok (.istore 5, 2) := by decide +kernel
theorem dX2_setOpenEdgesOf_30 : decode cX2_setOpenEdgesOf 30 = .ok (.iload 5, 2) := by decide +kernel
theorem dX2_setOpenEdgesOf_32 : decode cX2_setOpenEdgesOf 32 = .ok (.iconst (-1), 1) := by decide +kernel
theorem dX2_setOpenEdgesOf_33 : decode cX2_setOpenEdgesOf 33 = .ok (.if_icmp .eq 22, 3) := by decide +kernel
theorem dX2_setOpenEdgesOf_36 : decode cX2_setOpenEdgesOf 36 = .ok (.aload_n 0, 1) := by decide +kernel
theorem dX2_setOpenEdgesOf_37 : decode cX2_setOpenEdgesOf 37 = .ok (.getfield 34, 3) := by decide +kernel
theorem dX2_setOpenEdgesOf_40 : decode cX2_setOpenEdgesOf 40 = .ok (.iload 5, 2) := by decide +kernel
theorem dX2_setOpenEdgesOf_42 : decode cX2_setOpenEdgesOf 42 = .ok (.invokevirtual 166, 3) := by decide +kernel
theorem dX2_setOpenEdgesOf_45 : decode cX2_setOpenEdgesOf 45 = .ok (.ifCond .eq 10, 3) := by decide +kernel
theorem dX2_setOpenEdgesOf_48 : decode cX2_setOpenEdgesOf 48 = .ok (.aload_n 0, 1) := by decide +kernel
theorem dX2_setOpenEdgesOf_49 : decode cX2_setOpenEdgesOf 49 = .ok (.iload 5, 2) := by decide +kernel
theorem dX2_setOpenEdgesOf_51 : decode cX2_setOpenEdgesOf 51 = .ok (.iload_n 3, 1) := by decide +kernel
theorem dX2_setOpenEdgesOf_52 : decode cX2_setOpenEdgesOf 52 = .ok (.invokevirtual 259, 3) := by decide +kernel
theorem dX2_setOpenEdgesOf_55 : decode cX2_setOpenEdgesOf 55 = .ok (.iinc 4 1, 3) := by decide +kernel
theorem dX2_setOpenEdgesOf_58 : decode cX2_setOpenEdgesOf 58 = .ok (.goto (-46), 3) := by decide +kernel
theorem dX2_setOpenEdgesOf_61 : decode cX2_setOpenEdgesOf 61 = .ok (.iconst 1, 1) := by decide +kernel
theorem dX2_setOpenEdgesOf_62 : decode cX2_setOpenEdgesOf 62 = .ok (.ireturn, 1) := by decide +kernel
set_option maxRecDepth 20000 in
theorem ggX2_setOneEdge_X4_begin : GoodIn wsX2_setOneEdge wsX4_begin := goodIn_r _ [6, 7, 8, 9, 10, 11, 12, 13, 5, 14, 64, 65, 66, 67, 68] (by decide +kernel) (by decide +kernel)
set_option maxRecDepth 20000 in
theorem gX2_setOneEdge_X4_begin : GoodIn wsX2_setOneEdge (wsV RX2 245 RX4 yX4_begin wsX4_begin) := goodIn_app (goodIn_of _ (by decide +kernel)) ggX2_setOneEdge_X4_begin
set_option maxRecDepth 20000 in
theorem ggX2_setOneEdge_X2_changeEdge : GoodIn wsX2_setOneEdge wsX2_changeEdge := goodIn_r _ [19, 20, 1, 21, 22, 23, 24, 25, 26, 27, 28, 29, 30, 31, 32, 33, 34, 35, 36, 37, 38, 39, 40, 41, 42, 43, 44, 45, 46, 47, 5, 48, 7, 10, 49, 50, 51, 52, 53, 8, 54, 55, 56, 57, 58, 59, 60, 61, 62, 63, 69, 70, 71, 72, 73, 74, 75, 76, 77, 78, 79, 64, 65, 66, 67, 68] (by decide +kernel) (by decide +kernel)
set_option maxRecDepth 20000 in
theorem gX2_setOneEdge_X2_changeEdge : GoodIn wsX2_setOneEdge (wsV RX2 259 RX2 yX2_changeEdge wsX2_changeEdge) := goodIn_app (goodIn_of _ (by decide +kernel)) ggX2_setOneEdge_X2_changeEdge
theorem dX2_setOneEdge_0 : decode cX2_setOneEdge 0 = .ok (.aload_n 0, 1) := by decide +kernel
theorem dX2_setOneEdge_1 : decode cX2_setOneEdge 1 = .ok (.getfield 19, 3) := by decide +kernel
theorem dX2_setOneEdge_4 : decode cX2_setOneEdge 4 = .ok (.iload_n 1, 1) := by decide +kernel
theorem dX2_setOneEdge_5 : decode cX2_setOneEdge 5 = .ok (.iload_n 2, 1) := by decide +kernel
theorem dX2_setOneEdge_6 : decode cX2_setOneEdge 6 = .ok (.invokevirtual 245, 3) := by decide +kernel
theorem dX2_setOneEdge_9 : decode cX2_setOneEdge 9 = .ok (.aload_n 0, 1) := by decide +kernel
theorem dX2_setOneEdge_10 : decode cX2_setOneEdge 10 = .ok (.iload_n 3, 1) := by decide +kernel
theorem dX2_setOneEdge_11 : decode cX2_setOneEdge 11 = .ok (.iload 4, 2) := by decide +kernel
theorem dX2_setOneEdge_13 : decode cX2_setOneEdge 13 = .ok (.invokevirtual 259, 3) := by decide +kernel
theorem dX2_setOneEdge_16 : decode cX2_setOneEdge 16 = .ok (.iconst 1, 1) := by decide +kernel
theorem dX2_setOneEdge_17 : decode cX2_setOneEdge 17 = .ok (.ireturn, 1) := by decide +kernel
set_option maxRecDepth 20000 in
theorem ggX2_changeEdge_X3_setEdge : GoodIn wsX2_changeEdge wsX3_setEdge := goodIn_r _ [7, 8, 9, 10, 11, 12, 13, 14, 15, 16, 17, 18, 19, 20, 21, 22, 23, 24, 25, 26, 50, 51, 52, 53, 54, 55, 56, 57, 58, 59, 60] (by decide +kernel) (by decide +kernel)
set_option maxRecDepth 20000 in
theorem gX2_changeEdge_X3_setEdge : GoodIn wsX2_changeEdge (wsV RX2 263 RX3 yX3_setEdge wsX3_setEdge) := goodIn_app (goodIn_of _ (by decide +kernel)) ggX2_changeEdge_X3_setEdge
set_option maxRecDepth 20000 in
theorem ggX2_changeEdge_X4_addChange : GoodIn wsX2_changeEdge wsX4_addChange := goodIn_r _ [31, 32, 33, 34, 35, 36, 37, 30, 38, 39, 61, 62, 63, 64, 65] (by decide +kernel) (by decide +kernel)
set_option maxRecDepth 20000 in
theorem gX2_changeEdge_X4_addChange : GoodIn wsX2_changeEdge (wsV RX2 266 RX4 yX4_addChange wsX4_addChange) := goodIn_app (goodIn_of _ (by decide +kernel)) ggX2_changeEdge_X4_addChange
theorem dX2_changeEdge_0 : decode cX2_changeEdge 0 = .ok (.aload_n 0, 1) := by decide +kernel
theorem dX2_changeEdge_1 : decode cX2_changeEdge 1 = .ok (.getfield 15, 3) := by decide +kernel
theorem dX2_changeEdge_4 : decode cX2_changeEdge 4 = .ok (.iload_n 1, 1) := by decide +kernel
theorem dX2_changeEdge_5 : decode cX2_changeEdge 5 = .ok (.iload_n 2, 1) := by decide +kernel
theorem dX2_changeEdge_6 : decode cX2_changeEdge 6 = .ok (.invokevirtual 263, 3) := by decide +kernel
theorem dX2_changeEdge_9 : decode cX2_changeEdge 9 = .ok (.aload_n 0, 1) := by decide +kernel
theorem dX2_changeEdge_10 : decode cX2_changeEdge 10 = .ok (.getfield 19, 3) := by decide +kernel
theorem dX2_changeEdge_13 : decode cX2_changeEdge 13 = .ok (.iload_n 1, 1) := by decide +kernel
theorem dX2_changeEdge_14 : decode cX2_changeEdge 14 = .ok (.iload_n 2, 1) := by decide +kernel
theorem dX2_changeEdge_15 : decode cX2_changeEdge 15 = .ok (.invokevirtual 266, 3) := by decide +kernel
theorem dX2_changeEdge_18 : decode cX2_changeEdge 18 = .ok (.return_, 1) := by decide +kernel
set_option maxRecDepth 20000 in
theorem ggX2_setOpenShades_X4_begin : GoodIn wsX2_setOpenShades wsX4_begin := goodIn_r _ [8, 9, 10, 11, 12, 13, 14, 15, 7, 16, 70, 71, 72, 73, 74] (by decide +kernel) (by decide +kernel)
set_option maxRecDepth 20000 in
theorem gX2_setOpenShades_X4_begin : GoodIn wsX2_setOpenShades (wsV RX2 245 RX4 yX4_begin wsX4_begin) := goodIn_app (goodIn_of _ (by decide +kernel)) ggX2_setOpenShades_X4_begin
set_option maxRecDepth 20000 in
theorem ggX2_setOpenShades_X2_openShades : GoodIn wsX2_setOpenShades wsX2_openShades := goodIn_r _ [21, 2, 22, 23, 24, 25, 26, 53, 54, 55, 56, 57, 58, 59, 60, 61, 62, 63, 64, 65, 66, 67, 68, 69, 75, 76, 77, 78, 79, 80, 81, 82] (by decide +kernel) (by decide +kernel)
set_option maxRecDepth 20000 in
theorem gX2_setOpenShades_X2_openShades : GoodIn wsX2_setOpenShades (wsV RX2 236 RX2 yX2_openShades wsX2_openShades) := goodIn_app (goodIn_of _ (by decide +kernel)) ggX2_setOpenShades_X2_openShades
set_option maxRecDepth 20000 in
theorem ggX2_setOpenShades_X5_holds : GoodIn wsX2_setOpenShades wsX5_holds := goodIn_r _ [29, 30, 31, 28, 32] (by decide +kernel) (by decide +kernel)
set_option maxRecDepth 20000 in
theorem gX2_setOpenShades_X5_holds_n184 : GoodIn wsX2_setOpenShades (wsX5_holds) := ggX2_setOpenShades_X5_holds
set_option maxRecDepth 20000 in
theorem ggX2_setOpenShades_X2_changeShade : GoodIn wsX2_setOpenShades wsX2_changeShade := goodIn_r _ [36, 23, 1, 37, 38, 39, 40, 41, 42, 43, 31, 28, 32, 44, 45, 46, 7, 47, 9, 12, 48, 49, 50, 51, 52, 10, 53, 54, 55, 56, 57, 58, 59, 60, 61, 62, 75, 76, 77, 78, 79, 80, 81, 82, 70, 71, 72, 73, 74] (by decide +kernel) (by decide +kernel)
set_option maxRecDepth 20000 in
theorem gX2_setOpenShades_X2_changeShade : GoodIn wsX2_setOpenShades (wsV RX2 269 RX2 yX2_changeShade wsX2_changeShade) := goodIn_app (goodIn_of _ (by decide +kernel)) ggX2_setOpenShades_X2_changeShade
theorem dX2_setOpenShades_0 : decode cX2_setOpenShades 0 = .ok (.aload_n 0, 1) := by decide +kernel
theorem dX2_setOpenShades_1 : decode cX2_setOpenShades 1 = .ok (.getfield 19, 3) := by decide +kernel
theorem dX2_setOpenShades_4 : decode cX2_setOpenShades 4 = .ok (.bipush 10, 2) := by decide +kernel
theorem dX2_setOpenShades_6 : decode cX2_setOpenShades 6 = .ok (.iconst 0, 1) := by decide +kernel
theorem dX2_setOpenShades_7 : decode cX2_setOpenShades 7 = .ok (.invokevirtual 245, 3) := by decide +kernel
theorem dX2_setOpenShades_10 : decode cX2_setOpenShades 10 = .ok (.aload_n 0, 1) := by decide +kernel
theorem dX2_setOpenShades_11 : decode cX2_setOpenShades 11 = .ok (.invokevirtual 236, 3) := by decide +kernel
theorem dX2_setOpenShades_14 : decode cX2_setOpenShades 14 = .ok (.lstore_n 2, 1) := by decide +kernel
theorem dX2_setOpenShades_15 : decode cX2_setOpenShades 15 = .ok (.iconst 0, 1) := by decide +kernel
theorem dX2_setOpenShades_16 : decode cX2_setOpenShades 16 = .ok (.istore 4, 2) := by decide +kernel
theorem dX2_setOpenShades_18 : decode cX2_setOpenShades 18 = .ok (.iload 4, 2) := by decide +kernel
theorem dX2_setOpenShades_20 : decode cX2_setOpenShades 20 = .ok (.aload_n 0, 1) := by decide +kernel
theorem dX2_setOpenShades_21 : decode cX2_setOpenShades 21 = .ok (.getfield 9, 3) := by decide +kernel
theorem dX2_setOpenShades_24 : decode cX2_setOpenShades 24 = .ok (.getfield 142, 3) := by decide +kernel
theorem dX2_setOpenShades_27 : decode cX2_setOpenShades 27 = .ok (.if_icmp .ge 25, 3) := by decide +kernel
theorem dX2_setOpenShades_30 : decode cX2_setOpenShades 30 = .ok (.lload_n 2, 1) := by decide +kernel
theorem dX2_setOpenShades_31 : decode cX2_setOpenShades 31 = .ok (.iload 4, 2) := by decide +kernel
theorem dX2_setOpenShades_33 : decode cX2_setOpenShades 33 = .ok (.invokestatic 184, 3) := by decide +kernel
theorem dX2_setOpenShades_36 : decode cX2_setOpenShades 36 = .ok (.ifCond .eq 10, 3) := by decide +kernel
theorem dX2_setOpenShades_39 : decode cX2_setOpenShades 39 = .ok (.aload_n 0, 1) := by decide +kernel
theorem dX2_setOpenShades_40 : decode cX2_setOpenShades 40 = .ok (.iload 4, 2) := by decide +kernel
theorem dX2_setOpenShades_42 : decode cX2_setOpenShades 42 = .ok (.iload_n 1, 1) := by decide +kernel
theorem dX2_setOpenShades_43 : decode cX2_setOpenShades 43 = .ok (.invokevirtual 269, 3) := by decide +kernel
theorem dX2_setOpenShades_46 : decode cX2_setOpenShades 46 = .ok (.iinc 4 1, 3) := by decide +kernel
theorem dX2_setOpenShades_49 : decode cX2_setOpenShades 49 = .ok (.goto (-31), 3) := by decide +kernel
theorem dX2_setOpenShades_52 : decode cX2_setOpenShades 52 = .ok (.iconst 1, 1) := by decide +kernel
theorem dX2_setOpenShades_53 : decode cX2_setOpenShades 53 = .ok (.ireturn, 1) := by decide +kernel
set_option maxRecDepth 20000 in
theorem ggX2_setOneShade_X4_begin : GoodIn wsX2_setOneShade wsX4_begin := goodIn_r _ [6, 7, 8, 9, 10, 11, 12, 13, 5, 14, 50, 51, 52, 53, 54] (by decide +kernel) (by decide +kernel)
set_option maxRecDepth 20000 in
theorem gX2_setOneShade_X4_begin : GoodIn wsX2_setOneShade (wsV RX2 245 RX4 yX4_begin wsX4_begin) := goodIn_app (goodIn_of _ (by decide +kernel)) ggX2_setOneShade_X4_begin
set_option maxRecDepth 20000 in
theorem ggX2_setOneShade_X2_changeShade : GoodIn wsX2_setOneShade wsX2_changeShade := goodIn_r _ [19, 20, 1, 21, 22, 23, 24, 25, 26, 27, 28, 29, 30, 31, 32, 33, 5, 34, 7, 10, 35, 36, 37, 38, 39, 8, 40, 41, 42, 43, 44, 45, 46, 47, 48, 49, 55, 56, 57, 58, 59, 60, 61, 62, 50, 51, 52, 53, 54] (by decide +kernel) (by decide +kernel)
set_option maxRecDepth 20000 in
theorem gX2_setOneShade_X2_changeShade : GoodIn wsX2_setOneShade (wsV RX2 269 RX2 yX2_changeShade wsX2_changeShade) := goodIn_app (goodIn_of _ (by decide +kernel)) ggX2_setOneShade_X2_changeShade
theorem dX2_setOneShade_0 : decode cX2_setOneShade 0 = .ok (.aload_n 0, 1) := by decide +kernel
theorem dX2_setOneShade_1 : decode cX2_setOneShade 1 = .ok (.getfield 19, 3) := by decide +kernel
theorem dX2_setOneShade_4 : decode cX2_setOneShade 4 = .ok (.iload_n 1, 1) := by decide +kernel
theorem dX2_setOneShade_5 : decode cX2_setOneShade 5 = .ok (.iload_n 2, 1) := by decide +kernel
theorem dX2_setOneShade_6 : decode cX2_setOneShade 6 = .ok (.invokevirtual 245, 3) := by decide +kernel
theorem dX2_setOneShade_9 : decode cX2_setOneShade 9 = .ok (.aload_n 0, 1) := by decide +kernel
theorem dX2_setOneShade_10 : decode cX2_setOneShade 10 = .ok (.iload_n 2, 1) := by decide +kernel
theorem dX2_setOneShade_11 : decode cX2_setOneShade 11 = .ok (.iload_n 3, 1) := by decide +kernel
theorem dX2_setOneShade_12 : decode cX2_setOneShade 12 = .ok (.invokevirtual 269, 3) := by decide +kernel
theorem dX2_setOneShade_15 : decode cX2_setOneShade 15 = .ok (.iconst 1, 1) := by decide +kernel
theorem dX2_setOneShade_16 : decode cX2_setOneShade 16 = .ok (.ireturn, 1) := by decide +kernel
set_option maxRecDepth 20000 in
theorem ggX2_changeShade_X3_setShade : GoodIn wsX2_changeShade wsX3_setShade := goodIn_r _ [7, 8, 9, 10, 11, 12, 36, 37, 38, 39, 40, 41, 42, 43] (by decide +kernel) (by decide +kernel)
set_option maxRecDepth 20000 in
theorem gX2_changeShade_X3_setShade : GoodIn wsX2_changeShade (wsV RX2 272 RX3 yX3_setShade wsX3_setShade) := goodIn_app (goodIn_of _ (by decide +kernel)) ggX2_changeShade_X3_setShade
set_option maxRecDepth 20000 in
theorem ggX2_changeShade_X4_addChange : GoodIn wsX2_changeShade wsX4_addChange := goodIn_r _ [17, 18, 19, 20, 21, 22, 23, 16, 24, 25, 44, 45, 46, 47, 48] (by decide +kernel) (by decide +kernel)
set_option maxRecDepth 20000 in
theorem gX2_changeShade_X4_addChange : GoodIn wsX2_changeShade (wsV RX2 266 RX4 yX4_addChange wsX4_addChange) := goodIn_app (goodIn_of _ (by decide +kernel)) ggX2_changeShade_X4_addChange
theorem dX2_changeShade_0 : decode cX2_changeShade 0 = .ok (.aload_n 0, 1) := by decide +kernel
theorem dX2_changeShade_1 : decode cX2_changeShade 1 = .ok (.getfield 15, 3) := by decide +kernel
theorem dX2_changeShade_4 : decode cX2_changeShade 4 = .ok (.iload_n 1, 1) := by decide +kernel
theorem dX2_changeShade_5 : decode cX2_changeShade 5 = .ok (.iload_n 2, 1) := by decide +kernel
theorem dX2_changeShade_6 : decode cX2_changeShade 6 = .ok (.invokevirtual 272, 3) := by decide +kernel
theorem dX2_changeShade_9 : decode cX2_changeShade 9 = .ok (.aload_n 0, 1) := by decide +kernel
theorem dX2_changeShade_10 : decode cX2_changeShade 10 = .ok (.getfield 19, 3) := by decide +kernel
theorem dX2_changeShade_13 : decode cX2_changeShade 13 = .ok (.iload_n 1, 1) := by decide +kernel
theorem dX2_changeShade_14 : decode cX2_changeShade 14 = .ok (.iload_n 2, 1) := by decide +kernel
theorem dX2_changeShade_15 : decode cX2_changeShade 15 = .ok (.invokevirtual 266, 3) := by decide +kernel
theorem dX2_changeShade_18 : decode cX2_changeShade 18 = .ok (.return_, 1) := by decide +kernel
set_option maxRecDepth 20000 in
theorem ggX3_init_X0_init : GoodIn wsX3_init wsX0_init := goodIn_r _ [13, 14, 2, 3, 15, 16, 17, 18] (by decide +kernel) (by decide +kernel)
set_option maxRecDepth 20000 in
theorem gX3_init_X0_init : GoodIn wsX3_init (wsX0_init) := ggX3_init_X0_init
theorem dX3_init_0 : decode cX3_init 0 = .ok (.aload_n 0, 1) := by decide +kernel
theorem dX3_init_1 : decode cX3_init 1 = .ok (.invokespecial 3, 3) := by decide +kernel
theorem dX3_init_4 : decode cX3_init 4 = .ok (.aload_n 0, 1) := by decide +kernel
theorem dX3_init_5 : decode cX3_init 5 = .ok (.new 9, 3) := by decide +kernel
theorem dX3_init_8 : decode cX3_init 8 = .ok (.dup, 1) := by decide +kernel
theorem dX3_init_9 : decode cX3_init 9 = .ok (.aload_n 1, 1) := by decide +kernel
theorem dX3_init_10 : decode cX3_init 10 = .ok (.getfield 11, 3) := by decide +kernel
theorem dX3_init_13 : decode cX3_init 13 = .ok (.invokespecial 17, 3) := by decide +kernel
theorem dX3_init_16 : decode cX3_init 16 = .ok (.putfield 20, 3) := by decide +kernel
theorem dX3_init_19 : decode cX3_init 19 = .ok (.aload_n 0, 1) := by decide +kernel
theorem dX3_init_20 : decode cX3_init 20 = .ok (.new 9, 3) := by decide +kernel
theorem dX3_init_23 : decode cX3_init 23 = .ok (.dup, 1) := by decide +kernel
theorem dX3_init_24 : decode cX3_init 24 = .ok (.aload_n 1, 1) := by decide +kernel
theorem dX3_init_25 : decode cX3_init 25 = .ok (.getfield 11, 3) := by decide +kernel
theorem dX3_init_28 : decode cX3_init 28 = .ok (.invokespecial 17, 3) := by decide +kernel
theorem dX3_init_31 : decode cX3_init 31 = .ok (.putfield 26, 3) := by decide +kernel
theorem dX3_init_34 : decode cX3_init 34 = .ok (.aload_n 0, 1) := by decide +kernel
theorem dX3_init_35 : decode cX3_init 35 = .ok (.iconst (-1), 1) := by decide +kernel
theorem dX3_init_36 : decode cX3_init 36 = .ok (.putfield 29, 3) := by decide +kernel
theorem dX3_init_39 : decode cX3_init 39 = .ok (.return_, 1) := by decide +kernel
set_option maxRecDepth 20000 in
theorem ggX3_copy_X0_copy : GoodIn wsX3_copy wsX0_copy := goodIn_r _ [13, 14, 15, 24, 25, 26] (by decide +kernel) (by decide +kernel)
set_option maxRecDepth 20000 in
theorem gX3_copy_X0_copy : GoodIn wsX3_copy (wsV RX3 32 RX0 yX0_copy wsX0_copy) := goodIn_app (goodIn_of _ (by decide +kernel)) ggX3_copy_X0_copy
theorem dX3_copy_0 : decode cX3_copy 0 = .ok (.aload_n 0, 1) := by decide +kernel
theorem dX3_copy_1 : decode cX3_copy 1 = .ok (.getfield 20, 3) := by decide +kernel
theorem dX3_copy_4 : decode cX3_copy 4 = .ok (.aload_n 1, 1) := by decide +kernel
theorem dX3_copy_5 : decode cX3_copy 5 = .ok (.getfield 20, 3) := by decide +kernel
theorem dX3_copy_8 : decode cX3_copy 8 = .ok (.invokevirtual 32, 3) := by decide +kernel
theorem dX3_copy_11 : decode cX3_copy 11 = .ok (.aload_n 0, 1) := by decide +kernel
theorem dX3_copy_12 : decode cX3_copy 12 = .ok (.getfield 26, 3) := by decide +kernel
theorem dX3_copy_15 : decode cX3_copy 15 = .ok (.aload_n 1, 1) := by decide +kernel
theorem dX3_copy_16 : decode cX3_copy 16 = .ok (.getfield 26, 3) := by decide +kernel
theorem dX3_copy_19 : decode cX3_copy 19 = .ok (.invokevirtual 32, 3) := by decide +kernel
theorem dX3_copy_22 : decode cX3_copy 22 = .ok (.aload_n 0, 1) := by decide +kernel
theorem dX3_copy_23 : decode cX3_copy 23 = .ok (.aload_n 1, 1) := by decide +kernel
theorem dX3_copy_24 : decode cX3_copy 24 = .ok (.getfield 36, 3) := by decide +kernel
theorem dX3_copy_27 : decode cX3_copy 27 = .ok (.putfield 36, 3) := by decide +kernel
theorem dX3_copy_30 : decode cX3_copy 30 = .ok (.aload_n 0, 1) := by decide +kernel
theorem dX3_copy_31 : decode cX3_copy 31 = .ok (.aload_n 1, 1) := by decide +kernel
theorem dX3_copy_32 : decode cX3_copy 32 = .ok (.getfield 40, 3) := by decide +kernel
theorem dX3_copy_35 : decode cX3_copy 35 = .ok (.putfield 40, 3) := by decide +kernel
theorem dX3_copy_38 : decode cX3_copy 38 = .ok (.aload_n 0, 1) := by decide +kernel
theorem dX3_copy_39 : decode cX3_copy 39 = .ok (.aload_n 1, 1) := by decide +kernel
theorem dX3_copy_40 : decode cX3_copy 40 = .ok (.getfield 43, 3) := by decide +kernel
theorem dX3_copy_43 : decode cX3_copy 43 = .ok (.putfield 43, 3) := by decide +kernel
theorem dX3_copy_46 : decode cX3_copy 46 = .ok (.aload_n 0, 1) := by decide +kernel
theorem dX3_copy_47 : decode cX3_copy 47 = .ok (.aload_n 1, 1) := by decide +kernel
theorem dX3_copy_48 : decode cX3_copy 48 = .ok (.getfield 46, 3) := by decide +kernel
theorem dX3_copy_51 : decode cX3_copy 51 = .ok (.putfield 46, 3) := by decide +kernel
theorem dX3_copy_54 : decode cX3_copy 54 = .ok (.aload_n 0, 1) := by decide +kernel
theorem dX3_copy_55 : decode cX3_copy 55 = .ok (.aload_n 1, 1) := by decide +kernel
theorem dX3_copy_56 : decode cX3_copy 56 = .ok (.getfield 29, 3) := by decide +kernel
theorem dX3_copy_59 : decode cX3_copy 59 = .ok (.putfield 29, 3) := by decide +kernel
theorem dX3_copy_62 : decode cX3_copy 62 = .ok (.aload_n 0, 1) := by decide +kernel
theorem dX3_copy_63 : decode cX3_copy 63 = .ok (.aload_n 1, 1) := by decide +kernel
theorem dX3_copy_64 : decode cX3_copy 64 = .ok (.getfield 49, 3) := by decide +kernel
theorem dX3_copy_67 : decode cX3_copy 67 = .ok (.putfield 49, 3) := by decide +kernel
theorem dX3_copy_70 : decode cX3_copy 70 = .ok (.return_, 1) := by decide +kernel
set_option maxRecDepth 20000 in
theorem ggX3_stateOf_X0_has : GoodIn wsX3_stateOf wsX0_has := goodIn_r _ [7, 8, 9, 10, 11, 6, 12, 13, 14, 15, 16, 17, 18, 19, 28, 29, 30] (by decide +kernel) (by decide +kernel)
set_option maxRecDepth 20000 in
theorem gX3_stateOf_X0_has : GoodIn wsX3_stateOf (wsV RX3 53 RX0 yX0_has wsX0_has) := goodIn_app (goodIn_of _ (by decide +kernel)) ggX3_stateOf_X0_has
theorem dX3_stateOf_0 : decode cX3_stateOf 0 = .ok (.aload_n 0, 1) := by decide +kernel
theorem dX3_stateOf_1 : decode cX3_stateOf 1 = .ok (.getfield 20, 3) := by decide +kernel
theorem dX3_stateOf_4 : decode cX3_stateOf 4 = .ok (.iload_n 1, 1) := by decide +kernel
theorem dX3_stateOf_5 : decode cX3_stateOf 5 = .ok (.invokevirtual 53, 3) := by decide +kernel
theorem dX3_stateOf_8 : decode cX3_stateOf 8 = .ok (.ifCond .eq 5, 3) := by decide +kernel
theorem dX3_stateOf_11 : decode cX3_stateOf 11 = .ok (.iconst 1, 1) := by decide +kernel
theorem dX3_stateOf_12 : decode cX3_stateOf 12 = .ok (.ireturn, 1) := by decide +kernel
theorem dX3_stateOf_13 : decode cX3_stateOf 13 = .ok (.aload_n 0, 1) := by decide +kernel
theorem dX3_stateOf_14 : decode cX3_stateOf 14 = .ok (.getfield 26, 3) := by decide +kernel
theorem dX3_stateOf_17 : decode cX3_stateOf 17 = .ok (.iload_n 1, 1) := by decide +kernel
theorem dX3_stateOf_18 : decode cX3_stateOf 18 = .ok (.invokevirtual 53, 3) := by decide +kernel
theorem dX3_stateOf_21 : decode cX3_stateOf 21 = .ok (.ifCond .eq 7, 3) := by decide +kernel
theorem dX3_stateOf_24 : decode cX3_stateOf 24 = .ok (.iconst 2, 1) := by decide +kernel
theorem dX3_stateOf_25 : decode cX3_stateOf 25 = .ok (.goto 4, 3) := by decide +kernel
theorem dX3_stateOf_28 : decode cX3_stateOf 28 = .ok (.iconst 0, 1) := by decide +kernel
theorem dX3_stateOf_29 : decode cX3_stateOf 29 = .ok (.ireturn, 1) := by decide +kernel
set_option maxRecDepth 20000 in
theorem ggX3_setEdge_X0_add : GoodIn wsX3_setEdge wsX0_add := goodIn_r _ [7, 8, 9, 10, 11, 6, 12, 13, 14, 15, 16, 17, 18, 19, 28, 29, 30] (by decide +kernel) (by decide +kernel)
set_option maxRecDepth 20000 in
theorem gX3_setEdge_X0_add : GoodIn wsX3_setEdge (wsV RX3 57 RX0 yX0_add wsX0_add) := goodIn_app (goodIn_of _ (by decide +kernel)) ggX3_setEdge_X0_add
theorem dX3_setEdge_0 : decode cX3_setEdge 0 = .ok (.iload_n 2, 1) := by decide +kernel
theorem dX3_setEdge_1 : decode cX3_setEdge 1 = .ok (.ifCond .eq 14, 3) := by decide +kernel
theorem dX3_setEdge_4 : decode cX3_setEdge 4 = .ok (.aload_n 0, 1) := by decide +kernel
theorem dX3_setEdge_5 : decode cX3_setEdge 5 = .ok (.getfield 20, 3) := by decide +kernel
theorem dX3_setEdge_8 : decode cX3_setEdge 8 = .ok (.iload_n 1, 1) := by decide +kernel
theorem dX3_setEdge_9 : decode cX3_setEdge 9 = .ok (.invokevirtual 57, 3) := by decide +kernel
theorem dX3_setEdge_12 : decode cX3_setEdge 12 = .ok (.goto 11, 3) := by decide +kernel
theorem dX3_setEdge_15 : decode cX3_setEdge 15 = .ok (.aload_n 0, 1) := by decide +kernel
theorem dX3_setEdge_16 : decode cX3_setEdge 16 = .ok (.getfield 26, 3) := by decide +kernel
theorem dX3_setEdge_19 : decode cX3_setEdge 19 = .ok (.iload_n 1, 1) := by decide +kernel
theorem dX3_setEdge_20 : decode cX3_setEdge 20 = .ok (.invokevirtual 57, 3) := by decide +kernel
theorem dX3_setEdge_23 : decode cX3_setEdge 23 = .ok (.return_, 1) := by decide +kernel
set_option maxRecDepth 20000 in
theorem ggX3_dutyOf_X5_holds : GoodIn wsX3_dutyOf wsX5_holds := goodIn_r _ [5, 6, 7, 4, 8] (by decide +kernel) (by decide +kernel)
set_option maxRecDepth 20000 in
theorem gX3_dutyOf_X5_holds_n60 : GoodIn wsX3_dutyOf (wsX5_holds) := ggX3_dutyOf_X5_holds
theorem dX3_dutyOf_0 : decode cX3_dutyOf 0 = .ok (.aload_n 0, 1) := by decide +kernel
theorem dX3_dutyOf_1 : decode cX3_dutyOf 1 = .ok (.getfield 36, 3) := by decide +kernel
theorem dX3_dutyOf_4 : decode cX3_dutyOf 4 = .ok (.iload_n 1, 1) := by decide +kernel
theorem dX3_dutyOf_5 : decode cX3_dutyOf 5 = .ok (.invokestatic 60, 3) := by decide +kernel
theorem dX3_dutyOf_8 : decode cX3_dutyOf 8 = .ok (.ifCond .eq 5, 3) := by decide +kernel
theorem dX3_dutyOf_11 : decode cX3_dutyOf 11 = .ok (.iconst 1, 1) := by decide +kernel
theorem dX3_dutyOf_12 : decode cX3_dutyOf 12 = .ok (.ireturn, 1) := by decide +kernel
theorem dX3_dutyOf_13 : decode cX3_dutyOf 13 = .ok (.aload_n 0, 1) := by decide +kernel
theorem dX3_dutyOf_14 : decode cX3_dutyOf 14 = .ok (.getfield 40, 3) := by decide +kernel
theorem dX3_dutyOf_17 : decode cX3_dutyOf 17 = .ok (.iload_n 1, 1) := by decide +kernel
theorem dX3_dutyOf_18 : decode cX3_dutyOf 18 = .ok (.invokestatic 60, 3) := by decide +kernel
theorem dX3_dutyOf_21 : decode cX3_dutyOf 21 = .ok (.ifCond .eq 7, 3) := by decide +kernel
theorem dX3_dutyOf_24 : decode cX3_dutyOf 24 = .ok (.iconst 2, 1) := by decide +kernel
theorem dX3_dutyOf_25 : decode cX3_dutyOf 25 = .ok (.goto 4, 3) := by decide +kernel
theorem dX3_dutyOf_28 : decode cX3_dutyOf 28 = .ok (.iconst 0, 1) := by decide +kernel
theorem dX3_dutyOf_29 : decode cX3_dutyOf 29 = .ok (.ireturn, 1) := by decide +kernel
set_option maxRecDepth 20000 in
theorem ggX3_setDuty_X5_only : GoodIn wsX3_setDuty wsX5_only := goodIn_r _ [6] (by decide +kernel) (by decide +kernel)
set_option maxRecDepth 20000 in
theorem gX3_setDuty_X5_only_n64 : GoodIn wsX3_setDuty (wsX5_only) := ggX3_setDuty_X5_only
theorem dX3_setDuty_0 : decode cX3_setDuty 0 = .ok (.aload_n 0, 1) := by decide +kernel
theorem dX3_setDuty_1 : decode cX3_setDuty 1 = .ok (.dup, 1) := by decide +kernel
theorem dX3_setDuty_2 : decode cX3_setDuty 2 = .ok (.getfield 36, 3) := by decide +kernel
theorem dX3_setDuty_5 : decode cX3_setDuty 5 = .ok (.iload_n 1, 1) := by decide +kernel
theorem dX3_setDuty_6 : decode cX3_setDuty 6 = .ok (.invokestatic 64, 3) := by decide +kernel
theorem dX3_setDuty_9 : decode cX3_setDuty 9 = .ok (.ldc2_w 68, 3) := by decide +kernel
theorem dX3_setDuty_12 : decode cX3_setDuty 12 = .ok (.lxor, 1) := by decide +kernel
theorem dX3_setDuty_13 : decode cX3_setDuty 13 = .ok (.land, 1) := by decide +kernel
theorem dX3_setDuty_14 : decode cX3_setDuty 14 = .ok (.putfield 36, 3) := by decide +kernel
theorem dX3_setDuty_17 : decode cX3_setDuty 17 = .ok (.aload_n 0, 1) := by decide +kernel
theorem dX3_setDuty_18 : decode cX3_setDuty 18 = .ok (.dup, 1) := by decide +kernel
theorem dX3_setDuty_19 : decode cX3_setDuty 19 = .ok (.getfield 40, 3) := by decide +kernel
theorem dX3_setDuty_22 : decode cX3_setDuty 22 = .ok (.iload_n 1, 1) := by decide +kernel
theorem dX3_setDuty_23 : decode cX3_setDuty 23 = .ok (.invokestatic 64, 3) := by decide +kernel
theorem dX3_setDuty_26 : decode cX3_setDuty 26 = .ok (.ldc2_w 68, 3) := by decide +kernel
theorem dX3_setDuty_29 : decode cX3_setDuty 29 = .ok (.lxor, 1) := by decide +kernel
theorem dX3_setDuty_30 : decode cX3_setDuty 30 = .ok (.land, 1) := by decide +kernel
theorem dX3_setDuty_31 : decode cX3_setDuty 31 = .ok (.putfield 40, 3) := by decide +kernel
theorem dX3_setDuty_34 : decode cX3_setDuty 34 = .ok (.iload_n 2, 1) := by decide +kernel
theorem dX3_setDuty_35 : decode cX3_setDuty 35 = .ok (.iconst 1, 1) := by decide +kernel
theorem dX3_setDuty_36 : decode cX3_setDuty 36 = .ok (.if_icmp .ne 19, 3) := by decide +kernel
theorem dX3_setDuty_39 : decode cX3_setDuty 39 = .ok (.aload_n 0, 1) := by decide +kernel
theorem dX3_setDuty_40 : decode cX3_setDuty 40 = .ok (.dup, 1) := by decide +kernel
theorem dX3_setDuty_41 : decode cX3_setDuty 41 = .ok (.getfield 36, 3) := by decide +kernel
theorem dX3_setDuty_44 : decode cX3_setDuty 44 = .ok (.iload_n 1, 1) := by decide +kernel
theorem dX3_setDuty_45 : decode cX3_setDuty 45 = .ok (.invokestatic 64, 3) := by decide +kernel
theorem dX3_setDuty_48 : decode cX3_setDuty 48 = .ok (.lor, 1) := by decide +kernel
theorem dX3_setDuty_49 : decode cX3_setDuty 49 = .ok (.putfield 36, 3) := by decide +kernel
theorem dX3_setDuty_52 : decode cX3_setDuty 52 = .ok (.goto 21, 3) := by decide +kernel
theorem dX3_setDuty_55 : decode cX3_setDuty 55 = .ok (.iload_n 2, 1) := by decide +kernel
theorem dX3_setDuty_56 : decode cX3_setDuty 56 = .ok (.iconst 2, 1) := by decide +kernel
theorem dX3_setDuty_57 : decode cX3_setDuty 57 = .ok (.if_icmp .ne 16, 3) := by decide +kernel
theorem dX3_setDuty_60 : decode cX3_setDuty 60 = .ok (.aload_n 0, 1) := by decide +kernel
theorem dX3_setDuty_61 : decode cX3_setDuty 61 = .ok (.dup, 1) := by decide +kernel
theorem dX3_setDuty_62 : decode cX3_setDuty 62 = .ok (.getfield 40, 3) := by decide +kernel
theorem dX3_setDuty_65 : decode cX3_setDuty 65 = .ok (.iload_n 1, 1) := by decide +kernel
theorem dX3_setDuty_66 : decode cX3_setDuty 66 = .ok (.invokestatic 64, 3) := by decide +kernel
theorem dX3_setDuty_69 : decode cX3_setDuty 69 = .ok (.lor, 1) := by decide +kernel
theorem dX3_setDuty_70 : decode cX3_setDuty 70 = .ok (.putfield 40, 3) := by decide +kernel
theorem dX3_setDuty_73 : decode cX3_setDuty 73 = .ok (.return_, 1) := by decide +kernel
set_option maxRecDepth 20000 in
theorem ggX3_shadeOf_X5_holds : GoodIn wsX3_shadeOf wsX5_holds := goodIn_r _ [5, 6, 7, 4, 8] (by decide +kernel) (by decide +kernel)
set_option maxRecDepth 20000 in
theorem gX3_shadeOf_X5_holds_n60 : GoodIn wsX3_shadeOf (wsX5_holds) := ggX3_shadeOf_X5_holds
theorem dX3_shadeOf_0 : decode cX3_shadeOf 0 = .ok (.aload_n 0, 1) := by decide +kernel
theorem dX3_shadeOf_1 : decode cX3_shadeOf 1 = .ok (.getfield 43, 3) := by decide +kernel
theorem dX3_shadeOf_4 : decode cX3_shadeOf 4 = .ok (.iload_n 1, 1) := by decide +kernel
theorem dX3_shadeOf_5 : decode cX3_shadeOf 5 = .ok (.invokestatic 60, 3) := by decide +kernel
theorem dX3_shadeOf_8 : decode cX3_shadeOf 8 = .ok (.ifCond .eq 5, 3) := by decide +kernel
theorem dX3_shadeOf_11 : decode cX3_shadeOf 11 = .ok (.iconst 1, 1) := by decide +kernel
theorem dX3_shadeOf_12 : decode cX3_shadeOf 12 = .ok (.ireturn, 1) := by decide +kernel
theorem dX3_shadeOf_13 : decode cX3_shadeOf 13 = .ok (.aload_n 0, 1) := by decide +kernel
theorem dX3_shadeOf_14 : decode cX3_shadeOf 14 = .ok (.getfield 46, 3) := by decide +kernel
theorem dX3_shadeOf_17 : decode cX3_shadeOf 17 = .ok (.iload_n 1, 1) := by decide +kernel
theorem dX3_shadeOf_18 : decode cX3_shadeOf 18 = .ok (.invokestatic 60, 3) := by decide +kernel
theorem dX3_shadeOf_21 : decode cX3_shadeOf 21 = .ok (.ifCond .eq 7, 3) := by decide +kernel
theorem dX3_shadeOf_24 : decode cX3_shadeOf 24 = .ok (.iconst 2, 1) := by decide +kernel
theorem dX3_shadeOf_25 : decode cX3_shadeOf 25 = .ok (.goto 4, 3) := by decide +kernel
theorem dX3_shadeOf_28 : decode cX3_shadeOf 28 = .ok (.iconst 0, 1) := by decide +kernel
theorem dX3_shadeOf_29 : decode cX3_shadeOf 29 = .ok (.ireturn, 1) := by decide +kernel
set_option maxRecDepth 20000 in
theorem ggX3_setShade_X5_only : GoodIn wsX3_setShade wsX5_only := goodIn_r _ [5] (by decide +kernel) (by decide +kernel)
set_option maxRecDepth 20000 in
theorem gX3_setShade_X5_only_n64 : GoodIn wsX3_setShade (wsX5_only) := ggX3_setShade_X5_only
theorem dX3_setShade_0 : decode cX3_setShade 0 = .ok (.iload_n 2, 1) := by decide +kernel
theorem dX3_setShade_1 : decode cX3_setShade 1 = .ok (.ifCond .eq 19, 3) := by decide +kernel
theorem dX3_setShade_4 : decode cX3_setShade 4 = .ok (.aload_n 0, 1) := by decide +kernel
theorem dX3_setShade_5 : decode cX3_setShade 5 = .ok (.dup, 1) := by decide +kernel
theorem dX3_setShade_6 : decode cX3_setShade 6 = .ok (.getfield 43, 3) := by decide +kernel
theorem dX3_setShade_9 : decode cX3_setShade 9 = .ok (.iload_n 1, 1) := by decide +kernel
theorem dX3_setShade_10 : decode cX3_setShade 10 = .ok (.invokestatic 64, 3) := by decide +kernel
theorem dX3_setShade_13 : decode cX3_setShade 13 = .ok (.lor, 1) := by decide +kernel
theorem dX3_setShade_14 : decode cX3_setShade 14 = .ok (.putfield 43, 3) := by decide +kernel
theorem dX3_setShade_17 : decode cX3_setShade 17 = .ok (.goto 16, 3) := by decide +kernel
theorem dX3_setShade_20 : decode cX3_setShade 20 = .ok (.aload_n 0, 1) := by decide +kernel
theorem dX3_setShade_21 : decode cX3_setShade 21 = .ok (.dup, 1) := by decide +kernel
theorem dX3_setShade_22 : decode cX3_setShade 22 = .ok (.getfield 46, 3) := by decide +kernel
theorem dX3_setShade_25 : decode cX3_setShade 25 = .ok (.iload_n 1, 1) := by decide +kernel
theorem dX3_setShade_26 : decode cX3_setShade 26 = .ok (.invokestatic 64, 3) := by decide +kernel
theorem dX3_setShade_29 : decode cX3_setShade 29 = .ok (.lor, 1) := by decide +kernel
theorem dX3_setShade_30 : decode cX3_setShade 30 = .ok (.putfield 46, 3) := by decide +kernel
theorem dX3_setShade_33 : decode cX3_setShade 33 = .ok (.return_, 1) := by decide +kernel
theorem dX4_init_0 : decode cX4_init 0 = .ok (.aload_n 0, 1) := by decide +kernel
theorem dX4_init_1 : decode cX4_init 1 = .ok (.invokespecial 3, 3) := by decide +kernel
theorem dX4_init_4 : decode cX4_init 4 = .ok (.iload_n 1, 1) := by decide +kernel
theorem dX4_init_5 : decode cX4_init 5 = .ok (.sipush 256, 3) := by decide +kernel
theorem dX4_init_8 : decode cX4_init 8 = .ok (.iadd, 1) := by decide +kernel
theorem dX4_init_9 : decode cX4_init 9 = .ok (.istore_n 2, 1) := by decide +kernel
theorem dX4_init_10 : decode cX4_init 10 = .ok (.aload_n 0, 1) := by decide +kernel
theorem dX4_init_11 : decode cX4_init 11 = .ok (.iload_n 2, 1) := by decide +kernel
theorem dX4_init_12 : decode cX4_init 12 = .ok (.newarray .int, 2) := by decide +kernel
theorem dX4_init_14 : decode cX4_init 14 = .ok (.putfield 9, 3) := by decide +kernel
theorem dX4_init_17 : decode cX4_init 17 = .ok (.aload_n 0, 1) := by decide +kernel
theorem dX4_init_18 : decode cX4_init 18 = .ok (.iload_n 2, 1) := by decide +kernel
theorem dX4_init_19 : decode cX4_init 19 = .ok (.newarray .int, 2) := by decide +kernel
theorem dX4_init_21 : decode cX4_init 21 = .ok (.putfield 15, 3) := by decide +kernel
theorem dX4_init_24 : decode cX4_init 24 = .ok (.aload_n 0, 1) := by decide +kernel
theorem dX4_init_25 : decode cX4_init 25 = .ok (.iload_n 2, 1) := by decide +kernel
theorem dX4_init_26 : decode cX4_init 26 = .ok (.newarray .int, 2) := by decide +kernel
theorem dX4_init_28 : decode cX4_init 28 = .ok (.putfield 18, 3) := by decide +kernel
theorem dX4_init_31 : decode cX4_init 31 = .ok (.aload_n 0, 1) := by decide +kernel
theorem dX4_init_32 : decode cX4_init 32 = .ok (.iload_n 1, 1) := by decide +kernel
theorem dX4_init_33 : decode cX4_init 33 = .ok (.newarray .int, 2) := by decide +kernel
theorem dX4_init_35 : decode cX4_init 35 = .ok (.putfield 21, 3) := by decide +kernel
theorem dX4_init_38 : decode cX4_init 38 = .ok (.return_, 1) := by decide +kernel
theorem dX4_room_0 : decode cX4_room 0 = .ok (.aload_n 0, 1) := by decide +kernel
theorem dX4_room_1 : decode cX4_room 1 = .ok (.getfield 9, 3) := by decide +kernel
theorem dX4_room_4 : decode cX4_room 4 = .ok (.arraylength, 1) := by decide +kernel
theorem dX4_room_5 : decode cX4_room 5 = .ok (.aload_n 0, 1) := by decide +kernel
theorem dX4_room_6 : decode cX4_room 6 = .ok (.getfield 24, 3) := by decide +kernel
theorem dX4_room_9 : decode cX4_room 9 = .ok (.isub, 1) := by decide +kernel
theorem dX4_room_10 : decode cX4_room 10 = .ok (.ireturn, 1) := by decide +kernel
set_option maxRecDepth 20000 in
theorem ggX4_begin_X4_changeStart : GoodIn wsX4_begin wsX4_changeStart := goodIn_r _ [9, 4, 10, 11, 12, 13, 14] (by decide +kernel) (by decide +kernel)
set_option maxRecDepth 20000 in
theorem gX4_begin_X4_changeStart : GoodIn wsX4_begin (wsV RX4 28 RX4 yX4_changeStart wsX4_changeStart) := goodIn_app (goodIn_of _ (by decide +kernel)) ggX4_begin_X4_changeStart
theorem dX4_begin_0 : decode cX4_begin 0 = .ok (.aload_n 0, 1) := by decide +kernel
theorem dX4_begin_1 : decode cX4_begin 1 = .ok (.getfield 24, 3) := by decide +kernel
theorem dX4_begin_4 : decode cX4_begin 4 = .ok (.ifCond .lt 15, 3) := by decide +kernel
theorem dX4_begin_7 : decode cX4_begin 7 = .ok (.aload_n 0, 1) := by decide +kernel
theorem dX4_begin_8 : decode cX4_begin 8 = .ok (.getfield 24, 3) := by decide +kernel
theorem dX4_begin_11 : decode cX4_begin 11 = .ok (.aload_n 0, 1) := by decide +kernel
theorem dX4_begin_12 : decode cX4_begin 12 = .ok (.getfield 9, 3) := by decide +kernel
theorem dX4_begin_15 : decode cX4_begin 15 = .ok (.arraylength, 1) := by decide +kernel
theorem dX4_begin_16 : decode cX4_begin 16 = .ok (.if_icmp .lt 4, 3) := by decide +kernel
theorem dX4_begin_19 : decode cX4_begin 19 = .ok (.return_, 1) := by decide +kernel
theorem dX4_begin_20 : decode cX4_begin 20 = .ok (.aload_n 0, 1) := by decide +kernel
theorem dX4_begin_21 : decode cX4_begin 21 = .ok (.getfield 9, 3) := by decide +kernel
theorem dX4_begin_24 : decode cX4_begin 24 = .ok (.aload_n 0, 1) := by decide +kernel
theorem dX4_begin_25 : decode cX4_begin 25 = .ok (.getfield 24, 3) := by decide +kernel
theorem dX4_begin_28 : decode cX4_begin 28 = .ok (.iload_n 1, 1) := by decide +kernel
theorem dX4_begin_29 : decode cX4_begin 29 = .ok (.iastore, 1) := by decide +kernel
theorem dX4_begin_30 : decode cX4_begin 30 = .ok (.aload_n 0, 1) := by decide +kernel
theorem dX4_begin_31 : decode cX4_begin 31 = .ok (.getfield 15, 3) := by decide +kernel
theorem dX4_begin_34 : decode cX4_begin 34 = .ok (.aload_n 0, 1) := by decide +kernel
theorem dX4_begin_35 : decode cX4_begin 35 = .ok (.getfield 24, 3) := by decide +kernel
theorem dX4_begin_38 : decode cX4_begin 38 = .ok (.iload_n 2, 1) := by decide +kernel
theorem dX4_begin_39 : decode cX4_begin 39 = .ok (.iastore, 1) := by decide +kernel
theorem dX4_begin_40 : decode cX4_begin 40 = .ok (.aload_n 0, 1) := by decide +kernel
theorem dX4_begin_41 : decode cX4_begin 41 = .ok (.getfield 18, 3) := by decide +kernel
theorem dX4_begin_44 : decode cX4_begin 44 = .ok (.aload_n 0, 1) := by decide +kernel
theorem dX4_begin_45 : decode cX4_begin 45 = .ok (.getfield 24, 3) := by decide +kernel
theorem dX4_begin_48 : decode cX4_begin 48 = .ok (.aload_n 0, 1) := by decide +kernel
theorem dX4_begin_49 : decode cX4_begin 49 = .ok (.aload_n 0, 1) := by decide +kernel
theorem dX4_begin_50 : decode cX4_begin 50 = .ok (.getfield 24, 3) := by decide +kernel
theorem dX4_begin_53 : decode cX4_begin 53 = .ok (.invokevirtual 28, 3) := by decide +kernel
theorem dX4_begin_56 : decode cX4_begin 56 = .ok (.iastore, 1) := by decide +kernel
theorem dX4_begin_57 : decode cX4_begin 57 = .ok (.aload_n 0, 1) := by decide +kernel
theorem dX4_begin_58 : decode cX4_begin 58 = .ok (.dup, 1) := by decide +kernel
theorem dX4_begin_59 : decode cX4_begin 59 = .ok (.getfield 24, 3) := by decide +kernel
theorem dX4_begin_62 : decode cX4_begin 62 = .ok (.iconst 1, 1) := by decide +kernel
theorem dX4_begin_63 : decode cX4_begin 63 = .ok (.iadd, 1) := by decide +kernel
theorem dX4_begin_64 : decode cX4_begin 64 = .ok (.putfield 24, 3) := by decide +kernel
theorem dX4_begin_67 : decode cX4_begin 67 = .ok (.return_, 1) := by decide +kernel
set_option maxRecDepth 20000 in
theorem ggX4_addChange_X4_hasStep : GoodIn wsX4_addChange wsX4_hasStep := goodIn_r _ [8, 1, 9, 10, 11, 12, 13, 14] (by decide +kernel) (by decide +kernel)
set_option maxRecDepth 20000 in
theorem gX4_addChange_X4_hasStep : GoodIn wsX4_addChange (wsV RX4 32 RX4 yX4_hasStep wsX4_hasStep) := goodIn_app (goodIn_of _ (by decide +kernel)) ggX4_addChange_X4_hasStep
theorem dX4_addChange_0 : decode cX4_addChange 0 = .ok (.aload_n 0, 1) := by decide +kernel
theorem dX4_addChange_1 : decode cX4_addChange 1 = .ok (.getfield 24, 3) := by decide +kernel
theorem dX4_addChange_4 : decode cX4_addChange 4 = .ok (.iconst 1, 1) := by decide +kernel
theorem dX4_addChange_5 : decode cX4_addChange 5 = .ok (.isub, 1) := by decide +kernel
theorem dX4_addChange_6 : decode cX4_addChange 6 = .ok (.istore_n 3, 1) := by decide +kernel
theorem dX4_addChange_7 : decode cX4_addChange 7 = .ok (.aload_n 0, 1) := by decide +kernel
theorem dX4_addChange_8 : decode cX4_addChange 8 = .ok (.iload_n 3, 1) := by decide +kernel
theorem dX4_addChange_9 : decode cX4_addChange 9 = .ok (.invokevirtual 32, 3) := by decide +kernel
theorem dX4_addChange_12 : decode cX4_addChange 12 = .ok (.ifCond .ne 4, 3) := by decide +kernel
theorem dX4_addChange_15 : decode cX4_addChange 15 = .ok (.return_, 1) := by decide +kernel
theorem dX4_addChange_16 : decode cX4_addChange 16 = .ok (.aload_n 0, 1) := by decide +kernel
theorem dX4_addChange_17 : decode cX4_addChange 17 = .ok (.getfield 18, 3) := by decide +kernel
theorem dX4_addChange_20 : decode cX4_addChange 20 = .ok (.iload_n 3, 1) := by decide +kernel
theorem dX4_addChange_21 : decode cX4_addChange 21 = .ok (.iaload, 1) := by decide +kernel
theorem dX4_addChange_22 : decode cX4_addChange 22 = .ok (.istore 4, 2) := by decide +kernel
theorem dX4_addChange_24 : decode cX4_addChange 24 = .ok (.iload 4, 2) := by decide +kernel
theorem dX4_addChange_26 : decode cX4_addChange 26 = .ok (.ifCond .lt 13, 3) := by decide +kernel
theorem dX4_addChange_29 : decode cX4_addChange 29 = .ok (.iload 4, 2) := by decide +kernel
theorem dX4_addChange_31 : decode cX4_addChange 31 = .ok (.aload_n 0, 1) := by decide +kernel
theorem dX4_addChange_32 : decode cX4_addChange 32 = .ok (.getfield 21, 3) := by decide +kernel
theorem dX4_addChange_35 : decode cX4_addChange 35 = .ok (.arraylength, 1) := by decide +kernel
theorem dX4_addChange_36 : decode cX4_addChange 36 = .ok (.if_icmp .lt 4, 3) := by decide +kernel
theorem dX4_addChange_39 : decode cX4_addChange 39 = .ok (.return_, 1) := by decide +kernel
theorem dX4_addChange_40 : decode cX4_addChange 40 = .ok (.aload_n 0, 1) := by decide +kernel
theorem dX4_addChange_41 : decode cX4_addChange 41 = .ok (.getfield 21, 3) := by decide +kernel
theorem dX4_addChange_44 : decode cX4_addChange 44 = .ok (.iload 4, 2) := by decide +kernel
theorem dX4_addChange_46 : decode cX4_addChange 46 = .ok (.iconst 2, 1) := by decide +kernel
theorem dX4_addChange_47 : decode cX4_addChange 47 = .ok (.iload_n 1, 1) := by decide +kernel
theorem dX4_addChange_48 : decode cX4_addChange 48 = .ok (.imul, 1) := by decide +kernel
theorem dX4_addChange_49 : decode cX4_addChange 49 = .ok (.iload_n 2, 1) := by decide +kernel
theorem dX4_addChange_50 : decode cX4_addChange 50 = .ok (.ifCond .eq 7, 3) := by decide +kernel
theorem dX4_addChange_53 : decode cX4_addChange 53 = .ok (.iconst 1, 1) := by decide +kernel
theorem dX4_addChange_54 : decode cX4_addChange 54 = .ok (.goto 4, 3) := by decide +kernel
theorem dX4_addChange_57 : decode cX4_addChange 57 = .ok (.iconst 0, 1) := by decide +kernel
theorem dX4_addChange_58 : decode cX4_addChange 58 = .ok (.iadd, 1) := by decide +kernel
theorem dX4_addChange_59 : decode cX4_addChange 59 = .ok (.iastore, 1) := by decide +kernel
theorem dX4_addChange_60 : decode cX4_addChange 60 = .ok (.aload_n 0, 1) := by decide +kernel
theorem dX4_addChange_61 : decode cX4_addChange 61 = .ok (.getfield 18, 3) := by decide +kernel
theorem dX4_addChange_64 : decode cX4_addChange 64 = .ok (.iload_n 3, 1) := by decide +kernel
theorem dX4_addChange_65 : decode cX4_addChange 65 = .ok (.iload 4, 2) := by decide +kernel
theorem dX4_addChange_67 : decode cX4_addChange 67 = .ok (.iconst 1, 1) := by decide +kernel
theorem dX4_addChange_68 : decode cX4_addChange 68 = .ok (.iadd, 1) := by decide +kernel
theorem dX4_addChange_69 : decode cX4_addChange 69 = .ok (.iastore, 1) := by decide +kernel
theorem dX4_addChange_70 : decode cX4_addChange 70 = .ok (.return_, 1) := by decide +kernel
set_option maxRecDepth 20000 in
theorem ggX4_numberOf_X4_hasStep : GoodIn wsX4_numberOf wsX4_hasStep := goodIn_r _ [6, 7, 1, 8, 9, 10, 11, 12] (by decide +kernel) (by decide +kernel)
set_option maxRecDepth 20000 in
theorem gX4_numberOf_X4_hasStep : GoodIn wsX4_numberOf (wsV RX4 32 RX4 yX4_hasStep wsX4_hasStep) := goodIn_app (goodIn_of _ (by decide +kernel)) ggX4_numberOf_X4_hasStep
theorem dX4_numberOf_0 : decode cX4_numberOf 0 = .ok (.aload_n 0, 1) := by decide +kernel
theorem dX4_numberOf_1 : decode cX4_numberOf 1 = .ok (.iload_n 1, 1) := by decide +kernel
theorem dX4_numberOf_2 : decode cX4_numberOf 2 = .ok (.invokevirtual 32, 3) := by decide +kernel
theorem dX4_numberOf_5 : decode cX4_numberOf 5 = .ok (.ifCond .eq 12, 3) := by decide +kernel
theorem dX4_numberOf_8 : decode cX4_numberOf 8 = .ok (.aload_n 0, 1) := by decide +kernel
theorem dX4_numberOf_9 : decode cX4_numberOf 9 = .ok (.getfield 9, 3) := by decide +kernel
theorem dX4_numberOf_12 : decode cX4_numberOf 12 = .ok (.iload_n 1, 1) := by decide +kernel
theorem dX4_numberOf_13 : decode cX4_numberOf 13 = .ok (.iaload, 1) := by decide +kernel
theorem dX4_numberOf_14 : decode cX4_numberOf 14 = .ok (.goto 4, 3) := by decide +kernel
theorem dX4_numberOf_17 : decode cX4_numberOf 17 = .ok (.iconst (-1), 1) := by decide +kernel
theorem dX4_numberOf_18 : decode cX4_numberOf 18 = .ok (.ireturn, 1) := by decide +kernel
set_option maxRecDepth 20000 in
theorem ggX4_placeOf_X4_hasStep : GoodIn wsX4_placeOf wsX4_hasStep := goodIn_r _ [6, 7, 8, 9, 10, 11, 12, 13] (by decide +kernel) (by decide +kernel)
set_option maxRecDepth 20000 in
theorem gX4_placeOf_X4_hasStep : GoodIn wsX4_placeOf (wsV RX4 32 RX4 yX4_hasStep wsX4_hasStep) := goodIn_app (goodIn_of _ (by decide +kernel)) ggX4_placeOf_X4_hasStep
theorem dX4_placeOf_0 : decode cX4_placeOf 0 = .ok (.aload_n 0, 1) := by decide +kernel
theorem dX4_placeOf_1 : decode cX4_placeOf 1 = .ok (.iload_n 1, 1) := by decide +kernel
theorem dX4_placeOf_2 : decode cX4_placeOf 2 = .ok (.invokevirtual 32, 3) := by decide +kernel
theorem dX4_placeOf_5 : decode cX4_placeOf 5 = .ok (.ifCond .eq 12, 3) := by decide +kernel
theorem dX4_placeOf_8 : decode cX4_placeOf 8 = .ok (.aload_n 0, 1) := by decide +kernel
theorem dX4_placeOf_9 : decode cX4_placeOf 9 = .ok (.getfield 15, 3) := by decide +kernel
theorem dX4_placeOf_12 : decode cX4_placeOf 12 = .ok (.iload_n 1, 1) := by decide +kernel
theorem dX4_placeOf_13 : decode cX4_placeOf 13 = .ok (.iaload, 1) := by decide +kernel
theorem dX4_placeOf_14 : decode cX4_placeOf 14 = .ok (.goto 4, 3) := by decide +kernel
theorem dX4_placeOf_17 : decode cX4_placeOf 17 = .ok (.iconst (-1), 1) := by decide +kernel
theorem dX4_placeOf_18 : decode cX4_placeOf 18 = .ok (.ireturn, 1) := by decide +kernel
set_option maxRecDepth 20000 in
theorem ggX4_changesOf_X4_hasStep : GoodIn wsX4_changesOf wsX4_hasStep := goodIn_r _ [6, 7, 8, 13, 14, 15, 16, 17] (by decide +kernel) (by decide +kernel)
set_option maxRecDepth 20000 in
theorem gX4_changesOf_X4_hasStep : GoodIn wsX4_changesOf (wsV RX4 32 RX4 yX4_hasStep wsX4_hasStep) := goodIn_app (goodIn_of _ (by decide +kernel)) ggX4_changesOf_X4_hasStep
set_option maxRecDepth 20000 in
theorem ggX4_changesOf_X4_changeStart : GoodIn wsX4_changesOf wsX4_changeStart := goodIn_r _ [12, 1, 13, 14, 15, 16, 17] (by decide +kernel) (by decide +kernel)
set_option maxRecDepth 20000 in
theorem gX4_changesOf_X4_changeStart : GoodIn wsX4_changesOf (wsV RX4 28 RX4 yX4_changeStart wsX4_changeStart) := goodIn_app (goodIn_of _ (by decide +kernel)) ggX4_changesOf_X4_changeStart
theorem dX4_changesOf_0 : decode cX4_changesOf 0 = .ok (.aload_n 0, 1) := by decide +kernel
theorem dX4_changesOf_1 : decode cX4_changesOf 1 = .ok (.iload_n 1, 1) := by decide +kernel
theorem dX4_changesOf_2 : decode cX4_changesOf 2 = .ok (.invokevirtual 32, 3) := by decide +kernel
theorem dX4_changesOf_5 : decode cX4_changesOf 5 = .ok (.ifCond .eq 18, 3) := by decide +kernel
theorem dX4_changesOf_8 : decode cX4_changesOf 8 = .ok (.aload_n 0, 1) := by decide +kernel
theorem dX4_changesOf_9 : decode cX4_changesOf 9 = .ok (.getfield 18, 3) := by decide +kernel
theorem dX4_changesOf_12 : decode cX4_changesOf 12 = .ok (.iload_n 1, 1) := by decide +kernel
theorem dX4_changesOf_13 : decode cX4_changesOf 13 = .ok (.iaload, 1) := by decide +kernel
theorem dX4_changesOf_14 : decode cX4_changesOf 14 = .ok (.aload_n 0, 1) := by decide +kernel
theorem dX4_changesOf_15 : decode cX4_changesOf 15 = .ok (.iload_n 1, 1) := by decide +kernel
theorem dX4_changesOf_16 : decode cX4_changesOf 16 = .ok (.invokevirtual 28, 3) := by decide +kernel
theorem dX4_changesOf_19 : decode cX4_changesOf 19 = .ok (.isub, 1) := by decide +kernel
theorem dX4_changesOf_20 : decode cX4_changesOf 20 = .ok (.goto 4, 3) := by decide +kernel
theorem dX4_changesOf_23 : decode cX4_changesOf 23 = .ok (.iconst 0, 1) := by decide +kernel
theorem dX4_changesOf_24 : decode cX4_changesOf 24 = .ok (.ireturn, 1) := by decide +kernel
set_option maxRecDepth 20000 in
theorem ggX4_changeOf_X4_changesOf : GoodIn wsX4_changeOf wsX4_changesOf := goodIn_r _ [6, 7, 8, 9, 10, 5, 11, 12, 13, 14, 15, 16, 17, 18, 19, 20, 21, 22] (by decide +kernel) (by decide +kernel)
set_option maxRecDepth 20000 in
theorem gX4_changeOf_X4_changesOf : GoodIn wsX4_changeOf (wsV RX4 36 RX4 yX4_changesOf wsX4_changesOf) := goodIn_app (goodIn_of _ (by decide +kernel)) ggX4_changeOf_X4_changesOf
set_option maxRecDepth 20000 in
theorem ggX4_changeOf_X4_changeStart : GoodIn wsX4_changeOf wsX4_changeStart := goodIn_r _ [17, 7, 18, 19, 20, 21, 22] (by decide +kernel) (by decide +kernel)
set_option maxRecDepth 20000 in
theorem gX4_changeOf_X4_changeStart : GoodIn wsX4_changeOf (wsV RX4 28 RX4 yX4_changeStart wsX4_changeStart) := goodIn_app (goodIn_of _ (by decide +kernel)) ggX4_changeOf_X4_changeStart
theorem dX4_changeOf_0 : decode cX4_changeOf 0 = .ok (.iload_n 2, 1) := by decide +kernel
theorem dX4_changeOf_1 : decode cX4_changeOf 1 = .ok (.ifCond .lt 12, 3) := by decide +kernel
theorem dX4_changeOf_4 : decode cX4_changeOf 4 = .ok (.iload_n 2, 1) := by decide +kernel
theorem dX4_changeOf_5 : decode cX4_changeOf 5 = .ok (.aload_n 0, 1) := by decide +kernel
theorem dX4_changeOf_6 : decode cX4_changeOf 6 = .ok (.iload_n 1, 1) := by decide +kernel
theorem dX4_changeOf_7 : decode cX4_changeOf 7 = .ok (.invokevirtual 36, 3) := by decide +kernel
theorem dX4_changeOf_10 : decode cX4_changeOf 10 = .ok (.if_icmp .lt 5, 3) := by decide +kernel
theorem dX4_changeOf_13 : decode cX4_changeOf 13 = .ok (.iconst (-1), 1) := by decide +kernel
theorem dX4_changeOf_14 : decode cX4_changeOf 14 = .ok (.ireturn, 1) := by decide +kernel
theorem dX4_changeOf_15 : decode cX4_changeOf 15 = .ok (.aload_n 0, 1) := by decide +kernel
theorem dX4_changeOf_16 : decode cX4_changeOf 16 = .ok (.iload_n 1, 1) := by decide +kernel
theorem dX4_changeOf_17 : decode cX4_changeOf 17 = .ok (.invokevirtual 28, 3) := by decide +kernel
theorem dX4_changeOf_20 : decode cX4_changeOf 20 = .ok (.iload_n 2, 1) := by decide +kernel
theorem dX4_changeOf_21 : decode cX4_changeOf 21 = .ok (.iadd, 1) := by decide +kernel
theorem dX4_changeOf_22 : decode cX4_changeOf 22 = .ok (.istore_n 3, 1) := by decide +kernel
theorem dX4_changeOf_23 : decode cX4_changeOf 23 = .ok (.iload_n 3, 1) := by decide +kernel
theorem dX4_changeOf_24 : decode cX4_changeOf 24 = .ok (.ifCond .lt 21, 3) := by decide +kernel
theorem dX4_changeOf_27 : decode cX4_changeOf 27 = .ok (.iload_n 3, 1) := by decide +kernel
theorem dX4_changeOf_28 : decode cX4_changeOf 28 = .ok (.aload_n 0, 1) := by decide +kernel
theorem dX4_changeOf_29 : decode cX4_changeOf 29 = .ok (.getfield 21, 3) := by decide +kernel
theorem dX4_changeOf_32 : decode cX4_changeOf 32 = .ok (.arraylength, 1) := by decide +kernel
theorem dX4_changeOf_33 : decode cX4_changeOf 33 = .ok (.if_icmp .ge 12, 3) := by decide +kernel
theorem dX4_changeOf_36 : decode cX4_changeOf 36 = .ok (.aload_n 0, 1) := by decide +kernel
theorem dX4_changeOf_37 : decode cX4_changeOf 37 = .ok (.getfield 21, 3) := by decide +kernel
theorem dX4_changeOf_40 : decode cX4_changeOf 40 = .ok (.iload_n 3, 1) := by decide +kernel
theorem dX4_changeOf_41 : decode cX4_changeOf 41 = .ok (.iaload, 1) := by decide +kernel
theorem dX4_changeOf_42 : decode cX4_changeOf 42 = .ok (.goto 4, 3) := by decide +kernel
theorem dX4_changeOf_45 : decode cX4_changeOf 45 = .ok (.iconst (-1), 1) := by decide +kernel
theorem dX4_changeOf_46 : decode cX4_changeOf 46 = .ok (.ireturn, 1) := by decide +kernel
set_option maxRecDepth 20000 in
theorem ggX4_stepThatChanged_X4_numberOf : GoodIn wsX4_stepThatChanged wsX4_numberOf := goodIn_r _ [6, 7, 8, 9, 10, 5, 11, 1, 30, 31, 32, 33, 34] (by decide +kernel) (by decide +kernel)
set_option maxRecDepth 20000 in
theorem gX4_stepThatChanged_X4_numberOf : GoodIn wsX4_stepThatChanged (wsV RX4 39 RX4 yX4_numberOf wsX4_numberOf) := goodIn_app (goodIn_of _ (by decide +kernel)) ggX4_stepThatChanged_X4_numberOf
set_option maxRecDepth 20000 in
theorem ggX4_stepThatChanged_X4_hasChanged : GoodIn wsX4_stepThatChanged wsX4_hasChanged := goodIn_r _ [15, 16, 17, 18, 5, 19, 20, 8, 9, 10, 11, 1, 7, 21, 22, 23, 24, 25, 26, 27, 28, 29, 30, 31, 32, 33, 34] (by decide +kernel) (by decide +kernel)
set_option maxRecDepth 20000 in
theorem gX4_stepThatChanged_X4_hasChanged : GoodIn wsX4_stepThatChanged (wsV RX4 42 RX4 yX4_hasChanged wsX4_hasChanged) := goodIn_app (goodIn_of _ (by decide +kernel)) ggX4_stepThatChanged_X4_hasChanged
theorem dX4_stepThatChanged_0 : decode cX4_stepThatChanged 0 = .ok (.iconst 0, 1) := by decide +kernel
theorem dX4_stepThatChanged_1 : decode cX4_stepThatChanged 1 = .ok (.istore_n 3, 1) := by decide +kernel
theorem dX4_stepThatChanged_2 : decode cX4_stepThatChanged 2 = .ok (.iload_n 3, 1) := by decide +kernel
theorem dX4_stepThatChanged_3 : decode cX4_stepThatChanged 3 = .ok (.aload_n 0, 1) := by decide +kernel
theorem dX4_stepThatChanged_4 : decode cX4_stepThatChanged 4 = .ok (.getfield 24, 3) := by decide +kernel
theorem dX4_stepThatChanged_7 : decode cX4_stepThatChanged 7 = .ok (.if_icmp .ge 43, 3) := by decide +kernel
theorem dX4_stepThatChanged_10 : decode cX4_stepThatChanged 10 = .ok (.aload_n 0, 1) := by decide +kernel
theorem dX4_stepThatChanged_11 : decode cX4_stepThatChanged 11 = .ok (.iload_n 3, 1) := by decide +kernel
theorem dX4_stepThatChanged_12 : decode cX4_stepThatChanged 12 = .ok (.invokevirtual 39, 3) := by decide +kernel
theorem dX4_stepThatChanged_15 : decode cX4_stepThatChanged 15 = .ok (.bipush 10, 2) := by decide +kernel
theorem dX4_stepThatChanged_17 : decode cX4_stepThatChanged 17 = .ok (.if_icmp .lt 7, 3) := by decide +kernel
theorem dX4_stepThatChanged_20 : decode cX4_stepThatChanged 20 = .ok (.iconst 1, 1) := by decide +kernel
theorem dX4_stepThatChanged_21 : decode cX4_stepThatChanged 21 = .ok (.goto 4, 3) := by decide +kernel
theorem dX4_stepThatChanged_24 : decode cX4_stepThatChanged 24 = .ok (.iconst 0, 1) := by decide +kernel
theorem dX4_stepThatChanged_25 : decode cX4_stepThatChanged 25 = .ok (.istore 4, 2) := by decide +kernel
theorem dX4_stepThatChanged_27 : decode cX4_stepThatChanged 27 = .ok (.iload 4, 2) := by decide +kernel
theorem dX4_stepThatChanged_29 : decode cX4_stepThatChanged 29 = .ok (.iload_n 2, 1) := by decide +kernel
theorem dX4_stepThatChanged_30 : decode cX4_stepThatChanged 30 = .ok (.if_icmp .ne 14, 3) := by decide +kernel
theorem dX4_stepThatChanged_33 : decode cX4_stepThatChanged 33 = .ok (.aload_n 0, 1) := by decide +kernel
theorem dX4_stepThatChanged_34 : decode cX4_stepThatChanged 34 = .ok (.iload_n 3, 1) := by decide +kernel
theorem dX4_stepThatChanged_35 : decode cX4_stepThatChanged 35 = .ok (.iload_n 1, 1) := by decide +kernel
theorem dX4_stepThatChanged_36 : decode cX4_stepThatChanged 36 = .ok (.invokevirtual 42, 3) := by decide +kernel
theorem dX4_stepThatChanged_39 : decode cX4_stepThatChanged 39 = .ok (.ifCond .eq 5, 3) := by decide +kernel
theorem dX4_stepThatChanged_42 : decode cX4_stepThatChanged 42 = .ok (.iload_n 3, 1) := by decide +kernel
theorem dX4_stepThatChanged_43 : decode cX4_stepThatChanged 43 = .ok (.ireturn, 1) := by decide +kernel
theorem dX4_stepThatChanged_44 : decode cX4_stepThatChanged 44 = .ok (.iinc 3 1, 3) := by decide +kernel
theorem dX4_stepThatChanged_47 : decode cX4_stepThatChanged 47 = .ok (.goto (-45), 3) := by decide +kernel
theorem dX4_stepThatChanged_50 : decode cX4_stepThatChanged 50 = .ok (.iconst (-1), 1) := by decide +kernel
theorem dX4_stepThatChanged_51 : decode cX4_stepThatChanged 51 = .ok (.ireturn, 1) := by decide +kernel
set_option maxRecDepth 20000 in
theorem ggX4_hasChanged_X4_changesOf : GoodIn wsX4_hasChanged wsX4_changesOf := goodIn_r _ [5, 6, 7, 8, 9, 4, 10, 11, 12, 13, 14, 15, 16, 22, 23, 24, 25, 26] (by decide +kernel) (by decide +kernel)
set_option maxRecDepth 20000 in
theorem gX4_hasChanged_X4_changesOf : GoodIn wsX4_hasChanged (wsV RX4 36 RX4 yX4_changesOf wsX4_changesOf) := goodIn_app (goodIn_of _ (by decide +kernel)) ggX4_hasChanged_X4_changesOf
set_option maxRecDepth 20000 in
theorem ggX4_hasChanged_X4_changeOf : GoodIn wsX4_hasChanged wsX4_changeOf := goodIn_r _ [20, 21, 1, 2, 3, 4, 5, 6, 7, 8, 9, 10, 11, 12, 13, 14, 15, 16, 22, 23, 24, 25, 26] (by decide +kernel) (by decide +kernel)
set_option maxRecDepth 20000 in
theorem gX4_hasChanged_X4_changeOf : GoodIn wsX4_hasChanged (wsV RX4 46 RX4 yX4_changeOf wsX4_changeOf) := goodIn_app (goodIn_of _ (by decide +kernel)) ggX4_hasChanged_X4_changeOf
theorem dX4_hasChanged_0 : decode cX4_hasChanged 0 = .ok (.aload_n 0, 1) := by decide +kernel
theorem dX4_hasChanged_1 : decode cX4_hasChanged 1 = .ok (.iload_n 1, 1) := by decide +kernel
theorem dX4_hasChanged_2 : decode cX4_hasChanged 2 = .ok (.invokevirtual 36, 3) := by decide +kernel
theorem dX4_hasChanged_5 : decode cX4_hasChanged 5 = .ok (.istore_n 3, 1) := by decide +kernel
theorem dX4_hasChanged_6 : decode cX4_hasChanged 6 = .ok (.iconst 0, 1) := by decide +kernel
theorem dX4_hasChanged_7 : decode cX4_hasChanged 7 = .ok (.istore 4, 2) := by decide +kernel
theorem dX4_hasChanged_9 : decode cX4_hasChanged 9 = .ok (.iload 4, 2) := by decide +kernel
theorem dX4_hasChanged_11 : decode cX4_hasChanged 11 = .ok (.iload_n 3, 1) := by decide +kernel
theorem dX4_hasChanged_12 : decode cX4_hasChanged 12 = .ok (.if_icmp .ge 24, 3) := by decide +kernel
theorem dX4_hasChanged_15 : decode cX4_hasChanged 15 = .ok (.aload_n 0, 1) := by decide +kernel
theorem dX4_hasChanged_16 : decode cX4_hasChanged 16 = .ok (.iload_n 1, 1) := by decide +kernel
theorem dX4_hasChanged_17 : decode cX4_hasChanged 17 = .ok (.iload 4, 2) := by decide +kernel
theorem dX4_hasChanged_19 : decode cX4_hasChanged 19 = .ok (.invokevirtual 46, 3) := by decide +kernel
theorem dX4_hasChanged_22 : decode cX4_hasChanged 22 = .ok (.iconst 1, 1) := by decide +kernel
theorem dX4_hasChanged_23 : decode cX4_hasChanged 23 = .ok (.ishr, 1) := by decide +kernel
theorem dX4_hasChanged_24 : decode cX4_hasChanged 24 = .ok (.iload_n 2, 1) := by decide +kernel
theorem dX4_hasChanged_25 : decode cX4_hasChanged 25 = .ok (.if_icmp .ne 5, 3) := by decide +kernel
theorem dX4_hasChanged_28 : decode cX4_hasChanged 28 = .ok (.iconst 1, 1) := by decide +kernel
theorem dX4_hasChanged_29 : decode cX4_hasChanged 29 = .ok (.ireturn, 1) := by decide +kernel
theorem dX4_hasChanged_30 : decode cX4_hasChanged 30 = .ok (.iinc 4 1, 3) := by decide +kernel
theorem dX4_hasChanged_33 : decode cX4_hasChanged 33 = .ok (.goto (-24), 3) := by decide +kernel
theorem dX4_hasChanged_36 : decode cX4_hasChanged 36 = .ok (.iconst 0, 1) := by decide +kernel
theorem dX4_hasChanged_37 : decode cX4_hasChanged 37 = .ok (.ireturn, 1) := by decide +kernel
theorem dX4_hasStep_0 : decode cX4_hasStep 0 = .ok (.iload_n 1, 1) := by decide +kernel
theorem dX4_hasStep_1 : decode cX4_hasStep 1 = .ok (.ifCond .lt 24, 3) := by decide +kernel
theorem dX4_hasStep_4 : decode cX4_hasStep 4 = .ok (.iload_n 1, 1) := by decide +kernel
theorem dX4_hasStep_5 : decode cX4_hasStep 5 = .ok (.aload_n 0, 1) := by decide +kernel
theorem dX4_hasStep_6 : decode cX4_hasStep 6 = .ok (.getfield 24, 3) := by decide +kernel
theorem dX4_hasStep_9 : decode cX4_hasStep 9 = .ok (.if_icmp .ge 16, 3) := by decide +kernel
theorem dX4_hasStep_12 : decode cX4_hasStep 12 = .ok (.iload_n 1, 1) := by decide +kernel
theorem dX4_hasStep_13 : decode cX4_hasStep 13 = .ok (.aload_n 0, 1) := by decide +kernel
theorem dX4_hasStep_14 : decode cX4_hasStep 14 = .ok (.getfield 9, 3) := by decide +kernel
theorem dX4_hasStep_17 : decode cX4_hasStep 17 = .ok (.arraylength, 1) := by decide +kernel
theorem dX4_hasStep_18 : decode cX4_hasStep 18 = .ok (.if_icmp .ge 7, 3) := by decide +kernel
theorem dX4_hasStep_21 : decode cX4_hasStep 21 = .ok (.iconst 1, 1) := by decide +kernel
theorem dX4_hasStep_22 : decode cX4_hasStep 22 = .ok (.goto 4, 3) := by decide +kernel
theorem dX4_hasStep_25 : decode cX4_hasStep 25 = .ok (.iconst 0, 1) := by decide +kernel
theorem dX4_hasStep_26 : decode cX4_hasStep 26 = .ok (.ireturn, 1) := by decide +kernel
theorem dX4_changeStart_0 : decode cX4_changeStart 0 = .ok (.iload_n 1, 1) := by decide +kernel
theorem dX4_changeStart_1 : decode cX4_changeStart 1 = .ok (.ifCond .le 23, 3) := by decide +kernel
theorem dX4_changeStart_4 : decode cX4_changeStart 4 = .ok (.iload_n 1, 1) := by decide +kernel
theorem dX4_changeStart_5 : decode cX4_changeStart 5 = .ok (.aload_n 0, 1) := by decide +kernel
theorem dX4_changeStart_6 : decode cX4_changeStart 6 = .ok (.getfield 18, 3) := by decide +kernel
theorem dX4_changeStart_9 : decode cX4_changeStart 9 = .ok (.arraylength, 1) := by decide +kernel
theorem dX4_changeStart_10 : decode cX4_changeStart 10 = .ok (.if_icmp .gt 14, 3) := by decide +kernel
theorem dX4_changeStart_13 : decode cX4_changeStart 13 = .ok (.aload_n 0, 1) := by decide +kernel
theorem dX4_changeStart_14 : decode cX4_changeStart 14 = .ok (.getfield 18, 3) := by decide +kernel
theorem dX4_changeStart_17 : decode cX4_changeStart 17 = .ok (.iload_n 1, 1) := by decide +kernel
theorem dX4_changeStart_18 : decode cX4_changeStart 18 = .ok (.iconst 1, 1) := by decide +kernel
theorem dX4_changeStart_19 : decode cX4_changeStart 19 = .ok (.isub, 1) := by decide +kernel
theorem dX4_changeStart_20 : decode cX4_changeStart 20 = .ok (.iaload, 1) := by decide +kernel
theorem dX4_changeStart_21 : decode cX4_changeStart 21 = .ok (.goto 4, 3) := by decide +kernel
theorem dX4_changeStart_24 : decode cX4_changeStart 24 = .ok (.iconst 0, 1) := by decide +kernel
theorem dX4_changeStart_25 : decode cX4_changeStart 25 = .ok (.ireturn, 1) := by decide +kernel
set_option maxRecDepth 20000 in
theorem ggX5_init_X5_sideWithin : GoodIn wsX5_init wsX5_sideWithin := goodIn_r _ [29, 30, 31, 32, 33, 34, 35, 36] (by decide +kernel) (by decide +kernel)
set_option maxRecDepth 20000 in
theorem gX5_init_X5_sideWithin : GoodIn wsX5_init (va_wsS RX5 9 yX5_sideWithin wsX5_sideWithin) := goodIn_app (goodIn_of _ (by decide +kernel)) ggX5_init_X5_sideWithin
set_option maxRecDepth 20000 in
theorem ggX5_init_X1_init : GoodIn wsX5_init wsX1_init := goodIn_r _ [39, 40, 2, 3, 41, 42, 43, 44, 45, 46, 47, 48, 49, 50, 51, 52, 53, 54, 55, 56, 57, 58, 59, 28, 60, 61, 62, 63, 6, 64, 96, 97, 98, 99, 100, 101, 102, 133, 134, 135] (by decide +kernel) (by decide +kernel)
set_option maxRecDepth 20000 in
theorem gX5_init_X1_init : GoodIn wsX5_init (wsX1_init) := ggX5_init_X1_init
set_option maxRecDepth 20000 in
theorem ggX5_init_X3_init : GoodIn wsX5_init wsX3_init := goodIn_r _ [67, 68, 2, 3, 69, 47, 48, 70, 71, 72, 73, 74, 55, 56, 57, 58, 133, 134, 135, 96, 97, 98, 99, 100, 101, 102, 110, 111, 112, 113, 114, 115, 116, 117] (by decide +kernel) (by decide +kernel)
set_option maxRecDepth 20000 in
theorem gX5_init_X3_init : GoodIn wsX5_init (wsX3_init) := ggX5_init_X3_init
set_option maxRecDepth 20000 in
theorem ggX5_init_X4_init : GoodIn wsX5_init wsX4_init := goodIn_r _ [77, 78, 2, 3, 23, 79, 80, 81, 82, 118, 119, 120, 121, 122] (by decide +kernel) (by decide +kernel)
set_option maxRecDepth 20000 in
theorem gX5_init_X4_init : GoodIn wsX5_init (wsX4_init) := ggX5_init_X4_init
set_option maxRecDepth 20000 in
theorem ggX5_init_X2_init : GoodIn wsX5_init wsX2_init := goodIn_r _ [85, 86, 2, 3, 87, 88, 89, 90, 47, 48, 91, 92, 93, 94, 95, 55, 56, 57, 58, 123, 124, 125, 126, 127, 128, 129, 130, 131, 132, 133, 134, 135, 96, 97, 98, 99, 100, 101, 102] (by decide +kernel) (by decide +kernel)
set_option maxRecDepth 20000 in
theorem gX5_init_X2_init : GoodIn wsX5_init (wsX2_init) := ggX5_init_X2_init
theorem dX5_init_0 : decode cX5_init 0 = .ok (.aload_n 0, 1) := by decide +kernel
theorem dX5_init_1 : decode cX5_init 1 = .ok (.invokespecial 1, 3) := by decide +kernel
theorem dX5_init_4 : decode cX5_init 4 = .ok (.aload_n 0, 1) := by decide +kernel
theorem dX5_init_5 : decode cX5_init 5 = .ok (.new 7, 3) := by decide +kernel
theorem dX5_init_8 : decode cX5_init 8 = .ok (.dup, 1) := by decide +kernel
theorem dX5_init_9 : decode cX5_init 9 = .ok (.iload_n 1, 1) := by decide +kernel
theorem dX5_init_10 : decode cX5_init 10 = .ok (.invokestatic 9, 3) := by decide +kernel
theorem dX5_init_13 : decode cX5_init 13 = .ok (.iload_n 2, 1) := by decide +kernel
theorem dX5_init_14 : decode cX5_init 14 = .ok (.invokestatic 9, 3) := by decide +kernel
theorem dX5_init_17 : decode cX5_init 17 = .ok (.invokespecial 15, 3) := by decide +kernel
theorem dX5_init_20 : decode cX5_init 20 = .ok (.putfield 18, 3) := by decide +kernel
theorem dX5_init_23 : decode cX5_init 23 = .ok (.aload_n 0, 1) := by decide +kernel
theorem dX5_init_24 : decode cX5_init 24 = .ok (.new 22, 3) := by decide +kernel
theorem dX5_init_27 : decode cX5_init 27 = .ok (.dup, 1) := by decide +kernel
theorem dX5_init_28 : decode cX5_init 28 = .ok (.aload_n 0, 1) := by decide +kernel
theorem dX5_init_29 : decode cX5_init 29 = .ok (.getfield 18, 3) := by decide +kernel
theorem dX5_init_32 : decode cX5_init 32 = .ok (.invokespecial 24, 3) := by decide +kernel
theorem dX5_init_35 : decode cX5_init 35 = .ok (.putfield 27, 3) := by decide +kernel
theorem dX5_init_38 : decode cX5_init 38 = .ok (.aload_n 0, 1) := by decide +kernel
theorem dX5_init_39 : decode cX5_init 39 = .ok (.new 31, 3) := by decide +kernel
theorem dX5_init_42 : decode cX5_init 42 = .ok (.dup, 1) := by decide +kernel
theorem dX5_init_43 : decode cX5_init 43 = .ok (.aload_n 0, 1) := by decide +kernel
theorem dX5_init_44 : decode cX5_init 44 = .ok (.getfield 18, 3) := by decide +kernel
theorem dX5_init_47 : decode cX5_init 47 = .ok (.getfield 33, 3) := by decide +kernel
theorem dX5_init_50 : decode cX5_init 50 = .ok (.aload_n 0, 1) := by decide +kernel
theorem dX5_init_51 : decode cX5_init 51 = .ok (.getfield 18, 3) := by decide +kernel
theorem dX5_init_54 : decode cX5_init 54 = .ok (.getfield 37, 3) := by decide +kernel
theorem dX5_init_57 : decode cX5_init 57 = .ok (.iadd, 1) := by decide +kernel
theorem dX5_init_58 : decode cX5_init 58 = .ok (.invokespecial 40, 3) := by decide +kernel
theorem dX5_init_61 : decode cX5_init 61 = .ok (.putfield 43, 3) := by decide +kernel
theorem dX5_init_64 : decode cX5_init 64 = .ok (.aload_n 0, 1) := by decide +kernel
theorem dX5_init_65 : decode cX5_init 65 = .ok (.new 47, 3) := by decide +kernel
theorem dX5_init_68 : decode cX5_init 68 = .ok (.dup, 1) := by decide +kernel
theorem dX5_init_69 : decode cX5_init 69 = .ok (.aload_n 0, 1) := by decide +kernel
theorem dX5_init_70 : decode cX5_init 70 = .ok (.getfield 18, 3) := by decide +kernel
theorem dX5_init_73 : decode cX5_init 73 = .ok (.aload_n 0, 1) := by decide +kernel
theorem dX5_init_74 : decode cX5_init 74 = .ok (.getfield 27, 3) := by decide +kernel
theorem dX5_init_77 : decode cX5_init 77 = .ok (.aload_n 0, 1) := by decide +kernel
theorem dX5_init_78 : decode cX5_init 78 = .ok (.getfield 43, 3) := by decide +kernel
theorem dX5_init_81 : decode cX5_init 81 = .ok (.invokespecial 49, 3) := by decide +kernel
theorem dX5_init_84 : decode cX5_init 84 = .ok (.putfield 52, 3) := by decide +kernel
theorem dX5_init_87 : decode cX5_init 87 = .ok (.aload_n 0, 1) := by decide +kernel
theorem dX5_init_88 : decode cX5_init 88 = .ok (.bipush 12, 2) := by decide +kernel
theorem dX5_init_90 : decode cX5_init 90 = .ok (.anewarray 22, 3) := by decide +kernel
theorem dX5_init_93 : decode cX5_init 93 = .ok (.putfield 56, 3) := by decide +kernel
theorem dX5_init_96 : decode cX5_init 96 = .ok (.aload_n 0, 1) := by decide +kernel
theorem dX5_init_97 : decode cX5_init 97 = .ok (.bipush 12, 2) := by decide +kernel
theorem dX5_init_99 : decode cX5_init 99 = .ok (.newarray .int, 2) := by decide +kernel
theorem dX5_init_101 : decode cX5_init 101 = .ok (.putfield 60, 3) := by decide +kernel
theorem dX5_init_104 : decode cX5_init 104 = .ok (.aload_n 0, 1) := by decide +kernel
theorem dX5_init_105 : decode cX5_init 105 = .ok (.iconst 0, 1) := by decide +kernel
theorem dX5_init_106 : decode cX5_init 106 = .ok (.putfield 64, 3) := by decide +kernel
theorem dX5_init_109 : decode cX5_init 109 = .ok (.return_, 1) := by decide +kernel
theorem dX5_size_0 : decode cX5_size 0 = .ok (.aload_n 0, 1) := by decide +kernel
theorem dX5_size_1 : decode cX5_size 1 = .ok (.getfield 18, 3) := by decide +kernel
theorem dX5_size_4 : decode cX5_size 4 = .ok (.getfield 37, 3) := by decide +kernel
theorem dX5_size_7 : decode cX5_size 7 = .ok (.ireturn, 1) := by decide +kernel
set_option maxRecDepth 20000 in
theorem ggX5_end_X5_checkEdge : GoodIn wsX5_end wsX5_checkEdge := goodIn_r _ [6, 1, 7, 8, 9, 10, 11, 12, 13, 14, 15, 16, 17, 18, 19, 20, 21, 22, 23, 24, 25, 26, 27, 28, 29, 30, 5, 31, 40, 41, 42, 43, 44, 45, 46, 47, 48, 49, 50, 51, 52, 53, 54, 55, 56, 57, 58, 59, 60, 61, 62] (by decide +kernel) (by decide +kernel)
set_option maxRecDepth 20000 in
theorem gX5_end_X5_checkEdge : GoodIn wsX5_end (wsV RX5 67 RX5 yX5_checkEdge wsX5_checkEdge) := goodIn_app (goodIn_of _ (by decide +kernel)) ggX5_end_X5_checkEdge
set_option maxRecDepth 20000 in
theorem ggX5_end_X1_greaterEnd : GoodIn wsX5_end wsX1_greaterEnd := goodIn_r _ [35, 36, 37, 28, 13, 29, 38, 25, 20, 26, 53, 54, 55, 56, 57, 58, 59] (by decide +kernel) (by decide +kernel)
set_option maxRecDepth 20000 in
theorem gX5_end_X1_greaterEnd : GoodIn wsX5_end (wsV RX5 70 RX1 yX1_greaterEnd wsX1_greaterEnd) := goodIn_app (goodIn_of _ (by decide +kernel)) ggX5_end_X1_greaterEnd
set_option maxRecDepth 20000 in
theorem ggX5_end_X1_lesserEnd : GoodIn wsX5_end wsX1_lesserEnd := goodIn_r _ [29] (by decide +kernel) (by decide +kernel)
set_option maxRecDepth 20000 in
theorem gX5_end_X1_lesserEnd : GoodIn wsX5_end (va_wsS RX5 73 yX1_lesserEnd wsX1_lesserEnd) := goodIn_app (goodIn_of _ (by decide +kernel)) ggX5_end_X1_lesserEnd
theorem dX5_end_0 : decode cX5_end 0 = .ok (.aload_n 0, 1) := by decide +kernel
theorem dX5_end_1 : decode cX5_end 1 = .ok (.iload_n 1, 1) := by decide +kernel
theorem dX5_end_2 : decode cX5_end 2 = .ok (.invokevirtual 67, 3) := by decide +kernel
theorem dX5_end_5 : decode cX5_end 5 = .ok (.iload_n 2, 1) := by decide +kernel
theorem dX5_end_6 : decode cX5_end 6 = .ok (.ifCond .eq 14, 3) := by decide +kernel
theorem dX5_end_9 : decode cX5_end 9 = .ok (.aload_n 0, 1) := by decide +kernel
theorem dX5_end_10 : decode cX5_end 10 = .ok (.getfield 18, 3) := by decide +kernel
theorem dX5_end_13 : decode cX5_end 13 = .ok (.iload_n 1, 1) := by decide +kernel
theorem dX5_end_14 : decode cX5_end 14 = .ok (.invokevirtual 70, 3) := by decide +kernel
theorem dX5_end_17 : decode cX5_end 17 = .ok (.goto 7, 3) := by decide +kernel
theorem dX5_end_20 : decode cX5_end 20 = .ok (.iload_n 1, 1) := by decide +kernel
theorem dX5_end_21 : decode cX5_end 21 = .ok (.invokestatic 73, 3) := by decide +kernel
theorem dX5_end_24 : decode cX5_end 24 = .ok (.ireturn, 1) := by decide +kernel
set_option maxRecDepth 20000 in
theorem ggX5_edge_X5_checkEdge : GoodIn wsX5_edge wsX5_checkEdge := goodIn_r _ [7, 8, 9, 10, 11, 12, 13, 14, 15, 16, 17, 18, 19, 20, 21, 22, 23, 24, 25, 26, 27, 28, 29, 30, 31, 32, 6, 33, 50, 51, 52, 53, 54, 55, 56, 65, 66, 67, 68, 69, 70, 71, 72, 73, 74, 75, 76, 77, 78, 79, 80] (by decide +kernel) (by decide +kernel)
set_option maxRecDepth 20000 in
theorem gX5_edge_X5_checkEdge : GoodIn wsX5_edge (wsV RX5 67 RX5 yX5_checkEdge wsX5_checkEdge) := goodIn_app (goodIn_of _ (by decide +kernel)) ggX5_edge_X5_checkEdge
set_option maxRecDepth 20000 in
theorem ggX5_edge_X3_stateOf : GoodIn wsX5_edge wsX3_stateOf := goodIn_r _ [38, 39, 40, 41, 20, 21, 22, 23, 24, 25, 26, 27, 28, 29, 30, 15, 31, 32, 6, 33, 57, 58, 59, 60, 61, 62, 63, 64, 78, 79, 80] (by decide +kernel) (by decide +kernel)
set_option maxRecDepth 20000 in
theorem gX5_edge_X3_stateOf : GoodIn wsX5_edge (wsV RX5 76 RX3 yX3_stateOf wsX3_stateOf) := goodIn_app (goodIn_of _ (by decide +kernel)) ggX5_edge_X3_stateOf
set_option maxRecDepth 20000 in
theorem ggX5_edge_X3_setEdge : GoodIn wsX5_edge wsX3_setEdge := goodIn_r _ [45, 39, 40, 46, 47, 48, 22, 49, 24, 25, 26, 27, 28, 29, 30, 15, 31, 32, 6, 33, 57, 58, 59, 60, 61, 62, 63, 64, 78, 79, 80] (by decide +kernel) (by decide +kernel)
set_option maxRecDepth 20000 in
theorem gX5_edge_X3_setEdge : GoodIn wsX5_edge (wsV RX5 79 RX3 yX3_setEdge wsX3_setEdge) := goodIn_app (goodIn_of _ (by decide +kernel)) ggX5_edge_X3_setEdge
theorem dX5_edge_0 : decode cX5_edge 0 = .ok (.aload_n 0, 1) := by decide +kernel
theorem dX5_edge_1 : decode cX5_edge 1 = .ok (.iload_n 1, 1) := by decide +kernel
theorem dX5_edge_2 : decode cX5_edge 2 = .ok (.invokevirtual 67, 3) := by decide +kernel
theorem dX5_edge_5 : decode cX5_edge 5 = .ok (.aload_n 0, 1) := by decide +kernel
theorem dX5_edge_6 : decode cX5_edge 6 = .ok (.getfield 27, 3) := by decide +kernel
theorem dX5_edge_9 : decode cX5_edge 9 = .ok (.iload_n 1, 1) := by decide +kernel
theorem dX5_edge_10 : decode cX5_edge 10 = .ok (.invokevirtual 76, 3) := by decide +kernel
theorem dX5_edge_13 : decode cX5_edge 13 = .ok (.ifCond .eq 5, 3) := by decide +kernel
theorem dX5_edge_16 : decode cX5_edge 16 = .ok (.iconst 0, 1) := by decide +kernel
theorem dX5_edge_17 : decode cX5_edge 17 = .ok (.ireturn, 1) := by decide +kernel
theorem dX5_edge_18 : decode cX5_edge 18 = .ok (.aload_n 0, 1) := by decide +kernel
theorem dX5_edge_19 : decode cX5_edge 19 = .ok (.getfield 27, 3) := by decide +kernel
theorem dX5_edge_22 : decode cX5_edge 22 = .ok (.iload_n 1, 1) := by decide +kernel
theorem dX5_edge_23 : decode cX5_edge 23 = .ok (.iload_n 2, 1) := by decide +kernel
theorem dX5_edge_24 : decode cX5_edge 24 = .ok (.invokevirtual 79, 3) := by decide +kernel
theorem dX5_edge_27 : decode cX5_edge 27 = .ok (.aload_n 0, 1) := by decide +kernel
theorem dX5_edge_28 : decode cX5_edge 28 = .ok (.getfield 27, 3) := by decide +kernel
theorem dX5_edge_31 : decode cX5_edge 31 = .ok (.iconst 0, 1) := by decide +kernel
theorem dX5_edge_32 : decode cX5_edge 32 = .ok (.putfield 83, 3) := by decide +kernel
theorem dX5_edge_35 : decode cX5_edge 35 = .ok (.iconst 1, 1) := by decide +kernel
theorem dX5_edge_36 : decode cX5_edge 36 = .ok (.ireturn, 1) := by decide +kernel
set_option maxRecDepth 20000 in
theorem ggX5_duty_X5_checkCell : GoodIn wsX5_duty wsX5_checkCell := goodIn_r _ [9, 10, 11, 12, 13, 14, 15, 16, 17, 18, 19, 37, 38, 39, 40, 41, 42, 43, 52, 53, 54, 55, 56, 57, 58, 59, 60, 61, 62, 63, 64] (by decide +kernel) (by decide +kernel)
set_option maxRecDepth 20000 in
theorem gX5_duty_X5_checkCell : GoodIn wsX5_duty (wsV RX5 87 RX5 yX5_checkCell wsX5_checkCell) := goodIn_app (goodIn_of _ (by decide +kernel)) ggX5_duty_X5_checkCell
set_option maxRecDepth 20000 in
theorem ggX5_duty_X3_dutyOf : GoodIn wsX5_duty wsX3_dutyOf := goodIn_r _ [24, 25, 26, 27, 8, 28, 29, 30, 31, 44, 45, 46, 47, 48, 49, 50, 51] (by decide +kernel) (by decide +kernel)
set_option maxRecDepth 20000 in
theorem gX5_duty_X3_dutyOf : GoodIn wsX5_duty (wsV RX5 97 RX3 yX3_dutyOf wsX3_dutyOf) := goodIn_app (goodIn_of _ (by decide +kernel)) ggX5_duty_X3_dutyOf
set_option maxRecDepth 20000 in
theorem ggX5_duty_X3_setDuty : GoodIn wsX5_duty wsX3_setDuty := goodIn_r _ [35, 25, 36, 26, 30, 8, 31, 44, 45, 46, 47, 48, 49, 50, 51] (by decide +kernel) (by decide +kernel)
set_option maxRecDepth 20000 in
theorem gX5_duty_X3_setDuty : GoodIn wsX5_duty (wsV RX5 100 RX3 yX3_setDuty wsX3_setDuty) := goodIn_app (goodIn_of _ (by decide +kernel)) ggX5_duty_X3_setDuty
theorem dX5_duty_0 : decode cX5_duty 0 = .ok (.aload_n 0, 1) := by decide +kernel
theorem dX5_duty_1 : decode cX5_duty 1 = .ok (.iload_n 1, 1) := by decide +kernel
theorem dX5_duty_2 : decode cX5_duty 2 = .ok (.invokevirtual 87, 3) := by decide +kernel
theorem dX5_duty_5 : decode cX5_duty 5 = .ok (.iload_n 2, 1) := by decide +kernel
theorem dX5_duty_6 : decode cX5_duty 6 = .ok (.ifCond .lt 8, 3) := by decide +kernel
theorem dX5_duty_9 : decode cX5_duty 9 = .ok (.iload_n 2, 1) := by decide +kernel
theorem dX5_duty_10 : decode cX5_duty 10 = .ok (.iconst 2, 1) := by decide +kernel
theorem dX5_duty_11 : decode cX5_duty 11 = .ok (.if_icmp .le 13, 3) := by decide +kernel
theorem dX5_duty_14 : decode cX5_duty 14 = .ok (.new 90, 3) := by decide +kernel
theorem dX5_duty_17 : decode cX5_duty 17 = .ok (.dup, 1) := by decide +kernel
theorem dX5_duty_18 : decode cX5_duty 18 = .ok (.ldc 92, 2) := by decide +kernel
theorem dX5_duty_20 : decode cX5_duty 20 = .ok (.invokespecial 94, 3) := by decide +kernel
theorem dX5_duty_23 : decode cX5_duty 23 = .ok (.athrow, 1) := by decide +kernel
theorem dX5_duty_24 : decode cX5_duty 24 = .ok (.aload_n 0, 1) := by decide +kernel
theorem dX5_duty_25 : decode cX5_duty 25 = .ok (.getfield 27, 3) := by decide +kernel
theorem dX5_duty_28 : decode cX5_duty 28 = .ok (.iload_n 1, 1) := by decide +kernel
theorem dX5_duty_29 : decode cX5_duty 29 = .ok (.invokevirtual 97, 3) := by decide +kernel
theorem dX5_duty_32 : decode cX5_duty 32 = .ok (.iload_n 2, 1) := by decide +kernel
theorem dX5_duty_33 : decode cX5_duty 33 = .ok (.if_icmp .ne 5, 3) := by decide +kernel
theorem dX5_duty_36 : decode cX5_duty 36 = .ok (.iconst 0, 1) := by decide +kernel
theorem dX5_duty_37 : decode cX5_duty 37 = .ok (.ireturn, 1) := by decide +kernel
theorem dX5_duty_38 : decode cX5_duty 38 = .ok (.aload_n 0, 1) := by decide +kernel
theorem dX5_duty_39 : decode cX5_duty 39 = .ok (.getfield 27, 3) := by decide +kernel
theorem dX5_duty_42 : decode cX5_duty 42 = .ok (.iload_n 1, 1) := by decide +kernel
theorem dX5_duty_43 : decode cX5_duty 43 = .ok (.iload_n 2, 1) := by decide +kernel
theorem dX5_duty_44 : decode cX5_duty 44 = .ok (.invokevirtual 100, 3) := by decide +kernel
theorem dX5_duty_47 : decode cX5_duty 47 = .ok (.aload_n 0, 1) := by decide +kernel
theorem dX5_duty_48 : decode cX5_duty 48 = .ok (.getfield 27, 3) := by decide +kernel
