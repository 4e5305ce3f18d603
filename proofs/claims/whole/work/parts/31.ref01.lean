theorem dX6_duty_54 : decode cX6_duty 54 = .ok (.ireturn, 1) := by decide +kernel
theorem dX6_duty_55 : decode cX6_duty 55 = .ok (.aload_n 0, 1) := by decide +kernel
theorem dX6_duty_56 : decode cX6_duty 56 = .ok (.getfield 13, 3) := by decide +kernel
theorem dX6_duty_59 : decode cX6_duty 59 = .ok (.iload_n 1, 1) := by decide +kernel
theorem dX6_duty_60 : decode cX6_duty 60 = .ok (.iload_n 2, 1) := by decide +kernel
theorem dX6_duty_61 : decode cX6_duty 61 = .ok (.iastore, 1) := by decide +kernel
theorem dX6_duty_62 : decode cX6_duty 62 = .ok (.aload_n 0, 1) := by decide +kernel
theorem dX6_duty_63 : decode cX6_duty 63 = .ok (.iconst 0, 1) := by decide +kernel
theorem dX6_duty_64 : decode cX6_duty 64 = .ok (.putfield 98, 3) := by decide +kernel
theorem dX6_duty_67 : decode cX6_duty 67 = .ok (.iconst 1, 1) := by decide +kernel
theorem dX6_duty_68 : decode cX6_duty 68 = .ok (.ireturn, 1) := by decide +kernel
set_option maxRecDepth 20000 in
theorem ggX6_shade_X6_isCell : GoodIn wsX6_shade wsX6_isCell := goodIn_r _ [7, 8, 9, 10, 6, 11, 12, 13, 19, 20, 21, 22, 23, 24, 25, 26, 27, 28, 29, 30, 31, 32, 33, 34, 35, 36, 37, 38, 39, 40, 41, 42, 43] (by decide +kernel) (by decide +kernel)
set_option maxRecDepth 20000 in
theorem gX6_shade_X6_isCell : GoodIn wsX6_shade (wsV RX6 102 RX6 yX6_isCell wsX6_isCell) := goodIn_app (goodIn_of _ (by decide +kernel)) ggX6_shade_X6_isCell
set_option maxRecDepth 20000 in
theorem ggX6_shade_X6_fails : GoodIn wsX6_shade wsX6_fails := goodIn_r _ [17, 18, 19, 20, 21, 22, 23, 24, 25, 26, 27, 28, 29, 30, 31, 32, 33, 34, 35, 36, 37, 38, 39, 40, 41, 42, 43] (by decide +kernel) (by decide +kernel)
set_option maxRecDepth 20000 in
theorem gX6_shade_X6_fails : GoodIn wsX6_shade (wsV RX6 90 RX6 yX6_fails wsX6_fails) := goodIn_app (goodIn_of _ (by decide +kernel)) ggX6_shade_X6_fails
theorem dX6_shade_0 : decode cX6_shade 0 = .ok (.aload_n 0, 1) := by decide +kernel
theorem dX6_shade_1 : decode cX6_shade 1 = .ok (.iconst 1, 1) := by decide +kernel
theorem dX6_shade_2 : decode cX6_shade 2 = .ok (.aload_n 0, 1) := by decide +kernel
theorem dX6_shade_3 : decode cX6_shade 3 = .ok (.iload_n 1, 1) := by decide +kernel
theorem dX6_shade_4 : decode cX6_shade 4 = .ok (.invokevirtual 102, 3) := by decide +kernel
theorem dX6_shade_7 : decode cX6_shade 7 = .ok (.ifCond .ne 7, 3) := by decide +kernel
theorem dX6_shade_10 : decode cX6_shade 10 = .ok (.iconst 1, 1) := by decide +kernel
theorem dX6_shade_11 : decode cX6_shade 11 = .ok (.goto 4, 3) := by decide +kernel
theorem dX6_shade_14 : decode cX6_shade 14 = .ok (.iconst 0, 1) := by decide +kernel
theorem dX6_shade_15 : decode cX6_shade 15 = .ok (.invokevirtual 90, 3) := by decide +kernel
theorem dX6_shade_18 : decode cX6_shade 18 = .ok (.ifCond .ne 12, 3) := by decide +kernel
theorem dX6_shade_21 : decode cX6_shade 21 = .ok (.aload_n 0, 1) := by decide +kernel
theorem dX6_shade_22 : decode cX6_shade 22 = .ok (.getfield 16, 3) := by decide +kernel
theorem dX6_shade_25 : decode cX6_shade 25 = .ok (.iload_n 1, 1) := by decide +kernel
theorem dX6_shade_26 : decode cX6_shade 26 = .ok (.iaload, 1) := by decide +kernel
theorem dX6_shade_27 : decode cX6_shade 27 = .ok (.ifCond .eq 5, 3) := by decide +kernel
theorem dX6_shade_30 : decode cX6_shade 30 = .ok (.iconst 0, 1) := by decide +kernel
theorem dX6_shade_31 : decode cX6_shade 31 = .ok (.ireturn, 1) := by decide +kernel
theorem dX6_shade_32 : decode cX6_shade 32 = .ok (.aload_n 0, 1) := by decide +kernel
theorem dX6_shade_33 : decode cX6_shade 33 = .ok (.getfield 16, 3) := by decide +kernel
theorem dX6_shade_36 : decode cX6_shade 36 = .ok (.iload_n 1, 1) := by decide +kernel
theorem dX6_shade_37 : decode cX6_shade 37 = .ok (.iload_n 2, 1) := by decide +kernel
theorem dX6_shade_38 : decode cX6_shade 38 = .ok (.ifCond .eq 7, 3) := by decide +kernel
theorem dX6_shade_41 : decode cX6_shade 41 = .ok (.iconst 1, 1) := by decide +kernel
theorem dX6_shade_42 : decode cX6_shade 42 = .ok (.goto 4, 3) := by decide +kernel
theorem dX6_shade_45 : decode cX6_shade 45 = .ok (.iconst 2, 1) := by decide +kernel
theorem dX6_shade_46 : decode cX6_shade 46 = .ok (.iastore, 1) := by decide +kernel
theorem dX6_shade_47 : decode cX6_shade 47 = .ok (.aload_n 0, 1) := by decide +kernel
theorem dX6_shade_48 : decode cX6_shade 48 = .ok (.iconst 0, 1) := by decide +kernel
theorem dX6_shade_49 : decode cX6_shade 49 = .ok (.putfield 98, 3) := by decide +kernel
theorem dX6_shade_52 : decode cX6_shade 52 = .ok (.iconst 1, 1) := by decide +kernel
theorem dX6_shade_53 : decode cX6_shade 53 = .ok (.ireturn, 1) := by decide +kernel
set_option maxRecDepth 20000 in
theorem ggX6_told_X6_fails : GoodIn wsX6_told wsX6_fails := goodIn_r _ [7, 8, 9, 10, 11, 12, 13, 14, 15, 16, 17, 18, 19, 20, 21, 22, 23, 24, 25, 26, 27, 28, 29, 30, 31, 32, 33] (by decide +kernel) (by decide +kernel)
set_option maxRecDepth 20000 in
theorem gX6_told_X6_fails : GoodIn wsX6_told (wsV RX6 90 RX6 yX6_fails wsX6_fails) := goodIn_app (goodIn_of _ (by decide +kernel)) ggX6_told_X6_fails
theorem dX6_told_0 : decode cX6_told 0 = .ok (.aload_n 0, 1) := by decide +kernel
theorem dX6_told_1 : decode cX6_told 1 = .ok (.iconst 1, 1) := by decide +kernel
theorem dX6_told_2 : decode cX6_told 2 = .ok (.iload_n 1, 1) := by decide +kernel
theorem dX6_told_3 : decode cX6_told 3 = .ok (.iconst (-1), 1) := by decide +kernel
theorem dX6_told_4 : decode cX6_told 4 = .ok (.if_icmp .lt 9, 3) := by decide +kernel
theorem dX6_told_7 : decode cX6_told 7 = .ok (.iload_n 1, 1) := by decide +kernel
theorem dX6_told_8 : decode cX6_told 8 = .ok (.bipush 64, 2) := by decide +kernel
theorem dX6_told_10 : decode cX6_told 10 = .ok (.if_icmp .le 7, 3) := by decide +kernel
theorem dX6_told_13 : decode cX6_told 13 = .ok (.iconst 1, 1) := by decide +kernel
theorem dX6_told_14 : decode cX6_told 14 = .ok (.goto 4, 3) := by decide +kernel
theorem dX6_told_17 : decode cX6_told 17 = .ok (.iconst 0, 1) := by decide +kernel
theorem dX6_told_18 : decode cX6_told 18 = .ok (.invokevirtual 90, 3) := by decide +kernel
theorem dX6_told_21 : decode cX6_told 21 = .ok (.ifCond .eq 4, 3) := by decide +kernel
theorem dX6_told_24 : decode cX6_told 24 = .ok (.return_, 1) := by decide +kernel
theorem dX6_told_25 : decode cX6_told 25 = .ok (.aload_n 0, 1) := by decide +kernel
theorem dX6_told_26 : decode cX6_told 26 = .ok (.iload_n 1, 1) := by decide +kernel
theorem dX6_told_27 : decode cX6_told 27 = .ok (.putfield 19, 3) := by decide +kernel
theorem dX6_told_30 : decode cX6_told 30 = .ok (.aload_n 0, 1) := by decide +kernel
theorem dX6_told_31 : decode cX6_told 31 = .ok (.iconst 0, 1) := by decide +kernel
theorem dX6_told_32 : decode cX6_told 32 = .ok (.putfield 98, 3) := by decide +kernel
theorem dX6_told_35 : decode cX6_told 35 = .ok (.return_, 1) := by decide +kernel
theorem dX6_begin_0 : decode cX6_begin 0 = .ok (.aload_n 0, 1) := by decide +kernel
theorem dX6_begin_1 : decode cX6_begin 1 = .ok (.getfield 29, 3) := by decide +kernel
theorem dX6_begin_4 : decode cX6_begin 4 = .ok (.aload_n 0, 1) := by decide +kernel
theorem dX6_begin_5 : decode cX6_begin 5 = .ok (.getfield 105, 3) := by decide +kernel
theorem dX6_begin_8 : decode cX6_begin 8 = .ok (.iload_n 1, 1) := by decide +kernel
theorem dX6_begin_9 : decode cX6_begin 9 = .ok (.iastore, 1) := by decide +kernel
theorem dX6_begin_10 : decode cX6_begin 10 = .ok (.aload_n 0, 1) := by decide +kernel
theorem dX6_begin_11 : decode cX6_begin 11 = .ok (.getfield 32, 3) := by decide +kernel
theorem dX6_begin_14 : decode cX6_begin 14 = .ok (.aload_n 0, 1) := by decide +kernel
theorem dX6_begin_15 : decode cX6_begin 15 = .ok (.getfield 105, 3) := by decide +kernel
theorem dX6_begin_18 : decode cX6_begin 18 = .ok (.iload_n 2, 1) := by decide +kernel
theorem dX6_begin_19 : decode cX6_begin 19 = .ok (.iastore, 1) := by decide +kernel
theorem dX6_begin_20 : decode cX6_begin 20 = .ok (.aload_n 0, 1) := by decide +kernel
theorem dX6_begin_21 : decode cX6_begin 21 = .ok (.getfield 35, 3) := by decide +kernel
theorem dX6_begin_24 : decode cX6_begin 24 = .ok (.aload_n 0, 1) := by decide +kernel
theorem dX6_begin_25 : decode cX6_begin 25 = .ok (.getfield 105, 3) := by decide +kernel
theorem dX6_begin_28 : decode cX6_begin 28 = .ok (.iconst 1, 1) := by decide +kernel
theorem dX6_begin_29 : decode cX6_begin 29 = .ok (.iadd, 1) := by decide +kernel
theorem dX6_begin_30 : decode cX6_begin 30 = .ok (.aload_n 0, 1) := by decide +kernel
theorem dX6_begin_31 : decode cX6_begin 31 = .ok (.getfield 35, 3) := by decide +kernel
theorem dX6_begin_34 : decode cX6_begin 34 = .ok (.aload_n 0, 1) := by decide +kernel
theorem dX6_begin_35 : decode cX6_begin 35 = .ok (.getfield 105, 3) := by decide +kernel
theorem dX6_begin_38 : decode cX6_begin 38 = .ok (.iaload, 1) := by decide +kernel
theorem dX6_begin_39 : decode cX6_begin 39 = .ok (.iastore, 1) := by decide +kernel
theorem dX6_begin_40 : decode cX6_begin 40 = .ok (.aload_n 0, 1) := by decide +kernel
theorem dX6_begin_41 : decode cX6_begin 41 = .ok (.dup, 1) := by decide +kernel
theorem dX6_begin_42 : decode cX6_begin 42 = .ok (.getfield 105, 3) := by decide +kernel
theorem dX6_begin_45 : decode cX6_begin 45 = .ok (.iconst 1, 1) := by decide +kernel
theorem dX6_begin_46 : decode cX6_begin 46 = .ok (.iadd, 1) := by decide +kernel
theorem dX6_begin_47 : decode cX6_begin 47 = .ok (.putfield 105, 3) := by decide +kernel
theorem dX6_begin_50 : decode cX6_begin 50 = .ok (.return_, 1) := by decide +kernel
theorem dX6_change_0 : decode cX6_change 0 = .ok (.aload_n 0, 1) := by decide +kernel
theorem dX6_change_1 : decode cX6_change 1 = .ok (.getfield 38, 3) := by decide +kernel
theorem dX6_change_4 : decode cX6_change 4 = .ok (.aload_n 0, 1) := by decide +kernel
theorem dX6_change_5 : decode cX6_change 5 = .ok (.getfield 35, 3) := by decide +kernel
theorem dX6_change_8 : decode cX6_change 8 = .ok (.aload_n 0, 1) := by decide +kernel
theorem dX6_change_9 : decode cX6_change 9 = .ok (.getfield 105, 3) := by decide +kernel
theorem dX6_change_12 : decode cX6_change 12 = .ok (.iaload, 1) := by decide +kernel
theorem dX6_change_13 : decode cX6_change 13 = .ok (.iload_n 1, 1) := by decide +kernel
theorem dX6_change_14 : decode cX6_change 14 = .ok (.iastore, 1) := by decide +kernel
theorem dX6_change_15 : decode cX6_change 15 = .ok (.aload_n 0, 1) := by decide +kernel
theorem dX6_change_16 : decode cX6_change 16 = .ok (.getfield 35, 3) := by decide +kernel
theorem dX6_change_19 : decode cX6_change 19 = .ok (.aload_n 0, 1) := by decide +kernel
theorem dX6_change_20 : decode cX6_change 20 = .ok (.getfield 105, 3) := by decide +kernel
theorem dX6_change_23 : decode cX6_change 23 = .ok (.dup2, 1) := by decide +kernel
theorem dX6_change_24 : decode cX6_change 24 = .ok (.iaload, 1) := by decide +kernel
theorem dX6_change_25 : decode cX6_change 25 = .ok (.iconst 1, 1) := by decide +kernel
theorem dX6_change_26 : decode cX6_change 26 = .ok (.iadd, 1) := by decide +kernel
theorem dX6_change_27 : decode cX6_change 27 = .ok (.iastore, 1) := by decide +kernel
theorem dX6_change_28 : decode cX6_change 28 = .ok (.return_, 1) := by decide +kernel
set_option maxRecDepth 20000 in
theorem ggX6_isWrongAt_X6_begin : GoodIn wsX6_isWrongAt wsX6_begin := goodIn_r _ [6, 7, 8, 9, 10, 11, 12, 13, 14, 15, 16, 17, 18, 19, 20, 21, 22, 23, 24, 25, 26, 27, 28, 29, 30, 31, 32, 33, 34, 35] (by decide +kernel) (by decide +kernel)
set_option maxRecDepth 20000 in
theorem gX6_isWrongAt_X6_begin : GoodIn wsX6_isWrongAt (wsV RX6 108 RX6 yX6_begin wsX6_begin) := goodIn_app (goodIn_of _ (by decide +kernel)) ggX6_isWrongAt_X6_begin
theorem dX6_isWrongAt_0 : decode cX6_isWrongAt 0 = .ok (.aload_n 0, 1) := by decide +kernel
theorem dX6_isWrongAt_1 : decode cX6_isWrongAt 1 = .ok (.iload_n 1, 1) := by decide +kernel
theorem dX6_isWrongAt_2 : decode cX6_isWrongAt 2 = .ok (.iload_n 2, 1) := by decide +kernel
theorem dX6_isWrongAt_3 : decode cX6_isWrongAt 3 = .ok (.invokevirtual 108, 3) := by decide +kernel
theorem dX6_isWrongAt_6 : decode cX6_isWrongAt 6 = .ok (.aload_n 0, 1) := by decide +kernel
theorem dX6_isWrongAt_7 : decode cX6_isWrongAt 7 = .ok (.iconst 1, 1) := by decide +kernel
theorem dX6_isWrongAt_8 : decode cX6_isWrongAt 8 = .ok (.putfield 98, 3) := by decide +kernel
theorem dX6_isWrongAt_11 : decode cX6_isWrongAt 11 = .ok (.iconst 1, 1) := by decide +kernel
theorem dX6_isWrongAt_12 : decode cX6_isWrongAt 12 = .ok (.ireturn, 1) := by decide +kernel
set_option maxRecDepth 20000 in
theorem ggX6_set_X6_change : GoodIn wsX6_set wsX6_change := goodIn_r _ [8, 9, 10, 3, 11, 12, 13, 14, 15, 16, 17, 18, 19, 20, 21, 22, 23, 24, 25, 26, 27, 28, 29, 30, 31, 32, 33, 34, 35] (by decide +kernel) (by decide +kernel)
set_option maxRecDepth 20000 in
theorem gX6_set_X6_change : GoodIn wsX6_set (wsV RX6 112 RX6 yX6_change wsX6_change) := goodIn_app (goodIn_of _ (by decide +kernel)) ggX6_set_X6_change
theorem dX6_set_0 : decode cX6_set 0 = .ok (.aload_n 0, 1) := by decide +kernel
theorem dX6_set_1 : decode cX6_set 1 = .ok (.getfield 7, 3) := by decide +kernel
theorem dX6_set_4 : decode cX6_set 4 = .ok (.iload_n 1, 1) := by decide +kernel
theorem dX6_set_5 : decode cX6_set 5 = .ok (.iload_n 2, 1) := by decide +kernel
theorem dX6_set_6 : decode cX6_set 6 = .ok (.iastore, 1) := by decide +kernel
theorem dX6_set_7 : decode cX6_set 7 = .ok (.aload_n 0, 1) := by decide +kernel
theorem dX6_set_8 : decode cX6_set 8 = .ok (.getfield 23, 3) := by decide +kernel
theorem dX6_set_11 : decode cX6_set 11 = .ok (.iload_n 1, 1) := by decide +kernel
theorem dX6_set_12 : decode cX6_set 12 = .ok (.aload_n 0, 1) := by decide +kernel
theorem dX6_set_13 : decode cX6_set 13 = .ok (.getfield 105, 3) := by decide +kernel
theorem dX6_set_16 : decode cX6_set 16 = .ok (.iconst 1, 1) := by decide +kernel
theorem dX6_set_17 : decode cX6_set 17 = .ok (.isub, 1) := by decide +kernel
theorem dX6_set_18 : decode cX6_set 18 = .ok (.iastore, 1) := by decide +kernel
theorem dX6_set_19 : decode cX6_set 19 = .ok (.aload_n 0, 1) := by decide +kernel
theorem dX6_set_20 : decode cX6_set 20 = .ok (.iload_n 2, 1) := by decide +kernel
theorem dX6_set_21 : decode cX6_set 21 = .ok (.iconst 1, 1) := by decide +kernel
theorem dX6_set_22 : decode cX6_set 22 = .ok (.if_icmp .ne 11, 3) := by decide +kernel
theorem dX6_set_25 : decode cX6_set 25 = .ok (.iconst 2, 1) := by decide +kernel
theorem dX6_set_26 : decode cX6_set 26 = .ok (.iload_n 1, 1) := by decide +kernel
theorem dX6_set_27 : decode cX6_set 27 = .ok (.imul, 1) := by decide +kernel
theorem dX6_set_28 : decode cX6_set 28 = .ok (.iconst 1, 1) := by decide +kernel
theorem dX6_set_29 : decode cX6_set 29 = .ok (.iadd, 1) := by decide +kernel
theorem dX6_set_30 : decode cX6_set 30 = .ok (.goto 6, 3) := by decide +kernel
theorem dX6_set_33 : decode cX6_set 33 = .ok (.iconst 2, 1) := by decide +kernel
theorem dX6_set_34 : decode cX6_set 34 = .ok (.iload_n 1, 1) := by decide +kernel
theorem dX6_set_35 : decode cX6_set 35 = .ok (.imul, 1) := by decide +kernel
theorem dX6_set_36 : decode cX6_set 36 = .ok (.invokevirtual 112, 3) := by decide +kernel
theorem dX6_set_39 : decode cX6_set 39 = .ok (.return_, 1) := by decide +kernel
set_option maxRecDepth 20000 in
theorem ggX6_paint_X6_change : GoodIn wsX6_paint wsX6_change := goodIn_r _ [8, 9, 10, 3, 11, 12, 13, 14, 15, 16, 17, 18, 19, 20, 21, 22, 23, 24, 25, 26, 27, 28, 29, 30, 31, 32, 33, 34, 35] (by decide +kernel) (by decide +kernel)
set_option maxRecDepth 20000 in
theorem gX6_paint_X6_change : GoodIn wsX6_paint (wsV RX6 112 RX6 yX6_change wsX6_change) := goodIn_app (goodIn_of _ (by decide +kernel)) ggX6_paint_X6_change
theorem dX6_paint_0 : decode cX6_paint 0 = .ok (.aload_n 0, 1) := by decide +kernel
theorem dX6_paint_1 : decode cX6_paint 1 = .ok (.getfield 16, 3) := by decide +kernel
theorem dX6_paint_4 : decode cX6_paint 4 = .ok (.iload_n 1, 1) := by decide +kernel
theorem dX6_paint_5 : decode cX6_paint 5 = .ok (.iload_n 2, 1) := by decide +kernel
theorem dX6_paint_6 : decode cX6_paint 6 = .ok (.iastore, 1) := by decide +kernel
theorem dX6_paint_7 : decode cX6_paint 7 = .ok (.aload_n 0, 1) := by decide +kernel
theorem dX6_paint_8 : decode cX6_paint 8 = .ok (.getfield 26, 3) := by decide +kernel
theorem dX6_paint_11 : decode cX6_paint 11 = .ok (.iload_n 1, 1) := by decide +kernel
theorem dX6_paint_12 : decode cX6_paint 12 = .ok (.aload_n 0, 1) := by decide +kernel
theorem dX6_paint_13 : decode cX6_paint 13 = .ok (.getfield 105, 3) := by decide +kernel
theorem dX6_paint_16 : decode cX6_paint 16 = .ok (.iconst 1, 1) := by decide +kernel
theorem dX6_paint_17 : decode cX6_paint 17 = .ok (.isub, 1) := by decide +kernel
theorem dX6_paint_18 : decode cX6_paint 18 = .ok (.iastore, 1) := by decide +kernel
theorem dX6_paint_19 : decode cX6_paint 19 = .ok (.aload_n 0, 1) := by decide +kernel
theorem dX6_paint_20 : decode cX6_paint 20 = .ok (.iload_n 2, 1) := by decide +kernel
theorem dX6_paint_21 : decode cX6_paint 21 = .ok (.iconst 1, 1) := by decide +kernel
theorem dX6_paint_22 : decode cX6_paint 22 = .ok (.if_icmp .ne 11, 3) := by decide +kernel
theorem dX6_paint_25 : decode cX6_paint 25 = .ok (.iconst 2, 1) := by decide +kernel
theorem dX6_paint_26 : decode cX6_paint 26 = .ok (.iload_n 1, 1) := by decide +kernel
theorem dX6_paint_27 : decode cX6_paint 27 = .ok (.imul, 1) := by decide +kernel
theorem dX6_paint_28 : decode cX6_paint 28 = .ok (.iconst 1, 1) := by decide +kernel
theorem dX6_paint_29 : decode cX6_paint 29 = .ok (.iadd, 1) := by decide +kernel
theorem dX6_paint_30 : decode cX6_paint 30 = .ok (.goto 6, 3) := by decide +kernel
theorem dX6_paint_33 : decode cX6_paint 33 = .ok (.iconst 2, 1) := by decide +kernel
theorem dX6_paint_34 : decode cX6_paint 34 = .ok (.iload_n 1, 1) := by decide +kernel
theorem dX6_paint_35 : decode cX6_paint 35 = .ok (.imul, 1) := by decide +kernel
theorem dX6_paint_36 : decode cX6_paint 36 = .ok (.invokevirtual 112, 3) := by decide +kernel
theorem dX6_paint_39 : decode cX6_paint 39 = .ok (.return_, 1) := by decide +kernel
set_option maxRecDepth 20000 in
theorem ggX6_setAll_X6_begin : GoodIn wsX6_setAll wsX6_begin := goodIn_r _ [6, 7, 8, 9, 10, 35, 36, 37, 38, 39, 40, 41, 42, 43, 44, 45, 46, 47, 48, 49, 50, 51, 52, 53, 54, 55, 56, 57, 58, 59] (by decide +kernel) (by decide +kernel)
set_option maxRecDepth 20000 in
theorem gX6_setAll_X6_begin : GoodIn wsX6_setAll (wsV RX6 108 RX6 yX6_begin wsX6_begin) := goodIn_app (goodIn_of _ (by decide +kernel)) ggX6_setAll_X6_begin
set_option maxRecDepth 20000 in
theorem ggX6_setAll_X6_edgeOf : GoodIn wsX6_setAll wsX6_edgeOf := goodIn_r _ [14, 15, 16, 17, 18, 5, 19, 20, 21, 22, 23, 24, 35, 36, 37, 38, 39, 40, 41, 42, 43, 44, 45, 46, 47, 48, 49, 50, 51, 52, 53, 54, 55, 56, 57, 58, 59] (by decide +kernel) (by decide +kernel)
set_option maxRecDepth 20000 in
theorem gX6_setAll_X6_edgeOf : GoodIn wsX6_setAll (wsV RX6 86 RX6 yX6_edgeOf wsX6_edgeOf) := goodIn_app (goodIn_of _ (by decide +kernel)) ggX6_setAll_X6_edgeOf
set_option maxRecDepth 20000 in
theorem ggX6_setAll_X6_set : GoodIn wsX6_setAll wsX6_set := goodIn_r _ [28, 1, 29, 8, 30, 31, 32, 5, 33, 34, 10, 35, 36, 37, 38, 39, 40, 41, 42, 43, 44, 45, 46, 47, 48, 49, 50, 51, 52, 53, 54, 55, 56, 57, 58, 59] (by decide +kernel) (by decide +kernel)
set_option maxRecDepth 20000 in
theorem gX6_setAll_X6_set : GoodIn wsX6_setAll (wsV RX6 116 RX6 yX6_set wsX6_set) := goodIn_app (goodIn_of _ (by decide +kernel)) ggX6_setAll_X6_set
theorem dX6_setAll_0 : decode cX6_setAll 0 = .ok (.aload_n 0, 1) := by decide +kernel
theorem dX6_setAll_1 : decode cX6_setAll 1 = .ok (.iload_n 1, 1) := by decide +kernel
theorem dX6_setAll_2 : decode cX6_setAll 2 = .ok (.iload_n 2, 1) := by decide +kernel
theorem dX6_setAll_3 : decode cX6_setAll 3 = .ok (.invokevirtual 108, 3) := by decide +kernel
theorem dX6_setAll_6 : decode cX6_setAll 6 = .ok (.iconst 0, 1) := by decide +kernel
theorem dX6_setAll_7 : decode cX6_setAll 7 = .ok (.istore 4, 2) := by decide +kernel
theorem dX6_setAll_9 : decode cX6_setAll 9 = .ok (.iload 4, 2) := by decide +kernel
theorem dX6_setAll_11 : decode cX6_setAll 11 = .ok (.iconst 4, 1) := by decide +kernel
theorem dX6_setAll_12 : decode cX6_setAll 12 = .ok (.if_icmp .ge 40, 3) := by decide +kernel
theorem dX6_setAll_15 : decode cX6_setAll 15 = .ok (.aload_n 0, 1) := by decide +kernel
theorem dX6_setAll_16 : decode cX6_setAll 16 = .ok (.iload_n 2, 1) := by decide +kernel
theorem dX6_setAll_17 : decode cX6_setAll 17 = .ok (.iload 4, 2) := by decide +kernel
theorem dX6_setAll_19 : decode cX6_setAll 19 = .ok (.invokevirtual 86, 3) := by decide +kernel
theorem dX6_setAll_22 : decode cX6_setAll 22 = .ok (.istore 5, 2) := by decide +kernel
theorem dX6_setAll_24 : decode cX6_setAll 24 = .ok (.iload 5, 2) := by decide +kernel
theorem dX6_setAll_26 : decode cX6_setAll 26 = .ok (.ifCond .lt 20, 3) := by decide +kernel
theorem dX6_setAll_29 : decode cX6_setAll 29 = .ok (.aload_n 0, 1) := by decide +kernel
theorem dX6_setAll_30 : decode cX6_setAll 30 = .ok (.getfield 7, 3) := by decide +kernel
theorem dX6_setAll_33 : decode cX6_setAll 33 = .ok (.iload 5, 2) := by decide +kernel
theorem dX6_setAll_35 : decode cX6_setAll 35 = .ok (.iaload, 1) := by decide +kernel
theorem dX6_setAll_36 : decode cX6_setAll 36 = .ok (.ifCond .ne 10, 3) := by decide +kernel
theorem dX6_setAll_39 : decode cX6_setAll 39 = .ok (.aload_n 0, 1) := by decide +kernel
theorem dX6_setAll_40 : decode cX6_setAll 40 = .ok (.iload 5, 2) := by decide +kernel
theorem dX6_setAll_42 : decode cX6_setAll 42 = .ok (.iload_n 3, 1) := by decide +kernel
theorem dX6_setAll_43 : decode cX6_setAll 43 = .ok (.invokevirtual 116, 3) := by decide +kernel
theorem dX6_setAll_46 : decode cX6_setAll 46 = .ok (.iinc 4 1, 3) := by decide +kernel
theorem dX6_setAll_49 : decode cX6_setAll 49 = .ok (.goto (-40), 3) := by decide +kernel
theorem dX6_setAll_52 : decode cX6_setAll 52 = .ok (.iconst 1, 1) := by decide +kernel
theorem dX6_setAll_53 : decode cX6_setAll 53 = .ok (.ireturn, 1) := by decide +kernel
set_option maxRecDepth 20000 in
theorem ggX6_setOne_X6_begin : GoodIn wsX6_setOne wsX6_begin := goodIn_r _ [5, 6, 7, 8, 9, 21, 22, 23, 24, 25, 26, 27, 28, 29, 30, 31, 32, 33, 34, 35, 36, 37, 38, 39, 40, 41, 42, 43, 44, 45] (by decide +kernel) (by decide +kernel)
set_option maxRecDepth 20000 in
theorem gX6_setOne_X6_begin : GoodIn wsX6_setOne (wsV RX6 108 RX6 yX6_begin wsX6_begin) := goodIn_app (goodIn_of _ (by decide +kernel)) ggX6_setOne_X6_begin
set_option maxRecDepth 20000 in
theorem ggX6_setOne_X6_set : GoodIn wsX6_setOne wsX6_set := goodIn_r _ [13, 14, 15, 7, 16, 17, 18, 4, 19, 20, 9, 21, 22, 23, 24, 25, 26, 27, 28, 29, 30, 31, 32, 33, 34, 35, 36, 37, 38, 39, 40, 41, 42, 43, 44, 45] (by decide +kernel) (by decide +kernel)
set_option maxRecDepth 20000 in
theorem gX6_setOne_X6_set : GoodIn wsX6_setOne (wsV RX6 116 RX6 yX6_set wsX6_set) := goodIn_app (goodIn_of _ (by decide +kernel)) ggX6_setOne_X6_set
theorem dX6_setOne_0 : decode cX6_setOne 0 = .ok (.aload_n 0, 1) := by decide +kernel
theorem dX6_setOne_1 : decode cX6_setOne 1 = .ok (.iload_n 1, 1) := by decide +kernel
theorem dX6_setOne_2 : decode cX6_setOne 2 = .ok (.iload_n 2, 1) := by decide +kernel
theorem dX6_setOne_3 : decode cX6_setOne 3 = .ok (.invokevirtual 108, 3) := by decide +kernel
theorem dX6_setOne_6 : decode cX6_setOne 6 = .ok (.aload_n 0, 1) := by decide +kernel
theorem dX6_setOne_7 : decode cX6_setOne 7 = .ok (.iload_n 3, 1) := by decide +kernel
theorem dX6_setOne_8 : decode cX6_setOne 8 = .ok (.iload 4, 2) := by decide +kernel
theorem dX6_setOne_10 : decode cX6_setOne 10 = .ok (.invokevirtual 116, 3) := by decide +kernel
theorem dX6_setOne_13 : decode cX6_setOne 13 = .ok (.iconst 1, 1) := by decide +kernel
theorem dX6_setOne_14 : decode cX6_setOne 14 = .ok (.ireturn, 1) := by decide +kernel
set_option maxRecDepth 20000 in
theorem ggX6_cells_X6_all : GoodIn wsX6_cells wsX6_all := goodIn_r _ [6, 7, 8, 49, 50, 51, 52, 53, 54, 55, 56, 57, 58, 59, 60, 61, 62, 63, 64, 65, 66, 67, 68, 69, 70, 71, 72, 73] (by decide +kernel) (by decide +kernel)
set_option maxRecDepth 20000 in
theorem gX6_cells_X6_all : GoodIn wsX6_cells (wsV RX6 78 RX6 yX6_all wsX6_all) := goodIn_app (goodIn_of _ (by decide +kernel)) ggX6_cells_X6_all
set_option maxRecDepth 20000 in
theorem ggX6_cells_X6_count : GoodIn wsX6_cells wsX6_count := goodIn_r _ [12, 13, 14, 15, 16, 5, 17, 7, 18, 19, 20, 21, 8, 2, 3, 4, 6, 49, 50, 51, 52, 53, 54, 55, 56, 57, 58, 59, 60, 61, 62, 63, 64, 65, 66, 67, 68, 69, 70, 71, 72, 73] (by decide +kernel) (by decide +kernel)
set_option maxRecDepth 20000 in
theorem gX6_cells_X6_count : GoodIn wsX6_cells (wsV RX6 119 RX6 yX6_count wsX6_count) := goodIn_app (goodIn_of _ (by decide +kernel)) ggX6_cells_X6_count
set_option maxRecDepth 20000 in
theorem ggX6_cells_X6_isWrongAt : GoodIn wsX6_cells wsX6_isWrongAt := goodIn_r _ [25, 26, 27, 28, 29, 5, 30, 31, 32, 33, 34, 49, 50, 51, 52, 53, 54, 55, 56, 57, 58, 59, 60, 61, 62, 63, 64, 65, 66, 67, 68, 69, 70, 71, 72, 73] (by decide +kernel) (by decide +kernel)
set_option maxRecDepth 20000 in
theorem gX6_cells_X6_isWrongAt : GoodIn wsX6_cells (wsV RX6 122 RX6 yX6_isWrongAt wsX6_isWrongAt) := goodIn_app (goodIn_of _ (by decide +kernel)) ggX6_cells_X6_isWrongAt
set_option maxRecDepth 20000 in
theorem ggX6_cells_X6_setAll : GoodIn wsX6_cells wsX6_setAll := goodIn_r _ [38, 13, 27, 28, 29, 5, 30, 31, 32, 33, 34, 14, 15, 16, 17, 7, 18, 19, 20, 21, 8, 2, 3, 4, 6, 39, 40, 41, 42, 43, 44, 45, 46, 47, 48, 49, 50, 51, 52, 53, 54, 55, 56, 57, 58, 59, 60, 61, 62, 63, 64, 65, 66, 67, 68, 69, 70, 71, 72, 73] (by decide +kernel) (by decide +kernel)
set_option maxRecDepth 20000 in
theorem gX6_cells_X6_setAll : GoodIn wsX6_cells (wsV RX6 126 RX6 yX6_setAll wsX6_setAll) := goodIn_app (goodIn_of _ (by decide +kernel)) ggX6_cells_X6_setAll
theorem dX6_cells_0 : decode cX6_cells 0 = .ok (.iconst 0, 1) := by decide +kernel
theorem dX6_cells_1 : decode cX6_cells 1 = .ok (.istore_n 1, 1) := by decide +kernel
theorem dX6_cells_2 : decode cX6_cells 2 = .ok (.iload_n 1, 1) := by decide +kernel
theorem dX6_cells_3 : decode cX6_cells 3 = .ok (.aload_n 0, 1) := by decide +kernel
theorem dX6_cells_4 : decode cX6_cells 4 = .ok (.invokevirtual 78, 3) := by decide +kernel
theorem dX6_cells_7 : decode cX6_cells 7 = .ok (.if_icmp .ge 79, 3) := by decide +kernel
theorem dX6_cells_10 : decode cX6_cells 10 = .ok (.aload_n 0, 1) := by decide +kernel
theorem dX6_cells_11 : decode cX6_cells 11 = .ok (.iload_n 1, 1) := by decide +kernel
theorem dX6_cells_12 : decode cX6_cells 12 = .ok (.iconst 1, 1) := by decide +kernel
theorem dX6_cells_13 : decode cX6_cells 13 = .ok (.invokevirtual 119, 3) := by decide +kernel
theorem dX6_cells_16 : decode cX6_cells 16 = .ok (.istore_n 2, 1) := by decide +kernel
theorem dX6_cells_17 : decode cX6_cells 17 = .ok (.aload_n 0, 1) := by decide +kernel
theorem dX6_cells_18 : decode cX6_cells 18 = .ok (.getfield 13, 3) := by decide +kernel
theorem dX6_cells_21 : decode cX6_cells 21 = .ok (.iload_n 1, 1) := by decide +kernel
theorem dX6_cells_22 : decode cX6_cells 22 = .ok (.iaload, 1) := by decide +kernel
theorem dX6_cells_23 : decode cX6_cells 23 = .ok (.iconst 1, 1) := by decide +kernel
theorem dX6_cells_24 : decode cX6_cells 24 = .ok (.if_icmp .eq 8, 3) := by decide +kernel
theorem dX6_cells_27 : decode cX6_cells 27 = .ok (.iload_n 2, 1) := by decide +kernel
theorem dX6_cells_28 : decode cX6_cells 28 = .ok (.iconst 1, 1) := by decide +kernel
theorem dX6_cells_29 : decode cX6_cells 29 = .ok (.if_icmp .ne 19, 3) := by decide +kernel
theorem dX6_cells_32 : decode cX6_cells 32 = .ok (.iload_n 2, 1) := by decide +kernel
theorem dX6_cells_33 : decode cX6_cells 33 = .ok (.aload_n 0, 1) := by decide +kernel
theorem dX6_cells_34 : decode cX6_cells 34 = .ok (.iload_n 1, 1) := by decide +kernel
theorem dX6_cells_35 : decode cX6_cells 35 = .ok (.iconst 0, 1) := by decide +kernel
theorem dX6_cells_36 : decode cX6_cells 36 = .ok (.invokevirtual 119, 3) := by decide +kernel
theorem dX6_cells_39 : decode cX6_cells 39 = .ok (.iadd, 1) := by decide +kernel
theorem dX6_cells_40 : decode cX6_cells 40 = .ok (.iconst 2, 1) := by decide +kernel
theorem dX6_cells_41 : decode cX6_cells 41 = .ok (.if_icmp .ge 7, 3) := by decide +kernel
theorem dX6_cells_44 : decode cX6_cells 44 = .ok (.iconst 1, 1) := by decide +kernel
theorem dX6_cells_45 : decode cX6_cells 45 = .ok (.goto 4, 3) := by decide +kernel
theorem dX6_cells_48 : decode cX6_cells 48 = .ok (.iconst 0, 1) := by decide +kernel
theorem dX6_cells_49 : decode cX6_cells 49 = .ok (.istore_n 3, 1) := by decide +kernel
theorem dX6_cells_50 : decode cX6_cells 50 = .ok (.iload_n 2, 1) := by decide +kernel
theorem dX6_cells_51 : decode cX6_cells 51 = .ok (.iconst 2, 1) := by decide +kernel
theorem dX6_cells_52 : decode cX6_cells 52 = .ok (.if_icmp .gt 21, 3) := by decide +kernel
theorem dX6_cells_55 : decode cX6_cells 55 = .ok (.aload_n 0, 1) := by decide +kernel
theorem dX6_cells_56 : decode cX6_cells 56 = .ok (.getfield 13, 3) := by decide +kernel
theorem dX6_cells_59 : decode cX6_cells 59 = .ok (.iload_n 1, 1) := by decide +kernel
theorem dX6_cells_60 : decode cX6_cells 60 = .ok (.iaload, 1) := by decide +kernel
theorem dX6_cells_61 : decode cX6_cells 61 = .ok (.iconst 2, 1) := by decide +kernel
theorem dX6_cells_62 : decode cX6_cells 62 = .ok (.if_icmp .ne 7, 3) := by decide +kernel
theorem dX6_cells_65 : decode cX6_cells 65 = .ok (.iload_n 2, 1) := by decide +kernel
theorem dX6_cells_66 : decode cX6_cells 66 = .ok (.ifCond .gt 7, 3) := by decide +kernel
theorem dX6_cells_69 : decode cX6_cells 69 = .ok (.iload_n 3, 1) := by decide +kernel
theorem dX6_cells_70 : decode cX6_cells 70 = .ok (.ifCond .eq 10, 3) := by decide +kernel
theorem dX6_cells_73 : decode cX6_cells 73 = .ok (.aload_n 0, 1) := by decide +kernel
theorem dX6_cells_74 : decode cX6_cells 74 = .ok (.iconst 1, 1) := by decide +kernel
theorem dX6_cells_75 : decode cX6_cells 75 = .ok (.iload_n 1, 1) := by decide +kernel
theorem dX6_cells_76 : decode cX6_cells 76 = .ok (.invokevirtual 122, 3) := by decide +kernel
theorem dX6_cells_79 : decode cX6_cells 79 = .ok (.ireturn, 1) := by decide +kernel
theorem dX6_cells_80 : decode cX6_cells 80 = .ok (.iinc 1 1, 3) := by decide +kernel
theorem dX6_cells_83 : decode cX6_cells 83 = .ok (.goto (-81), 3) := by decide +kernel
theorem dX6_cells_86 : decode cX6_cells 86 = .ok (.iconst 0, 1) := by decide +kernel
theorem dX6_cells_87 : decode cX6_cells 87 = .ok (.istore_n 1, 1) := by decide +kernel
theorem dX6_cells_88 : decode cX6_cells 88 = .ok (.iload_n 1, 1) := by decide +kernel
theorem dX6_cells_89 : decode cX6_cells 89 = .ok (.aload_n 0, 1) := by decide +kernel
theorem dX6_cells_90 : decode cX6_cells 90 = .ok (.invokevirtual 78, 3) := by decide +kernel
theorem dX6_cells_93 : decode cX6_cells 93 = .ok (.if_icmp .ge 46, 3) := by decide +kernel
theorem dX6_cells_96 : decode cX6_cells 96 = .ok (.aload_n 0, 1) := by decide +kernel
theorem dX6_cells_97 : decode cX6_cells 97 = .ok (.iload_n 1, 1) := by decide +kernel
theorem dX6_cells_98 : decode cX6_cells 98 = .ok (.iconst 1, 1) := by decide +kernel
theorem dX6_cells_99 : decode cX6_cells 99 = .ok (.invokevirtual 119, 3) := by decide +kernel
theorem dX6_cells_102 : decode cX6_cells 102 = .ok (.iconst 2, 1) := by decide +kernel
theorem dX6_cells_103 : decode cX6_cells 103 = .ok (.if_icmp .eq 13, 3) := by decide +kernel
theorem dX6_cells_106 : decode cX6_cells 106 = .ok (.aload_n 0, 1) := by decide +kernel
theorem dX6_cells_107 : decode cX6_cells 107 = .ok (.getfield 13, 3) := by decide +kernel
theorem dX6_cells_110 : decode cX6_cells 110 = .ok (.iload_n 1, 1) := by decide +kernel
theorem dX6_cells_111 : decode cX6_cells 111 = .ok (.iaload, 1) := by decide +kernel
theorem dX6_cells_112 : decode cX6_cells 112 = .ok (.iconst 2, 1) := by decide +kernel
theorem dX6_cells_113 : decode cX6_cells 113 = .ok (.if_icmp .ne 20, 3) := by decide +kernel
theorem dX6_cells_116 : decode cX6_cells 116 = .ok (.aload_n 0, 1) := by decide +kernel
theorem dX6_cells_117 : decode cX6_cells 117 = .ok (.iload_n 1, 1) := by decide +kernel
theorem dX6_cells_118 : decode cX6_cells 118 = .ok (.iconst 0, 1) := by decide +kernel
theorem dX6_cells_119 : decode cX6_cells 119 = .ok (.invokevirtual 119, 3) := by decide +kernel
theorem dX6_cells_122 : decode cX6_cells 122 = .ok (.ifCond .le 11, 3) := by decide +kernel
theorem dX6_cells_125 : decode cX6_cells 125 = .ok (.aload_n 0, 1) := by decide +kernel
theorem dX6_cells_126 : decode cX6_cells 126 = .ok (.iconst 2, 1) := by decide +kernel
theorem dX6_cells_127 : decode cX6_cells 127 = .ok (.iload_n 1, 1) := by decide +kernel
theorem dX6_cells_128 : decode cX6_cells 128 = .ok (.iconst 2, 1) := by decide +kernel
theorem dX6_cells_129 : decode cX6_cells 129 = .ok (.invokevirtual 126, 3) := by decide +kernel
theorem dX6_cells_132 : decode cX6_cells 132 = .ok (.ireturn, 1) := by decide +kernel
theorem dX6_cells_133 : decode cX6_cells 133 = .ok (.iinc 1 1, 3) := by decide +kernel
theorem dX6_cells_136 : decode cX6_cells 136 = .ok (.goto (-48), 3) := by decide +kernel
theorem dX6_cells_139 : decode cX6_cells 139 = .ok (.iconst 0, 1) := by decide +kernel
theorem dX6_cells_140 : decode cX6_cells 140 = .ok (.istore_n 1, 1) := by decide +kernel
theorem dX6_cells_141 : decode cX6_cells 141 = .ok (.iload_n 1, 1) := by decide +kernel
theorem dX6_cells_142 : decode cX6_cells 142 = .ok (.aload_n 0, 1) := by decide +kernel
theorem dX6_cells_143 : decode cX6_cells 143 = .ok (.invokevirtual 78, 3) := by decide +kernel
theorem dX6_cells_146 : decode cX6_cells 146 = .ok (.if_icmp .ge 46, 3) := by decide +kernel
theorem dX6_cells_149 : decode cX6_cells 149 = .ok (.aload_n 0, 1) := by decide +kernel
theorem dX6_cells_150 : decode cX6_cells 150 = .ok (.getfield 13, 3) := by decide +kernel
theorem dX6_cells_153 : decode cX6_cells 153 = .ok (.iload_n 1, 1) := by decide +kernel
theorem dX6_cells_154 : decode cX6_cells 154 = .ok (.iaload, 1) := by decide +kernel
theorem dX6_cells_155 : decode cX6_cells 155 = .ok (.iconst 1, 1) := by decide +kernel
theorem dX6_cells_156 : decode cX6_cells 156 = .ok (.if_icmp .eq 30, 3) := by decide +kernel
theorem dX6_cells_159 : decode cX6_cells 159 = .ok (.aload_n 0, 1) := by decide +kernel
theorem dX6_cells_160 : decode cX6_cells 160 = .ok (.iload_n 1, 1) := by decide +kernel
theorem dX6_cells_161 : decode cX6_cells 161 = .ok (.iconst 1, 1) := by decide +kernel
theorem dX6_cells_162 : decode cX6_cells 162 = .ok (.invokevirtual 119, 3) := by decide +kernel
theorem dX6_cells_165 : decode cX6_cells 165 = .ok (.ifCond .ne 21, 3) := by decide +kernel
theorem dX6_cells_168 : decode cX6_cells 168 = .ok (.aload_n 0, 1) := by decide +kernel
theorem dX6_cells_169 : decode cX6_cells 169 = .ok (.iload_n 1, 1) := by decide +kernel
theorem dX6_cells_170 : decode cX6_cells 170 = .ok (.iconst 0, 1) := by decide +kernel
theorem dX6_cells_171 : decode cX6_cells 171 = .ok (.invokevirtual 119, 3) := by decide +kernel
theorem dX6_cells_174 : decode cX6_cells 174 = .ok (.iconst 1, 1) := by decide +kernel
theorem dX6_cells_175 : decode cX6_cells 175 = .ok (.if_icmp .ne 11, 3) := by decide +kernel
theorem dX6_cells_178 : decode cX6_cells 178 = .ok (.aload_n 0, 1) := by decide +kernel
theorem dX6_cells_179 : decode cX6_cells 179 = .ok (.iconst 3, 1) := by decide +kernel
theorem dX6_cells_180 : decode cX6_cells 180 = .ok (.iload_n 1, 1) := by decide +kernel
theorem dX6_cells_181 : decode cX6_cells 181 = .ok (.iconst 2, 1) := by decide +kernel
theorem dX6_cells_182 : decode cX6_cells 182 = .ok (.invokevirtual 126, 3) := by decide +kernel
theorem dX6_cells_185 : decode cX6_cells 185 = .ok (.ireturn, 1) := by decide +kernel
theorem dX6_cells_186 : decode cX6_cells 186 = .ok (.iinc 1 1, 3) := by decide +kernel
theorem dX6_cells_189 : decode cX6_cells 189 = .ok (.goto (-48), 3) := by decide +kernel
theorem dX6_cells_192 : decode cX6_cells 192 = .ok (.iconst 0, 1) := by decide +kernel
theorem dX6_cells_193 : decode cX6_cells 193 = .ok (.istore_n 1, 1) := by decide +kernel
theorem dX6_cells_194 : decode cX6_cells 194 = .ok (.iload_n 1, 1) := by decide +kernel
theorem dX6_cells_195 : decode cX6_cells 195 = .ok (.aload_n 0, 1) := by decide +kernel
theorem dX6_cells_196 : decode cX6_cells 196 = .ok (.invokevirtual 78, 3) := by decide +kernel
theorem dX6_cells_199 : decode cX6_cells 199 = .ok (.if_icmp .ge 73, 3) := by decide +kernel
theorem dX6_cells_202 : decode cX6_cells 202 = .ok (.aload_n 0, 1) := by decide +kernel
theorem dX6_cells_203 : decode cX6_cells 203 = .ok (.getfield 13, 3) := by decide +kernel
theorem dX6_cells_206 : decode cX6_cells 206 = .ok (.iload_n 1, 1) := by decide +kernel
theorem dX6_cells_207 : decode cX6_cells 207 = .ok (.iaload, 1) := by decide +kernel
theorem dX6_cells_208 : decode cX6_cells 208 = .ok (.iconst 1, 1) := by decide +kernel
theorem dX6_cells_209 : decode cX6_cells 209 = .ok (.if_icmp .eq 13, 3) := by decide +kernel
theorem dX6_cells_212 : decode cX6_cells 212 = .ok (.aload_n 0, 1) := by decide +kernel
theorem dX6_cells_213 : decode cX6_cells 213 = .ok (.iload_n 1, 1) := by decide +kernel
theorem dX6_cells_214 : decode cX6_cells 214 = .ok (.iconst 1, 1) := by decide +kernel
theorem dX6_cells_215 : decode cX6_cells 215 = .ok (.invokevirtual 119, 3) := by decide +kernel
theorem dX6_cells_218 : decode cX6_cells 218 = .ok (.iconst 1, 1) := by decide +kernel
theorem dX6_cells_219 : decode cX6_cells 219 = .ok (.if_icmp .ne 7, 3) := by decide +kernel
theorem dX6_cells_222 : decode cX6_cells 222 = .ok (.iconst 1, 1) := by decide +kernel
theorem dX6_cells_223 : decode cX6_cells 223 = .ok (.goto 4, 3) := by decide +kernel
theorem dX6_cells_226 : decode cX6_cells 226 = .ok (.iconst 0, 1) := by decide +kernel
theorem dX6_cells_227 : decode cX6_cells 227 = .ok (.istore_n 2, 1) := by decide +kernel
theorem dX6_cells_228 : decode cX6_cells 228 = .ok (.iload_n 2, 1) := by decide +kernel
theorem dX6_cells_229 : decode cX6_cells 229 = .ok (.ifCond .eq 37, 3) := by decide +kernel
theorem dX6_cells_232 : decode cX6_cells 232 = .ok (.aload_n 0, 1) := by decide +kernel
theorem dX6_cells_233 : decode cX6_cells 233 = .ok (.iload_n 1, 1) := by decide +kernel
theorem dX6_cells_234 : decode cX6_cells 234 = .ok (.iconst 0, 1) := by decide +kernel
theorem dX6_cells_235 : decode cX6_cells 235 = .ok (.invokevirtual 119, 3) := by decide +kernel
theorem dX6_cells_238 : decode cX6_cells 238 = .ok (.ifCond .le 28, 3) := by decide +kernel
theorem dX6_cells_241 : decode cX6_cells 241 = .ok (.aload_n 0, 1) := by decide +kernel
theorem dX6_cells_242 : decode cX6_cells 242 = .ok (.iload_n 1, 1) := by decide +kernel
theorem dX6_cells_243 : decode cX6_cells 243 = .ok (.iconst 1, 1) := by decide +kernel
theorem dX6_cells_244 : decode cX6_cells 244 = .ok (.invokevirtual 119, 3) := by decide +kernel
theorem dX6_cells_247 : decode cX6_cells 247 = .ok (.aload_n 0, 1) := by decide +kernel
theorem dX6_cells_248 : decode cX6_cells 248 = .ok (.iload_n 1, 1) := by decide +kernel
theorem dX6_cells_249 : decode cX6_cells 249 = .ok (.iconst 0, 1) := by decide +kernel
theorem dX6_cells_250 : decode cX6_cells 250 = .ok (.invokevirtual 119, 3) := by decide +kernel
theorem dX6_cells_253 : decode cX6_cells 253 = .ok (.iadd, 1) := by decide +kernel
theorem dX6_cells_254 : decode cX6_cells 254 = .ok (.iconst 2, 1) := by decide +kernel
theorem dX6_cells_255 : decode cX6_cells 255 = .ok (.if_icmp .ne 11, 3) := by decide +kernel
theorem dX6_cells_258 : decode cX6_cells 258 = .ok (.aload_n 0, 1) := by decide +kernel
theorem dX6_cells_259 : decode cX6_cells 259 = .ok (.iconst 4, 1) := by decide +kernel
theorem dX6_cells_260 : decode cX6_cells 260 = .ok (.iload_n 1, 1) := by decide +kernel
theorem dX6_cells_261 : decode cX6_cells 261 = .ok (.iconst 1, 1) := by decide +kernel
theorem dX6_cells_262 : decode cX6_cells 262 = .ok (.invokevirtual 126, 3) := by decide +kernel
theorem dX6_cells_265 : decode cX6_cells 265 = .ok (.ireturn, 1) := by decide +kernel
theorem dX6_cells_266 : decode cX6_cells 266 = .ok (.iinc 1 1, 3) := by decide +kernel
theorem dX6_cells_269 : decode cX6_cells 269 = .ok (.goto (-75), 3) := by decide +kernel
theorem dX6_cells_272 : decode cX6_cells 272 = .ok (.iconst 0, 1) := by decide +kernel
theorem dX6_cells_273 : decode cX6_cells 273 = .ok (.ireturn, 1) := by decide +kernel
theorem dX6_clear_0 : decode cX6_clear 0 = .ok (.iconst 0, 1) := by decide +kernel
theorem dX6_clear_1 : decode cX6_clear 1 = .ok (.istore_n 1, 1) := by decide +kernel
theorem dX6_clear_2 : decode cX6_clear 2 = .ok (.iload_n 1, 1) := by decide +kernel
theorem dX6_clear_3 : decode cX6_clear 3 = .ok (.bipush 64, 2) := by decide +kernel
theorem dX6_clear_5 : decode cX6_clear 5 = .ok (.if_icmp .ge 16, 3) := by decide +kernel
theorem dX6_clear_8 : decode cX6_clear 8 = .ok (.aload_n 0, 1) := by decide +kernel
theorem dX6_clear_9 : decode cX6_clear 9 = .ok (.getfield 66, 3) := by decide +kernel
theorem dX6_clear_12 : decode cX6_clear 12 = .ok (.iload_n 1, 1) := by decide +kernel
theorem dX6_clear_13 : decode cX6_clear 13 = .ok (.iconst 0, 1) := by decide +kernel
theorem dX6_clear_14 : decode cX6_clear 14 = .ok (.bastore, 1) := by decide +kernel
theorem dX6_clear_15 : decode cX6_clear 15 = .ok (.iinc 1 1, 3) := by decide +kernel
theorem dX6_clear_18 : decode cX6_clear 18 = .ok (.goto (-16), 3) := by decide +kernel
theorem dX6_clear_21 : decode cX6_clear 21 = .ok (.return_, 1) := by decide +kernel
set_option maxRecDepth 20000 in
theorem ggX6_spread_X6_clear : GoodIn wsX6_spread wsX6_clear := goodIn_r _ [7, 1, 22, 23, 24, 25, 26, 27, 28, 29, 30, 31, 32, 33, 34, 35, 36, 37, 38, 39, 40, 41, 42, 43, 44, 45, 46] (by decide +kernel) (by decide +kernel)
set_option maxRecDepth 20000 in
theorem gX6_spread_X6_clear : GoodIn wsX6_spread (wsV RX6 130 RX6 yX6_clear wsX6_clear) := goodIn_app (goodIn_of _ (by decide +kernel)) ggX6_spread_X6_clear
set_option maxRecDepth 20000 in
theorem ggX6_spread_X6_all : GoodIn wsX6_spread wsX6_all := goodIn_r _ [11, 12, 13, 22, 23, 24, 25, 26, 27, 28, 29, 30, 31, 32, 33, 34, 35, 36, 37, 38, 39, 40, 41, 42, 43, 44, 45, 46] (by decide +kernel) (by decide +kernel)
set_option maxRecDepth 20000 in
theorem gX6_spread_X6_all : GoodIn wsX6_spread (wsV RX6 78 RX6 yX6_all wsX6_all) := goodIn_app (goodIn_of _ (by decide +kernel)) ggX6_spread_X6_all
set_option maxRecDepth 20000 in
theorem ggX6_spread_X6_isEdge : GoodIn wsX6_spread wsX6_isEdge := goodIn_r _ [17, 12, 13, 8, 9, 10, 6, 11, 22, 23, 24, 25, 26, 27, 28, 29, 30, 31, 32, 33, 34, 35, 36, 37, 38, 39, 40, 41, 42, 43, 44, 45, 46] (by decide +kernel) (by decide +kernel)
set_option maxRecDepth 20000 in
theorem gX6_spread_X6_isEdge : GoodIn wsX6_spread (wsV RX6 82 RX6 yX6_isEdge wsX6_isEdge) := goodIn_app (goodIn_of _ (by decide +kernel)) ggX6_spread_X6_isEdge
set_option maxRecDepth 20000 in
theorem ggX6_spread_X6_other : GoodIn wsX6_spread wsX6_other := goodIn_r _ [21, 12, 22, 23, 24, 25, 26, 27, 28, 29, 30, 31, 32, 33, 34, 35, 36, 37, 38, 39, 40, 41, 42, 43, 44, 45, 46] (by decide +kernel) (by decide +kernel)
set_option maxRecDepth 20000 in
theorem gX6_spread_X6_other : GoodIn wsX6_spread (wsV RX6 94 RX6 yX6_other wsX6_other) := goodIn_app (goodIn_of _ (by decide +kernel)) ggX6_spread_X6_other
theorem dX6_spread_0 : decode cX6_spread 0 = .ok (.aload_n 0, 1) := by decide +kernel
theorem dX6_spread_1 : decode cX6_spread 1 = .ok (.invokevirtual 130, 3) := by decide +kernel
theorem dX6_spread_4 : decode cX6_spread 4 = .ok (.aload_n 0, 1) := by decide +kernel
theorem dX6_spread_5 : decode cX6_spread 5 = .ok (.getfield 66, 3) := by decide +kernel
theorem dX6_spread_8 : decode cX6_spread 8 = .ok (.iload_n 1, 1) := by decide +kernel
theorem dX6_spread_9 : decode cX6_spread 9 = .ok (.iconst 1, 1) := by decide +kernel
theorem dX6_spread_10 : decode cX6_spread 10 = .ok (.bastore, 1) := by decide +kernel
theorem dX6_spread_11 : decode cX6_spread 11 = .ok (.iconst 1, 1) := by decide +kernel
theorem dX6_spread_12 : decode cX6_spread 12 = .ok (.istore 4, 2) := by decide +kernel
theorem dX6_spread_14 : decode cX6_spread 14 = .ok (.iload 4, 2) := by decide +kernel
theorem dX6_spread_16 : decode cX6_spread 16 = .ok (.ifCond .eq 124, 3) := by decide +kernel
theorem dX6_spread_19 : decode cX6_spread 19 = .ok (.iconst 0, 1) := by decide +kernel
theorem dX6_spread_20 : decode cX6_spread 20 = .ok (.istore 4, 2) := by decide +kernel
theorem dX6_spread_22 : decode cX6_spread 22 = .ok (.iconst 0, 1) := by decide +kernel
theorem dX6_spread_23 : decode cX6_spread 23 = .ok (.istore 5, 2) := by decide +kernel
theorem dX6_spread_25 : decode cX6_spread 25 = .ok (.iload 5, 2) := by decide +kernel
theorem dX6_spread_27 : decode cX6_spread 27 = .ok (.iconst 2, 1) := by decide +kernel
theorem dX6_spread_28 : decode cX6_spread 28 = .ok (.aload_n 0, 1) := by decide +kernel
theorem dX6_spread_29 : decode cX6_spread 29 = .ok (.invokevirtual 78, 3) := by decide +kernel
theorem dX6_spread_32 : decode cX6_spread 32 = .ok (.imul, 1) := by decide +kernel
theorem dX6_spread_33 : decode cX6_spread 33 = .ok (.if_icmp .ge 104, 3) := by decide +kernel
theorem dX6_spread_36 : decode cX6_spread 36 = .ok (.aload_n 0, 1) := by decide +kernel
theorem dX6_spread_37 : decode cX6_spread 37 = .ok (.iload 5, 2) := by decide +kernel
theorem dX6_spread_39 : decode cX6_spread 39 = .ok (.invokevirtual 82, 3) := by decide +kernel
theorem dX6_spread_42 : decode cX6_spread 42 = .ok (.ifCond .eq 89, 3) := by decide +kernel
theorem dX6_spread_45 : decode cX6_spread 45 = .ok (.iload 5, 2) := by decide +kernel
theorem dX6_spread_47 : decode cX6_spread 47 = .ok (.iload_n 3, 1) := by decide +kernel
theorem dX6_spread_48 : decode cX6_spread 48 = .ok (.if_icmp .eq 83, 3) := by decide +kernel
theorem dX6_spread_51 : decode cX6_spread 51 = .ok (.iload_n 2, 1) := by decide +kernel
theorem dX6_spread_52 : decode cX6_spread 52 = .ok (.ifCond .eq 17, 3) := by decide +kernel
theorem dX6_spread_55 : decode cX6_spread 55 = .ok (.aload_n 0, 1) := by decide +kernel
theorem dX6_spread_56 : decode cX6_spread 56 = .ok (.getfield 7, 3) := by decide +kernel
theorem dX6_spread_59 : decode cX6_spread 59 = .ok (.iload 5, 2) := by decide +kernel
theorem dX6_spread_61 : decode cX6_spread 61 = .ok (.iaload, 1) := by decide +kernel
theorem dX6_spread_62 : decode cX6_spread 62 = .ok (.iconst 1, 1) := by decide +kernel
theorem dX6_spread_63 : decode cX6_spread 63 = .ok (.if_icmp .eq 17, 3) := by decide +kernel
theorem dX6_spread_66 : decode cX6_spread 66 = .ok (.goto 65, 3) := by decide +kernel
theorem dX6_spread_69 : decode cX6_spread 69 = .ok (.aload_n 0, 1) := by decide +kernel
theorem dX6_spread_70 : decode cX6_spread 70 = .ok (.getfield 7, 3) := by decide +kernel
theorem dX6_spread_73 : decode cX6_spread 73 = .ok (.iload 5, 2) := by decide +kernel
theorem dX6_spread_75 : decode cX6_spread 75 = .ok (.iaload, 1) := by decide +kernel
theorem dX6_spread_76 : decode cX6_spread 76 = .ok (.iconst 2, 1) := by decide +kernel
theorem dX6_spread_77 : decode cX6_spread 77 = .ok (.if_icmp .eq 54, 3) := by decide +kernel
theorem dX6_spread_80 : decode cX6_spread 80 = .ok (.aload_n 0, 1) := by decide +kernel
theorem dX6_spread_81 : decode cX6_spread 81 = .ok (.getfield 66, 3) := by decide +kernel
theorem dX6_spread_84 : decode cX6_spread 84 = .ok (.iload 5, 2) := by decide +kernel
theorem dX6_spread_86 : decode cX6_spread 86 = .ok (.iconst 2, 1) := by decide +kernel
theorem dX6_spread_87 : decode cX6_spread 87 = .ok (.idiv, 1) := by decide +kernel
theorem dX6_spread_88 : decode cX6_spread 88 = .ok (.baload, 1) := by decide +kernel
theorem dX6_spread_89 : decode cX6_spread 89 = .ok (.aload_n 0, 1) := by decide +kernel
theorem dX6_spread_90 : decode cX6_spread 90 = .ok (.getfield 66, 3) := by decide +kernel
theorem dX6_spread_93 : decode cX6_spread 93 = .ok (.aload_n 0, 1) := by decide +kernel
theorem dX6_spread_94 : decode cX6_spread 94 = .ok (.iload 5, 2) := by decide +kernel
theorem dX6_spread_96 : decode cX6_spread 96 = .ok (.invokevirtual 94, 3) := by decide +kernel
theorem dX6_spread_99 : decode cX6_spread 99 = .ok (.baload, 1) := by decide +kernel
theorem dX6_spread_100 : decode cX6_spread 100 = .ok (.if_icmp .ne 6, 3) := by decide +kernel
theorem dX6_spread_103 : decode cX6_spread 103 = .ok (.goto 28, 3) := by decide +kernel
theorem dX6_spread_106 : decode cX6_spread 106 = .ok (.aload_n 0, 1) := by decide +kernel
theorem dX6_spread_107 : decode cX6_spread 107 = .ok (.getfield 66, 3) := by decide +kernel
theorem dX6_spread_110 : decode cX6_spread 110 = .ok (.iload 5, 2) := by decide +kernel
theorem dX6_spread_112 : decode cX6_spread 112 = .ok (.iconst 2, 1) := by decide +kernel
theorem dX6_spread_113 : decode cX6_spread 113 = .ok (.idiv, 1) := by decide +kernel
theorem dX6_spread_114 : decode cX6_spread 114 = .ok (.iconst 1, 1) := by decide +kernel
theorem dX6_spread_115 : decode cX6_spread 115 = .ok (.bastore, 1) := by decide +kernel
theorem dX6_spread_116 : decode cX6_spread 116 = .ok (.aload_n 0, 1) := by decide +kernel
theorem dX6_spread_117 : decode cX6_spread 117 = .ok (.getfield 66, 3) := by decide +kernel
theorem dX6_spread_120 : decode cX6_spread 120 = .ok (.aload_n 0, 1) := by decide +kernel
theorem dX6_spread_121 : decode cX6_spread 121 = .ok (.iload 5, 2) := by decide +kernel
theorem dX6_spread_123 : decode cX6_spread 123 = .ok (.invokevirtual 94, 3) := by decide +kernel
theorem dX6_spread_126 : decode cX6_spread 126 = .ok (.iconst 1, 1) := by decide +kernel
theorem dX6_spread_127 : decode cX6_spread 127 = .ok (.bastore, 1) := by decide +kernel
theorem dX6_spread_128 : decode cX6_spread 128 = .ok (.iconst 1, 1) := by decide +kernel
theorem dX6_spread_129 : decode cX6_spread 129 = .ok (.istore 4, 2) := by decide +kernel
theorem dX6_spread_131 : decode cX6_spread 131 = .ok (.iinc 5 1, 3) := by decide +kernel
theorem dX6_spread_134 : decode cX6_spread 134 = .ok (.goto (-109), 3) := by decide +kernel
theorem dX6_spread_137 : decode cX6_spread 137 = .ok (.goto (-123), 3) := by decide +kernel
theorem dX6_spread_140 : decode cX6_spread 140 = .ok (.return_, 1) := by decide +kernel
set_option maxRecDepth 20000 in
theorem ggX6_isMore_X6_all : GoodIn wsX6_isMore wsX6_all := goodIn_r _ [8, 9, 10, 15, 16, 17, 18, 19, 20, 21, 22, 23, 24, 25, 26, 27, 28, 29, 30, 31, 32, 33, 34, 35, 36, 37, 38, 39] (by decide +kernel) (by decide +kernel)
set_option maxRecDepth 20000 in
theorem gX6_isMore_X6_all : GoodIn wsX6_isMore (wsV RX6 78 RX6 yX6_all wsX6_all) := goodIn_app (goodIn_of _ (by decide +kernel)) ggX6_isMore_X6_all
set_option maxRecDepth 20000 in
theorem ggX6_isMore_X6_isEdge : GoodIn wsX6_isMore wsX6_isEdge := goodIn_r _ [14, 9, 10, 4, 5, 6, 7, 8, 15, 16, 17, 18, 19, 20, 21, 22, 23, 24, 25, 26, 27, 28, 29, 30, 31, 32, 33, 34, 35, 36, 37, 38, 39] (by decide +kernel) (by decide +kernel)
set_option maxRecDepth 20000 in
theorem gX6_isMore_X6_isEdge : GoodIn wsX6_isMore (wsV RX6 82 RX6 yX6_isEdge wsX6_isEdge) := goodIn_app (goodIn_of _ (by decide +kernel)) ggX6_isMore_X6_isEdge
theorem dX6_isMore_0 : decode cX6_isMore 0 = .ok (.iconst 0, 1) := by decide +kernel
theorem dX6_isMore_1 : decode cX6_isMore 1 = .ok (.istore_n 1, 1) := by decide +kernel
theorem dX6_isMore_2 : decode cX6_isMore 2 = .ok (.iload_n 1, 1) := by decide +kernel
theorem dX6_isMore_3 : decode cX6_isMore 3 = .ok (.iconst 2, 1) := by decide +kernel
theorem dX6_isMore_4 : decode cX6_isMore 4 = .ok (.aload_n 0, 1) := by decide +kernel
theorem dX6_isMore_5 : decode cX6_isMore 5 = .ok (.invokevirtual 78, 3) := by decide +kernel
theorem dX6_isMore_8 : decode cX6_isMore 8 = .ok (.imul, 1) := by decide +kernel
theorem dX6_isMore_9 : decode cX6_isMore 9 = .ok (.if_icmp .ge 40, 3) := by decide +kernel
theorem dX6_isMore_12 : decode cX6_isMore 12 = .ok (.aload_n 0, 1) := by decide +kernel
theorem dX6_isMore_13 : decode cX6_isMore 13 = .ok (.iload_n 1, 1) := by decide +kernel
theorem dX6_isMore_14 : decode cX6_isMore 14 = .ok (.invokevirtual 82, 3) := by decide +kernel
theorem dX6_isMore_17 : decode cX6_isMore 17 = .ok (.ifCond .eq 26, 3) := by decide +kernel
theorem dX6_isMore_20 : decode cX6_isMore 20 = .ok (.aload_n 0, 1) := by decide +kernel
theorem dX6_isMore_21 : decode cX6_isMore 21 = .ok (.getfield 7, 3) := by decide +kernel
theorem dX6_isMore_24 : decode cX6_isMore 24 = .ok (.iload_n 1, 1) := by decide +kernel
theorem dX6_isMore_25 : decode cX6_isMore 25 = .ok (.iaload, 1) := by decide +kernel
theorem dX6_isMore_26 : decode cX6_isMore 26 = .ok (.iconst 1, 1) := by decide +kernel
theorem dX6_isMore_27 : decode cX6_isMore 27 = .ok (.if_icmp .ne 16, 3) := by decide +kernel
theorem dX6_isMore_30 : decode cX6_isMore 30 = .ok (.aload_n 0, 1) := by decide +kernel
theorem dX6_isMore_31 : decode cX6_isMore 31 = .ok (.getfield 66, 3) := by decide +kernel
theorem dX6_isMore_34 : decode cX6_isMore 34 = .ok (.iload_n 1, 1) := by decide +kernel
theorem dX6_isMore_35 : decode cX6_isMore 35 = .ok (.iconst 2, 1) := by decide +kernel
theorem dX6_isMore_36 : decode cX6_isMore 36 = .ok (.idiv, 1) := by decide +kernel
theorem dX6_isMore_37 : decode cX6_isMore 37 = .ok (.baload, 1) := by decide +kernel
theorem dX6_isMore_38 : decode cX6_isMore 38 = .ok (.ifCond .ne 5, 3) := by decide +kernel
theorem dX6_isMore_41 : decode cX6_isMore 41 = .ok (.iconst 1, 1) := by decide +kernel
theorem dX6_isMore_42 : decode cX6_isMore 42 = .ok (.ireturn, 1) := by decide +kernel
theorem dX6_isMore_43 : decode cX6_isMore 43 = .ok (.iinc 1 1, 3) := by decide +kernel
theorem dX6_isMore_46 : decode cX6_isMore 46 = .ok (.goto (-44), 3) := by decide +kernel
theorem dX6_isMore_49 : decode cX6_isMore 49 = .ok (.iconst 0, 1) := by decide +kernel
theorem dX6_isMore_50 : decode cX6_isMore 50 = .ok (.istore_n 1, 1) := by decide +kernel
theorem dX6_isMore_51 : decode cX6_isMore 51 = .ok (.iload_n 1, 1) := by decide +kernel
theorem dX6_isMore_52 : decode cX6_isMore 52 = .ok (.aload_n 0, 1) := by decide +kernel
theorem dX6_isMore_53 : decode cX6_isMore 53 = .ok (.invokevirtual 78, 3) := by decide +kernel
theorem dX6_isMore_56 : decode cX6_isMore 56 = .ok (.if_icmp .ge 30, 3) := by decide +kernel
theorem dX6_isMore_59 : decode cX6_isMore 59 = .ok (.aload_n 0, 1) := by decide +kernel
theorem dX6_isMore_60 : decode cX6_isMore 60 = .ok (.getfield 13, 3) := by decide +kernel
theorem dX6_isMore_63 : decode cX6_isMore 63 = .ok (.iload_n 1, 1) := by decide +kernel
theorem dX6_isMore_64 : decode cX6_isMore 64 = .ok (.iaload, 1) := by decide +kernel
theorem dX6_isMore_65 : decode cX6_isMore 65 = .ok (.iconst 1, 1) := by decide +kernel
theorem dX6_isMore_66 : decode cX6_isMore 66 = .ok (.if_icmp .ne 14, 3) := by decide +kernel
theorem dX6_isMore_69 : decode cX6_isMore 69 = .ok (.aload_n 0, 1) := by decide +kernel
theorem dX6_isMore_70 : decode cX6_isMore 70 = .ok (.getfield 66, 3) := by decide +kernel
theorem dX6_isMore_73 : decode cX6_isMore 73 = .ok (.iload_n 1, 1) := by decide +kernel
theorem dX6_isMore_74 : decode cX6_isMore 74 = .ok (.baload, 1) := by decide +kernel
theorem dX6_isMore_75 : decode cX6_isMore 75 = .ok (.ifCond .ne 5, 3) := by decide +kernel
theorem dX6_isMore_78 : decode cX6_isMore 78 = .ok (.iconst 1, 1) := by decide +kernel
theorem dX6_isMore_79 : decode cX6_isMore 79 = .ok (.ireturn, 1) := by decide +kernel
theorem dX6_isMore_80 : decode cX6_isMore 80 = .ok (.iinc 1 1, 3) := by decide +kernel
theorem dX6_isMore_83 : decode cX6_isMore 83 = .ok (.goto (-32), 3) := by decide +kernel
theorem dX6_isMore_86 : decode cX6_isMore 86 = .ok (.iconst 0, 1) := by decide +kernel
theorem dX6_isMore_87 : decode cX6_isMore 87 = .ok (.ireturn, 1) := by decide +kernel
set_option maxRecDepth 20000 in
theorem ggX6_isClosed_X6_all : GoodIn wsX6_isClosed wsX6_all := goodIn_r _ [6, 7, 8, 22, 23, 24, 25, 26, 27, 28, 29, 30, 31, 32, 33, 34, 35, 36, 37, 38, 39, 40, 41, 42, 43, 44, 45, 46] (by decide +kernel) (by decide +kernel)
set_option maxRecDepth 20000 in
theorem gX6_isClosed_X6_all : GoodIn wsX6_isClosed (wsV RX6 78 RX6 yX6_all wsX6_all) := goodIn_app (goodIn_of _ (by decide +kernel)) ggX6_isClosed_X6_all
set_option maxRecDepth 20000 in
theorem ggX6_isClosed_X6_count : GoodIn wsX6_isClosed wsX6_count := goodIn_r _ [12, 13, 14, 15, 16, 5, 17, 7, 18, 19, 20, 21, 8, 2, 3, 4, 6, 22, 23, 24, 25, 26, 27, 28, 29, 30, 31, 32, 33, 34, 35, 36, 37, 38, 39, 40, 41, 42, 43, 44, 45, 46] (by decide +kernel) (by decide +kernel)
set_option maxRecDepth 20000 in
theorem gX6_isClosed_X6_count : GoodIn wsX6_isClosed (wsV RX6 119 RX6 yX6_count wsX6_count) := goodIn_app (goodIn_of _ (by decide +kernel)) ggX6_isClosed_X6_count
theorem dX6_isClosed_0 : decode cX6_isClosed 0 = .ok (.iconst 0, 1) := by decide +kernel
theorem dX6_isClosed_1 : decode cX6_isClosed 1 = .ok (.istore_n 1, 1) := by decide +kernel
theorem dX6_isClosed_2 : decode cX6_isClosed 2 = .ok (.iload_n 1, 1) := by decide +kernel
theorem dX6_isClosed_3 : decode cX6_isClosed 3 = .ok (.aload_n 0, 1) := by decide +kernel
theorem dX6_isClosed_4 : decode cX6_isClosed 4 = .ok (.invokevirtual 78, 3) := by decide +kernel
theorem dX6_isClosed_7 : decode cX6_isClosed 7 = .ok (.if_icmp .ge 30, 3) := by decide +kernel
theorem dX6_isClosed_10 : decode cX6_isClosed 10 = .ok (.aload_n 0, 1) := by decide +kernel
theorem dX6_isClosed_11 : decode cX6_isClosed 11 = .ok (.getfield 66, 3) := by decide +kernel
theorem dX6_isClosed_14 : decode cX6_isClosed 14 = .ok (.iload_n 1, 1) := by decide +kernel
theorem dX6_isClosed_15 : decode cX6_isClosed 15 = .ok (.baload, 1) := by decide +kernel
theorem dX6_isClosed_16 : decode cX6_isClosed 16 = .ok (.ifCond .eq 15, 3) := by decide +kernel
theorem dX6_isClosed_19 : decode cX6_isClosed 19 = .ok (.aload_n 0, 1) := by decide +kernel
theorem dX6_isClosed_20 : decode cX6_isClosed 20 = .ok (.iload_n 1, 1) := by decide +kernel
theorem dX6_isClosed_21 : decode cX6_isClosed 21 = .ok (.iconst 1, 1) := by decide +kernel
theorem dX6_isClosed_22 : decode cX6_isClosed 22 = .ok (.invokevirtual 119, 3) := by decide +kernel
theorem dX6_isClosed_25 : decode cX6_isClosed 25 = .ok (.iconst 2, 1) := by decide +kernel
theorem dX6_isClosed_26 : decode cX6_isClosed 26 = .ok (.if_icmp .eq 5, 3) := by decide +kernel
theorem dX6_isClosed_29 : decode cX6_isClosed 29 = .ok (.iconst 0, 1) := by decide +kernel
theorem dX6_isClosed_30 : decode cX6_isClosed 30 = .ok (.ireturn, 1) := by decide +kernel
theorem dX6_isClosed_31 : decode cX6_isClosed 31 = .ok (.iinc 1 1, 3) := by decide +kernel
theorem dX6_isClosed_34 : decode cX6_isClosed 34 = .ok (.goto (-32), 3) := by decide +kernel
theorem dX6_isClosed_37 : decode cX6_isClosed 37 = .ok (.iconst 1, 1) := by decide +kernel
theorem dX6_isClosed_38 : decode cX6_isClosed 38 = .ok (.ireturn, 1) := by decide +kernel
set_option maxRecDepth 20000 in
theorem ggX6_loops_X6_all : GoodIn wsX6_loops wsX6_all := goodIn_r _ [7, 8, 9, 70, 71, 72, 73, 74, 75, 76, 77, 78, 79, 80, 81, 82, 83, 84, 85, 86, 87, 88, 89, 90, 91, 92, 93, 94] (by decide +kernel) (by decide +kernel)
set_option maxRecDepth 20000 in
theorem gX6_loops_X6_all : GoodIn wsX6_loops (wsV RX6 78 RX6 yX6_all wsX6_all) := goodIn_app (goodIn_of _ (by decide +kernel)) ggX6_loops_X6_all
set_option maxRecDepth 20000 in
theorem ggX6_loops_X6_count : GoodIn wsX6_loops wsX6_count := goodIn_r _ [13, 1, 14, 15, 16, 6, 17, 8, 18, 19, 20, 21, 9, 3, 4, 5, 7, 70, 71, 72, 73, 74, 75, 76, 77, 78, 79, 80, 81, 82, 83, 84, 85, 86, 87, 88, 89, 90, 91, 92, 93, 94] (by decide +kernel) (by decide +kernel)
set_option maxRecDepth 20000 in
theorem gX6_loops_X6_count : GoodIn wsX6_loops (wsV RX6 119 RX6 yX6_count wsX6_count) := goodIn_app (goodIn_of _ (by decide +kernel)) ggX6_loops_X6_count
set_option maxRecDepth 20000 in
theorem ggX6_loops_X6_spread : GoodIn wsX6_loops wsX6_spread := goodIn_r _ [25, 2, 1, 26, 27, 28, 6, 29, 3, 4, 5, 7, 8, 9, 18, 19, 20, 21, 30, 31, 32, 33, 70, 71, 72, 73, 74, 75, 76, 77, 78, 79, 80, 81, 82, 83, 84, 85, 86, 87, 88, 89, 90, 91, 92, 93, 94] (by decide +kernel) (by decide +kernel)
set_option maxRecDepth 20000 in
theorem gX6_loops_X6_spread : GoodIn wsX6_loops (wsV RX6 133 RX6 yX6_spread wsX6_spread) := goodIn_app (goodIn_of _ (by decide +kernel)) ggX6_loops_X6_spread
set_option maxRecDepth 20000 in
theorem ggX6_loops_X6_isClosed : GoodIn wsX6_loops wsX6_isClosed := goodIn_r _ [37, 2, 3, 4, 5, 6, 7, 8, 9, 10, 11, 12, 13, 1, 14, 15, 16, 17, 18, 19, 20, 21, 70, 71, 72, 73, 74, 75, 76, 77, 78, 79, 80, 81, 82, 83, 84, 85, 86, 87, 88, 89, 90, 91, 92, 93, 94] (by decide +kernel) (by decide +kernel)
set_option maxRecDepth 20000 in
theorem gX6_loops_X6_isClosed : GoodIn wsX6_loops (wsV RX6 137 RX6 yX6_isClosed wsX6_isClosed) := goodIn_app (goodIn_of _ (by decide +kernel)) ggX6_loops_X6_isClosed
set_option maxRecDepth 20000 in
theorem ggX6_loops_X6_isMore : GoodIn wsX6_loops wsX6_isMore := goodIn_r _ [41, 1, 2, 42, 3, 4, 5, 6, 7, 8, 9, 18, 19, 20, 21, 70, 71, 72, 73, 74, 75, 76, 77, 78, 79, 80, 81, 82, 83, 84, 85, 86, 87, 88, 89, 90, 91, 92, 93, 94] (by decide +kernel) (by decide +kernel)
set_option maxRecDepth 20000 in
theorem gX6_loops_X6_isMore : GoodIn wsX6_loops (wsV RX6 141 RX6 yX6_isMore wsX6_isMore) := goodIn_app (goodIn_of _ (by decide +kernel)) ggX6_loops_X6_isMore
set_option maxRecDepth 20000 in
theorem ggX6_loops_X6_isWrongAt : GoodIn wsX6_loops wsX6_isWrongAt := goodIn_r _ [46, 47, 48, 49, 50, 6, 51, 52, 53, 54, 55, 70, 71, 72, 73, 74, 75, 76, 77, 78, 79, 80, 81, 82, 83, 84, 85, 86, 87, 88, 89, 90, 91, 92, 93, 94] (by decide +kernel) (by decide +kernel)
set_option maxRecDepth 20000 in
theorem gX6_loops_X6_isWrongAt : GoodIn wsX6_loops (wsV RX6 122 RX6 yX6_isWrongAt wsX6_isWrongAt) := goodIn_app (goodIn_of _ (by decide +kernel)) ggX6_loops_X6_isWrongAt
set_option maxRecDepth 20000 in
theorem ggX6_loops_X6_isEdge : GoodIn wsX6_loops wsX6_isEdge := goodIn_r _ [21, 8, 9, 3, 4, 5, 6, 7, 70, 71, 72, 73, 74, 75, 76, 77, 78, 79, 80, 81, 82, 83, 84, 85, 86, 87, 88, 89, 90, 91, 92, 93, 94] (by decide +kernel) (by decide +kernel)
set_option maxRecDepth 20000 in
theorem gX6_loops_X6_isEdge : GoodIn wsX6_loops (wsV RX6 82 RX6 yX6_isEdge wsX6_isEdge) := goodIn_app (goodIn_of _ (by decide +kernel)) ggX6_loops_X6_isEdge
set_option maxRecDepth 20000 in
theorem ggX6_loops_X6_other : GoodIn wsX6_loops wsX6_other := goodIn_r _ [33, 8, 70, 71, 72, 73, 74, 75, 76, 77, 78, 79, 80, 81, 82, 83, 84, 85, 86, 87, 88, 89, 90, 91, 92, 93, 94] (by decide +kernel) (by decide +kernel)
set_option maxRecDepth 20000 in
theorem gX6_loops_X6_other : GoodIn wsX6_loops (wsV RX6 94 RX6 yX6_other wsX6_other) := goodIn_app (goodIn_of _ (by decide +kernel)) ggX6_loops_X6_other
set_option maxRecDepth 20000 in
theorem ggX6_loops_X6_setOne : GoodIn wsX6_loops wsX6_setOne := goodIn_r _ [59, 48, 49, 50, 6, 51, 52, 53, 54, 55, 60, 61, 62, 63, 1, 64, 65, 66, 67, 68, 69, 70, 71, 72, 73, 74, 75, 76, 77, 78, 79, 80, 81, 82, 83, 84, 85, 86, 87, 88, 89, 90, 91, 92, 93, 94] (by decide +kernel) (by decide +kernel)
set_option maxRecDepth 20000 in
theorem gX6_loops_X6_setOne : GoodIn wsX6_loops (wsV RX6 144 RX6 yX6_setOne wsX6_setOne) := goodIn_app (goodIn_of _ (by decide +kernel)) ggX6_loops_X6_setOne
theorem dX6_loops_0 : decode cX6_loops 0 = .ok (.iconst 0, 1) := by decide +kernel
theorem dX6_loops_1 : decode cX6_loops 1 = .ok (.istore_n 1, 1) := by decide +kernel
theorem dX6_loops_2 : decode cX6_loops 2 = .ok (.iload_n 1, 1) := by decide +kernel
theorem dX6_loops_3 : decode cX6_loops 3 = .ok (.aload_n 0, 1) := by decide +kernel
theorem dX6_loops_4 : decode cX6_loops 4 = .ok (.invokevirtual 78, 3) := by decide +kernel
theorem dX6_loops_7 : decode cX6_loops 7 = .ok (.if_icmp .ge 50, 3) := by decide +kernel
theorem dX6_loops_10 : decode cX6_loops 10 = .ok (.aload_n 0, 1) := by decide +kernel
theorem dX6_loops_11 : decode cX6_loops 11 = .ok (.iload_n 1, 1) := by decide +kernel
theorem dX6_loops_12 : decode cX6_loops 12 = .ok (.iconst 1, 1) := by decide +kernel
theorem dX6_loops_13 : decode cX6_loops 13 = .ok (.invokevirtual 119, 3) := by decide +kernel
theorem dX6_loops_16 : decode cX6_loops 16 = .ok (.iconst 2, 1) := by decide +kernel
theorem dX6_loops_17 : decode cX6_loops 17 = .ok (.if_icmp .eq 6, 3) := by decide +kernel
theorem dX6_loops_20 : decode cX6_loops 20 = .ok (.goto 31, 3) := by decide +kernel
theorem dX6_loops_23 : decode cX6_loops 23 = .ok (.aload_n 0, 1) := by decide +kernel
theorem dX6_loops_24 : decode cX6_loops 24 = .ok (.iload_n 1, 1) := by decide +kernel
theorem dX6_loops_25 : decode cX6_loops 25 = .ok (.iconst 1, 1) := by decide +kernel
theorem dX6_loops_26 : decode cX6_loops 26 = .ok (.iconst (-1), 1) := by decide +kernel
theorem dX6_loops_27 : decode cX6_loops 27 = .ok (.invokevirtual 133, 3) := by decide +kernel
theorem dX6_loops_30 : decode cX6_loops 30 = .ok (.aload_n 0, 1) := by decide +kernel
theorem dX6_loops_31 : decode cX6_loops 31 = .ok (.invokevirtual 137, 3) := by decide +kernel
theorem dX6_loops_34 : decode cX6_loops 34 = .ok (.ifCond .eq 17, 3) := by decide +kernel
theorem dX6_loops_37 : decode cX6_loops 37 = .ok (.aload_n 0, 1) := by decide +kernel
theorem dX6_loops_38 : decode cX6_loops 38 = .ok (.invokevirtual 141, 3) := by decide +kernel
theorem dX6_loops_41 : decode cX6_loops 41 = .ok (.ifCond .eq 10, 3) := by decide +kernel
theorem dX6_loops_44 : decode cX6_loops 44 = .ok (.aload_n 0, 1) := by decide +kernel
theorem dX6_loops_45 : decode cX6_loops 45 = .ok (.iconst 5, 1) := by decide +kernel
theorem dX6_loops_46 : decode cX6_loops 46 = .ok (.iload_n 1, 1) := by decide +kernel
theorem dX6_loops_47 : decode cX6_loops 47 = .ok (.invokevirtual 122, 3) := by decide +kernel
theorem dX6_loops_50 : decode cX6_loops 50 = .ok (.ireturn, 1) := by decide +kernel
theorem dX6_loops_51 : decode cX6_loops 51 = .ok (.iinc 1 1, 3) := by decide +kernel
theorem dX6_loops_54 : decode cX6_loops 54 = .ok (.goto (-52), 3) := by decide +kernel
theorem dX6_loops_57 : decode cX6_loops 57 = .ok (.iconst 0, 1) := by decide +kernel
theorem dX6_loops_58 : decode cX6_loops 58 = .ok (.istore_n 1, 1) := by decide +kernel
theorem dX6_loops_59 : decode cX6_loops 59 = .ok (.iload_n 1, 1) := by decide +kernel
theorem dX6_loops_60 : decode cX6_loops 60 = .ok (.iconst 2, 1) := by decide +kernel
theorem dX6_loops_61 : decode cX6_loops 61 = .ok (.aload_n 0, 1) := by decide +kernel
theorem dX6_loops_62 : decode cX6_loops 62 = .ok (.invokevirtual 78, 3) := by decide +kernel
theorem dX6_loops_65 : decode cX6_loops 65 = .ok (.imul, 1) := by decide +kernel
theorem dX6_loops_66 : decode cX6_loops 66 = .ok (.if_icmp .ge 94, 3) := by decide +kernel
theorem dX6_loops_69 : decode cX6_loops 69 = .ok (.aload_n 0, 1) := by decide +kernel
theorem dX6_loops_70 : decode cX6_loops 70 = .ok (.iload_n 1, 1) := by decide +kernel
theorem dX6_loops_71 : decode cX6_loops 71 = .ok (.invokevirtual 82, 3) := by decide +kernel
theorem dX6_loops_74 : decode cX6_loops 74 = .ok (.ifCond .eq 80, 3) := by decide +kernel
theorem dX6_loops_77 : decode cX6_loops 77 = .ok (.aload_n 0, 1) := by decide +kernel
theorem dX6_loops_78 : decode cX6_loops 78 = .ok (.getfield 7, 3) := by decide +kernel
theorem dX6_loops_81 : decode cX6_loops 81 = .ok (.iload_n 1, 1) := by decide +kernel
theorem dX6_loops_82 : decode cX6_loops 82 = .ok (.iaload, 1) := by decide +kernel
theorem dX6_loops_83 : decode cX6_loops 83 = .ok (.ifCond .ne 71, 3) := by decide +kernel
theorem dX6_loops_86 : decode cX6_loops 86 = .ok (.aload_n 0, 1) := by decide +kernel
theorem dX6_loops_87 : decode cX6_loops 87 = .ok (.iload_n 1, 1) := by decide +kernel
theorem dX6_loops_88 : decode cX6_loops 88 = .ok (.iconst 2, 1) := by decide +kernel
theorem dX6_loops_89 : decode cX6_loops 89 = .ok (.idiv, 1) := by decide +kernel
theorem dX6_loops_90 : decode cX6_loops 90 = .ok (.iconst 1, 1) := by decide +kernel
theorem dX6_loops_91 : decode cX6_loops 91 = .ok (.invokevirtual 119, 3) := by decide +kernel
theorem dX6_loops_94 : decode cX6_loops 94 = .ok (.iconst 1, 1) := by decide +kernel
theorem dX6_loops_95 : decode cX6_loops 95 = .ok (.if_icmp .ne 59, 3) := by decide +kernel
theorem dX6_loops_98 : decode cX6_loops 98 = .ok (.aload_n 0, 1) := by decide +kernel
theorem dX6_loops_99 : decode cX6_loops 99 = .ok (.aload_n 0, 1) := by decide +kernel
theorem dX6_loops_100 : decode cX6_loops 100 = .ok (.iload_n 1, 1) := by decide +kernel
theorem dX6_loops_101 : decode cX6_loops 101 = .ok (.invokevirtual 94, 3) := by decide +kernel
theorem dX6_loops_104 : decode cX6_loops 104 = .ok (.iconst 1, 1) := by decide +kernel
theorem dX6_loops_105 : decode cX6_loops 105 = .ok (.invokevirtual 119, 3) := by decide +kernel
theorem dX6_loops_108 : decode cX6_loops 108 = .ok (.iconst 1, 1) := by decide +kernel
theorem dX6_loops_109 : decode cX6_loops 109 = .ok (.if_icmp .eq 6, 3) := by decide +kernel
theorem dX6_loops_112 : decode cX6_loops 112 = .ok (.goto 42, 3) := by decide +kernel
theorem dX6_loops_115 : decode cX6_loops 115 = .ok (.aload_n 0, 1) := by decide +kernel
theorem dX6_loops_116 : decode cX6_loops 116 = .ok (.iload_n 1, 1) := by decide +kernel
theorem dX6_loops_117 : decode cX6_loops 117 = .ok (.iconst 2, 1) := by decide +kernel
theorem dX6_loops_118 : decode cX6_loops 118 = .ok (.idiv, 1) := by decide +kernel
theorem dX6_loops_119 : decode cX6_loops 119 = .ok (.iconst 1, 1) := by decide +kernel
theorem dX6_loops_120 : decode cX6_loops 120 = .ok (.iconst (-1), 1) := by decide +kernel
theorem dX6_loops_121 : decode cX6_loops 121 = .ok (.invokevirtual 133, 3) := by decide +kernel
theorem dX6_loops_124 : decode cX6_loops 124 = .ok (.aload_n 0, 1) := by decide +kernel
theorem dX6_loops_125 : decode cX6_loops 125 = .ok (.getfield 66, 3) := by decide +kernel
theorem dX6_loops_128 : decode cX6_loops 128 = .ok (.aload_n 0, 1) := by decide +kernel
theorem dX6_loops_129 : decode cX6_loops 129 = .ok (.iload_n 1, 1) := by decide +kernel
theorem dX6_loops_130 : decode cX6_loops 130 = .ok (.invokevirtual 94, 3) := by decide +kernel
theorem dX6_loops_133 : decode cX6_loops 133 = .ok (.baload, 1) := by decide +kernel
theorem dX6_loops_134 : decode cX6_loops 134 = .ok (.ifCond .eq 20, 3) := by decide +kernel
theorem dX6_loops_137 : decode cX6_loops 137 = .ok (.aload_n 0, 1) := by decide +kernel
theorem dX6_loops_138 : decode cX6_loops 138 = .ok (.invokevirtual 141, 3) := by decide +kernel
theorem dX6_loops_141 : decode cX6_loops 141 = .ok (.ifCond .eq 13, 3) := by decide +kernel
theorem dX6_loops_144 : decode cX6_loops 144 = .ok (.aload_n 0, 1) := by decide +kernel
theorem dX6_loops_145 : decode cX6_loops 145 = .ok (.bipush 6, 2) := by decide +kernel
theorem dX6_loops_147 : decode cX6_loops 147 = .ok (.iload_n 1, 1) := by decide +kernel
theorem dX6_loops_148 : decode cX6_loops 148 = .ok (.iload_n 1, 1) := by decide +kernel
theorem dX6_loops_149 : decode cX6_loops 149 = .ok (.iconst 2, 1) := by decide +kernel
theorem dX6_loops_150 : decode cX6_loops 150 = .ok (.invokevirtual 144, 3) := by decide +kernel
theorem dX6_loops_153 : decode cX6_loops 153 = .ok (.ireturn, 1) := by decide +kernel
theorem dX6_loops_154 : decode cX6_loops 154 = .ok (.iinc 1 1, 3) := by decide +kernel
theorem dX6_loops_157 : decode cX6_loops 157 = .ok (.goto (-98), 3) := by decide +kernel
theorem dX6_loops_160 : decode cX6_loops 160 = .ok (.iconst 0, 1) := by decide +kernel
theorem dX6_loops_161 : decode cX6_loops 161 = .ok (.ireturn, 1) := by decide +kernel
set_option maxRecDepth 20000 in
theorem ggX6_borders_X6_all : GoodIn wsX6_borders wsX6_all := goodIn_r _ [8, 1, 2, 40, 41, 42, 43, 44, 45, 46, 47, 48, 49, 50, 51, 52, 53, 54, 55, 56, 57, 58, 59, 60, 61, 62, 63, 64] (by decide +kernel) (by decide +kernel)
set_option maxRecDepth 20000 in
theorem gX6_borders_X6_all : GoodIn wsX6_borders (wsV RX6 78 RX6 yX6_all wsX6_all) := goodIn_app (goodIn_of _ (by decide +kernel)) ggX6_borders_X6_all
set_option maxRecDepth 20000 in
theorem ggX6_borders_X6_isEdge : GoodIn wsX6_borders wsX6_isEdge := goodIn_r _ [12, 1, 2, 4, 5, 6, 7, 8, 40, 41, 42, 43, 44, 45, 46, 47, 48, 49, 50, 51, 52, 53, 54, 55, 56, 57, 58, 59, 60, 61, 62, 63, 64] (by decide +kernel) (by decide +kernel)
set_option maxRecDepth 20000 in
theorem gX6_borders_X6_isEdge : GoodIn wsX6_borders (wsV RX6 82 RX6 yX6_isEdge wsX6_isEdge) := goodIn_app (goodIn_of _ (by decide +kernel)) ggX6_borders_X6_isEdge
set_option maxRecDepth 20000 in
theorem ggX6_borders_X6_isWrongAt : GoodIn wsX6_borders wsX6_isWrongAt := goodIn_r _ [16, 17, 18, 19, 20, 7, 21, 22, 23, 24, 25, 40, 41, 42, 43, 44, 45, 46, 47, 48, 49, 50, 51, 52, 53, 54, 55, 56, 57, 58, 59, 60, 61, 62, 63, 64] (by decide +kernel) (by decide +kernel)
set_option maxRecDepth 20000 in
theorem gX6_borders_X6_isWrongAt : GoodIn wsX6_borders (wsV RX6 122 RX6 yX6_isWrongAt wsX6_isWrongAt) := goodIn_app (goodIn_of _ (by decide +kernel)) ggX6_borders_X6_isWrongAt
set_option maxRecDepth 20000 in
theorem ggX6_borders_X6_setOne : GoodIn wsX6_borders wsX6_setOne := goodIn_r _ [29, 18, 19, 20, 7, 21, 22, 23, 24, 25, 30, 31, 32, 33, 3, 34, 35, 36, 37, 38, 39, 40, 41, 42, 43, 44, 45, 46, 47, 48, 49, 50, 51, 52, 53, 54, 55, 56, 57, 58, 59, 60, 61, 62, 63, 64] (by decide +kernel) (by decide +kernel)
set_option maxRecDepth 20000 in
theorem gX6_borders_X6_setOne : GoodIn wsX6_borders (wsV RX6 144 RX6 yX6_setOne wsX6_setOne) := goodIn_app (goodIn_of _ (by decide +kernel)) ggX6_borders_X6_setOne
theorem dX6_borders_0 : decode cX6_borders 0 = .ok (.iconst 0, 1) := by decide +kernel
theorem dX6_borders_1 : decode cX6_borders 1 = .ok (.istore_n 1, 1) := by decide +kernel
theorem dX6_borders_2 : decode cX6_borders 2 = .ok (.iload_n 1, 1) := by decide +kernel
theorem dX6_borders_3 : decode cX6_borders 3 = .ok (.aload_n 0, 1) := by decide +kernel
theorem dX6_borders_4 : decode cX6_borders 4 = .ok (.getfield 69, 3) := by decide +kernel
theorem dX6_borders_7 : decode cX6_borders 7 = .ok (.aload_n 0, 1) := by decide +kernel
theorem dX6_borders_8 : decode cX6_borders 8 = .ok (.getfield 72, 3) := by decide +kernel
theorem dX6_borders_11 : decode cX6_borders 11 = .ok (.iadd, 1) := by decide +kernel
theorem dX6_borders_12 : decode cX6_borders 12 = .ok (.iconst 2, 1) := by decide +kernel
theorem dX6_borders_13 : decode cX6_borders 13 = .ok (.isub, 1) := by decide +kernel
theorem dX6_borders_14 : decode cX6_borders 14 = .ok (.if_icmp .ge 196, 3) := by decide +kernel
theorem dX6_borders_17 : decode cX6_borders 17 = .ok (.iconst 0, 1) := by decide +kernel
theorem dX6_borders_18 : decode cX6_borders 18 = .ok (.istore_n 2, 1) := by decide +kernel
theorem dX6_borders_19 : decode cX6_borders 19 = .ok (.iconst 0, 1) := by decide +kernel
theorem dX6_borders_20 : decode cX6_borders 20 = .ok (.istore_n 3, 1) := by decide +kernel
theorem dX6_borders_21 : decode cX6_borders 21 = .ok (.iconst (-1), 1) := by decide +kernel
theorem dX6_borders_22 : decode cX6_borders 22 = .ok (.istore 4, 2) := by decide +kernel
theorem dX6_borders_24 : decode cX6_borders 24 = .ok (.iconst 0, 1) := by decide +kernel
theorem dX6_borders_25 : decode cX6_borders 25 = .ok (.istore 5, 2) := by decide +kernel
theorem dX6_borders_27 : decode cX6_borders 27 = .ok (.iload 5, 2) := by decide +kernel
theorem dX6_borders_29 : decode cX6_borders 29 = .ok (.iconst 2, 1) := by decide +kernel
theorem dX6_borders_30 : decode cX6_borders 30 = .ok (.aload_n 0, 1) := by decide +kernel
theorem dX6_borders_31 : decode cX6_borders 31 = .ok (.invokevirtual 78, 3) := by decide +kernel
theorem dX6_borders_34 : decode cX6_borders 34 = .ok (.imul, 1) := by decide +kernel
theorem dX6_borders_35 : decode cX6_borders 35 = .ok (.if_icmp .ge 123, 3) := by decide +kernel
theorem dX6_borders_38 : decode cX6_borders 38 = .ok (.aload_n 0, 1) := by decide +kernel
theorem dX6_borders_39 : decode cX6_borders 39 = .ok (.iload 5, 2) := by decide +kernel
theorem dX6_borders_41 : decode cX6_borders 41 = .ok (.invokevirtual 82, 3) := by decide +kernel
theorem dX6_borders_44 : decode cX6_borders 44 = .ok (.ifCond .ne 6, 3) := by decide +kernel
theorem dX6_borders_47 : decode cX6_borders 47 = .ok (.goto 105, 3) := by decide +kernel
theorem dX6_borders_50 : decode cX6_borders 50 = .ok (.iload 5, 2) := by decide +kernel
theorem dX6_borders_52 : decode cX6_borders 52 = .ok (.iconst 2, 1) := by decide +kernel
theorem dX6_borders_53 : decode cX6_borders 53 = .ok (.irem, 1) := by decide +kernel
theorem dX6_borders_54 : decode cX6_borders 54 = .ok (.ifCond .ne 15, 3) := by decide +kernel
theorem dX6_borders_57 : decode cX6_borders 57 = .ok (.iload 5, 2) := by decide +kernel
theorem dX6_borders_59 : decode cX6_borders 59 = .ok (.iconst 2, 1) := by decide +kernel
theorem dX6_borders_60 : decode cX6_borders 60 = .ok (.idiv, 1) := by decide +kernel
theorem dX6_borders_61 : decode cX6_borders 61 = .ok (.aload_n 0, 1) := by decide +kernel
theorem dX6_borders_62 : decode cX6_borders 62 = .ok (.getfield 69, 3) := by decide +kernel
theorem dX6_borders_65 : decode cX6_borders 65 = .ok (.irem, 1) := by decide +kernel
theorem dX6_borders_66 : decode cX6_borders 66 = .ok (.goto 19, 3) := by decide +kernel
theorem dX6_borders_69 : decode cX6_borders 69 = .ok (.aload_n 0, 1) := by decide +kernel
theorem dX6_borders_70 : decode cX6_borders 70 = .ok (.getfield 69, 3) := by decide +kernel
theorem dX6_borders_73 : decode cX6_borders 73 = .ok (.iconst 1, 1) := by decide +kernel
theorem dX6_borders_74 : decode cX6_borders 74 = .ok (.isub, 1) := by decide +kernel
theorem dX6_borders_75 : decode cX6_borders 75 = .ok (.iload 5, 2) := by decide +kernel
theorem dX6_borders_77 : decode cX6_borders 77 = .ok (.iconst 2, 1) := by decide +kernel
theorem dX6_borders_78 : decode cX6_borders 78 = .ok (.idiv, 1) := by decide +kernel
theorem dX6_borders_79 : decode cX6_borders 79 = .ok (.aload_n 0, 1) := by decide +kernel
theorem dX6_borders_80 : decode cX6_borders 80 = .ok (.getfield 69, 3) := by decide +kernel
theorem dX6_borders_83 : decode cX6_borders 83 = .ok (.idiv, 1) := by decide +kernel
theorem dX6_borders_84 : decode cX6_borders 84 = .ok (.iadd, 1) := by decide +kernel
theorem dX6_borders_85 : decode cX6_borders 85 = .ok (.istore 6, 2) := by decide +kernel
theorem dX6_borders_87 : decode cX6_borders 87 = .ok (.iload 6, 2) := by decide +kernel
theorem dX6_borders_89 : decode cX6_borders 89 = .ok (.iload_n 1, 1) := by decide +kernel
theorem dX6_borders_90 : decode cX6_borders 90 = .ok (.if_icmp .eq 6, 3) := by decide +kernel
theorem dX6_borders_93 : decode cX6_borders 93 = .ok (.goto 59, 3) := by decide +kernel
theorem dX6_borders_96 : decode cX6_borders 96 = .ok (.iload_n 2, 1) := by decide +kernel
theorem dX6_borders_97 : decode cX6_borders 97 = .ok (.aload_n 0, 1) := by decide +kernel
theorem dX6_borders_98 : decode cX6_borders 98 = .ok (.getfield 7, 3) := by decide +kernel
theorem dX6_borders_101 : decode cX6_borders 101 = .ok (.iload 5, 2) := by decide +kernel
theorem dX6_borders_103 : decode cX6_borders 103 = .ok (.iaload, 1) := by decide +kernel
theorem dX6_borders_104 : decode cX6_borders 104 = .ok (.iconst 1, 1) := by decide +kernel
theorem dX6_borders_105 : decode cX6_borders 105 = .ok (.if_icmp .ne 7, 3) := by decide +kernel
theorem dX6_borders_108 : decode cX6_borders 108 = .ok (.iconst 1, 1) := by decide +kernel
theorem dX6_borders_109 : decode cX6_borders 109 = .ok (.goto 4, 3) := by decide +kernel
theorem dX6_borders_112 : decode cX6_borders 112 = .ok (.iconst 0, 1) := by decide +kernel
theorem dX6_borders_113 : decode cX6_borders 113 = .ok (.iadd, 1) := by decide +kernel
theorem dX6_borders_114 : decode cX6_borders 114 = .ok (.istore_n 2, 1) := by decide +kernel
theorem dX6_borders_115 : decode cX6_borders 115 = .ok (.iload_n 3, 1) := by decide +kernel
theorem dX6_borders_116 : decode cX6_borders 116 = .ok (.aload_n 0, 1) := by decide +kernel
theorem dX6_borders_117 : decode cX6_borders 117 = .ok (.getfield 7, 3) := by decide +kernel
theorem dX6_borders_120 : decode cX6_borders 120 = .ok (.iload 5, 2) := by decide +kernel
theorem dX6_borders_122 : decode cX6_borders 122 = .ok (.iaload, 1) := by decide +kernel
theorem dX6_borders_123 : decode cX6_borders 123 = .ok (.ifCond .ne 7, 3) := by decide +kernel
theorem dX6_borders_126 : decode cX6_borders 126 = .ok (.iconst 1, 1) := by decide +kernel
theorem dX6_borders_127 : decode cX6_borders 127 = .ok (.goto 4, 3) := by decide +kernel
theorem dX6_borders_130 : decode cX6_borders 130 = .ok (.iconst 0, 1) := by decide +kernel
theorem dX6_borders_131 : decode cX6_borders 131 = .ok (.iadd, 1) := by decide +kernel
theorem dX6_borders_132 : decode cX6_borders 132 = .ok (.istore_n 3, 1) := by decide +kernel
theorem dX6_borders_133 : decode cX6_borders 133 = .ok (.aload_n 0, 1) := by decide +kernel
theorem dX6_borders_134 : decode cX6_borders 134 = .ok (.getfield 7, 3) := by decide +kernel
theorem dX6_borders_137 : decode cX6_borders 137 = .ok (.iload 5, 2) := by decide +kernel
theorem dX6_borders_139 : decode cX6_borders 139 = .ok (.iaload, 1) := by decide +kernel
theorem dX6_borders_140 : decode cX6_borders 140 = .ok (.ifCond .ne 8, 3) := by decide +kernel
theorem dX6_borders_143 : decode cX6_borders 143 = .ok (.iload 5, 2) := by decide +kernel
theorem dX6_borders_145 : decode cX6_borders 145 = .ok (.goto 5, 3) := by decide +kernel
theorem dX6_borders_148 : decode cX6_borders 148 = .ok (.iload 4, 2) := by decide +kernel
theorem dX6_borders_150 : decode cX6_borders 150 = .ok (.istore 4, 2) := by decide +kernel
theorem dX6_borders_152 : decode cX6_borders 152 = .ok (.iinc 5 1, 3) := by decide +kernel
theorem dX6_borders_155 : decode cX6_borders 155 = .ok (.goto (-128), 3) := by decide +kernel
theorem dX6_borders_158 : decode cX6_borders 158 = .ok (.iload_n 3, 1) := by decide +kernel
theorem dX6_borders_159 : decode cX6_borders 159 = .ok (.ifCond .ne 18, 3) := by decide +kernel
theorem dX6_borders_162 : decode cX6_borders 162 = .ok (.iload_n 2, 1) := by decide +kernel
theorem dX6_borders_163 : decode cX6_borders 163 = .ok (.iconst 2, 1) := by decide +kernel
theorem dX6_borders_164 : decode cX6_borders 164 = .ok (.irem, 1) := by decide +kernel
theorem dX6_borders_165 : decode cX6_borders 165 = .ok (.iconst 1, 1) := by decide +kernel
theorem dX6_borders_166 : decode cX6_borders 166 = .ok (.if_icmp .ne 11, 3) := by decide +kernel
theorem dX6_borders_169 : decode cX6_borders 169 = .ok (.aload_n 0, 1) := by decide +kernel
theorem dX6_borders_170 : decode cX6_borders 170 = .ok (.bipush 7, 2) := by decide +kernel
theorem dX6_borders_172 : decode cX6_borders 172 = .ok (.iload_n 1, 1) := by decide +kernel
theorem dX6_borders_173 : decode cX6_borders 173 = .ok (.invokevirtual 122, 3) := by decide +kernel
theorem dX6_borders_176 : decode cX6_borders 176 = .ok (.ireturn, 1) := by decide +kernel
theorem dX6_borders_177 : decode cX6_borders 177 = .ok (.iload_n 3, 1) := by decide +kernel
theorem dX6_borders_178 : decode cX6_borders 178 = .ok (.iconst 1, 1) := by decide +kernel
theorem dX6_borders_179 : decode cX6_borders 179 = .ok (.if_icmp .ne 25, 3) := by decide +kernel
theorem dX6_borders_182 : decode cX6_borders 182 = .ok (.aload_n 0, 1) := by decide +kernel
theorem dX6_borders_183 : decode cX6_borders 183 = .ok (.bipush 7, 2) := by decide +kernel
theorem dX6_borders_185 : decode cX6_borders 185 = .ok (.iload_n 1, 1) := by decide +kernel
theorem dX6_borders_186 : decode cX6_borders 186 = .ok (.iload 4, 2) := by decide +kernel
theorem dX6_borders_188 : decode cX6_borders 188 = .ok (.iload_n 2, 1) := by decide +kernel
theorem dX6_borders_189 : decode cX6_borders 189 = .ok (.iconst 2, 1) := by decide +kernel
theorem dX6_borders_190 : decode cX6_borders 190 = .ok (.irem, 1) := by decide +kernel
theorem dX6_borders_191 : decode cX6_borders 191 = .ok (.iconst 1, 1) := by decide +kernel
theorem dX6_borders_192 : decode cX6_borders 192 = .ok (.if_icmp .ne 7, 3) := by decide +kernel
theorem dX6_borders_195 : decode cX6_borders 195 = .ok (.iconst 1, 1) := by decide +kernel
theorem dX6_borders_196 : decode cX6_borders 196 = .ok (.goto 4, 3) := by decide +kernel
theorem dX6_borders_199 : decode cX6_borders 199 = .ok (.iconst 2, 1) := by decide +kernel
theorem dX6_borders_200 : decode cX6_borders 200 = .ok (.invokevirtual 144, 3) := by decide +kernel
theorem dX6_borders_203 : decode cX6_borders 203 = .ok (.ireturn, 1) := by decide +kernel
theorem dX6_borders_204 : decode cX6_borders 204 = .ok (.iinc 1 1, 3) := by decide +kernel
theorem dX6_borders_207 : decode cX6_borders 207 = .ok (.goto (-205), 3) := by decide +kernel
theorem dX6_borders_210 : decode cX6_borders 210 = .ok (.iconst 0, 1) := by decide +kernel
theorem dX6_borders_211 : decode cX6_borders 211 = .ok (.ireturn, 1) := by decide +kernel
set_option maxRecDepth 20000 in
theorem ggX6_bridges_X6_all : GoodIn wsX6_bridges wsX6_all := goodIn_r _ [7, 8, 9, 53, 54, 55, 56, 57, 58, 59, 60, 61, 62, 63, 64, 65, 66, 67, 68, 69, 70, 71, 72, 73, 74, 75, 76, 77] (by decide +kernel) (by decide +kernel)
set_option maxRecDepth 20000 in
theorem gX6_bridges_X6_all : GoodIn wsX6_bridges (wsV RX6 78 RX6 yX6_all wsX6_all) := goodIn_app (goodIn_of _ (by decide +kernel)) ggX6_bridges_X6_all
set_option maxRecDepth 20000 in
theorem ggX6_bridges_X6_isEdge : GoodIn wsX6_bridges wsX6_isEdge := goodIn_r _ [13, 8, 9, 3, 4, 5, 6, 7, 53, 54, 55, 56, 57, 58, 59, 60, 61, 62, 63, 64, 65, 66, 67, 68, 69, 70, 71, 72, 73, 74, 75, 76, 77] (by decide +kernel) (by decide +kernel)
set_option maxRecDepth 20000 in
theorem gX6_bridges_X6_isEdge : GoodIn wsX6_bridges (wsV RX6 82 RX6 yX6_isEdge wsX6_isEdge) := goodIn_app (goodIn_of _ (by decide +kernel)) ggX6_bridges_X6_isEdge
set_option maxRecDepth 20000 in
theorem ggX6_bridges_X6_spread : GoodIn wsX6_bridges wsX6_spread := goodIn_r _ [17, 2, 1, 18, 19, 20, 6, 21, 3, 4, 5, 7, 8, 9, 10, 11, 12, 13, 22, 23, 24, 25, 53, 54, 55, 56, 57, 58, 59, 60, 61, 62, 63, 64, 65, 66, 67, 68, 69, 70, 71, 72, 73, 74, 75, 76, 77] (by decide +kernel) (by decide +kernel)
set_option maxRecDepth 20000 in
theorem gX6_bridges_X6_spread : GoodIn wsX6_bridges (wsV RX6 133 RX6 yX6_spread wsX6_spread) := goodIn_app (goodIn_of _ (by decide +kernel)) ggX6_bridges_X6_spread
set_option maxRecDepth 20000 in
theorem ggX6_bridges_X6_other : GoodIn wsX6_bridges wsX6_other := goodIn_r _ [25, 8, 53, 54, 55, 56, 57, 58, 59, 60, 61, 62, 63, 64, 65, 66, 67, 68, 69, 70, 71, 72, 73, 74, 75, 76, 77] (by decide +kernel) (by decide +kernel)
set_option maxRecDepth 20000 in
theorem gX6_bridges_X6_other : GoodIn wsX6_bridges (wsV RX6 94 RX6 yX6_other wsX6_other) := goodIn_app (goodIn_of _ (by decide +kernel)) ggX6_bridges_X6_other
set_option maxRecDepth 20000 in
theorem ggX6_bridges_X6_isWrongAt : GoodIn wsX6_bridges wsX6_isWrongAt := goodIn_r _ [29, 30, 31, 32, 33, 6, 34, 35, 36, 37, 38, 53, 54, 55, 56, 57, 58, 59, 60, 61, 62, 63, 64, 65, 66, 67, 68, 69, 70, 71, 72, 73, 74, 75, 76, 77] (by decide +kernel) (by decide +kernel)
set_option maxRecDepth 20000 in
theorem gX6_bridges_X6_isWrongAt : GoodIn wsX6_bridges (wsV RX6 122 RX6 yX6_isWrongAt wsX6_isWrongAt) := goodIn_app (goodIn_of _ (by decide +kernel)) ggX6_bridges_X6_isWrongAt
set_option maxRecDepth 20000 in
theorem ggX6_bridges_X6_setOne : GoodIn wsX6_bridges wsX6_setOne := goodIn_r _ [42, 31, 32, 33, 6, 34, 35, 36, 37, 38, 43, 44, 45, 46, 1, 47, 48, 49, 50, 51, 52, 53, 54, 55, 56, 57, 58, 59, 60, 61, 62, 63, 64, 65, 66, 67, 68, 69, 70, 71, 72, 73, 74, 75, 76, 77] (by decide +kernel) (by decide +kernel)
set_option maxRecDepth 20000 in
theorem gX6_bridges_X6_setOne : GoodIn wsX6_bridges (wsV RX6 144 RX6 yX6_setOne wsX6_setOne) := goodIn_app (goodIn_of _ (by decide +kernel)) ggX6_bridges_X6_setOne
theorem dX6_bridges_0 : decode cX6_bridges 0 = .ok (.iconst 0, 1) := by decide +kernel
theorem dX6_bridges_1 : decode cX6_bridges 1 = .ok (.istore_n 1, 1) := by decide +kernel
theorem dX6_bridges_2 : decode cX6_bridges 2 = .ok (.iload_n 1, 1) := by decide +kernel
theorem dX6_bridges_3 : decode cX6_bridges 3 = .ok (.iconst 2, 1) := by decide +kernel
theorem dX6_bridges_4 : decode cX6_bridges 4 = .ok (.aload_n 0, 1) := by decide +kernel
theorem dX6_bridges_5 : decode cX6_bridges 5 = .ok (.invokevirtual 78, 3) := by decide +kernel
theorem dX6_bridges_8 : decode cX6_bridges 8 = .ok (.imul, 1) := by decide +kernel
theorem dX6_bridges_9 : decode cX6_bridges 9 = .ok (.if_icmp .ge 85, 3) := by decide +kernel
theorem dX6_bridges_12 : decode cX6_bridges 12 = .ok (.aload_n 0, 1) := by decide +kernel
theorem dX6_bridges_13 : decode cX6_bridges 13 = .ok (.iload_n 1, 1) := by decide +kernel
theorem dX6_bridges_14 : decode cX6_bridges 14 = .ok (.invokevirtual 82, 3) := by decide +kernel
theorem dX6_bridges_17 : decode cX6_bridges 17 = .ok (.ifCond .eq 71, 3) := by decide +kernel
theorem dX6_bridges_20 : decode cX6_bridges 20 = .ok (.aload_n 0, 1) := by decide +kernel
theorem dX6_bridges_21 : decode cX6_bridges 21 = .ok (.getfield 7, 3) := by decide +kernel
theorem dX6_bridges_24 : decode cX6_bridges 24 = .ok (.iload_n 1, 1) := by decide +kernel
theorem dX6_bridges_25 : decode cX6_bridges 25 = .ok (.iaload, 1) := by decide +kernel
theorem dX6_bridges_26 : decode cX6_bridges 26 = .ok (.iconst 2, 1) := by decide +kernel
theorem dX6_bridges_27 : decode cX6_bridges 27 = .ok (.if_icmp .ne 6, 3) := by decide +kernel
theorem dX6_bridges_30 : decode cX6_bridges 30 = .ok (.goto 58, 3) := by decide +kernel
theorem dX6_bridges_33 : decode cX6_bridges 33 = .ok (.aload_n 0, 1) := by decide +kernel
theorem dX6_bridges_34 : decode cX6_bridges 34 = .ok (.iload_n 1, 1) := by decide +kernel
theorem dX6_bridges_35 : decode cX6_bridges 35 = .ok (.iconst 2, 1) := by decide +kernel
theorem dX6_bridges_36 : decode cX6_bridges 36 = .ok (.idiv, 1) := by decide +kernel
theorem dX6_bridges_37 : decode cX6_bridges 37 = .ok (.iconst 0, 1) := by decide +kernel
theorem dX6_bridges_38 : decode cX6_bridges 38 = .ok (.iload_n 1, 1) := by decide +kernel
theorem dX6_bridges_39 : decode cX6_bridges 39 = .ok (.invokevirtual 133, 3) := by decide +kernel
theorem dX6_bridges_42 : decode cX6_bridges 42 = .ok (.aload_n 0, 1) := by decide +kernel
theorem dX6_bridges_43 : decode cX6_bridges 43 = .ok (.getfield 66, 3) := by decide +kernel
theorem dX6_bridges_46 : decode cX6_bridges 46 = .ok (.aload_n 0, 1) := by decide +kernel
theorem dX6_bridges_47 : decode cX6_bridges 47 = .ok (.iload_n 1, 1) := by decide +kernel
theorem dX6_bridges_48 : decode cX6_bridges 48 = .ok (.invokevirtual 94, 3) := by decide +kernel
theorem dX6_bridges_51 : decode cX6_bridges 51 = .ok (.baload, 1) := by decide +kernel
