theorem dX5_duty_51 : decode cX5_duty 51 = .ok (.iconst 0, 1) := by decide +kernel
theorem dX5_duty_52 : decode cX5_duty 52 = .ok (.putfield 83, 3) := by decide +kernel
theorem dX5_duty_55 : decode cX5_duty 55 = .ok (.iconst 1, 1) := by decide +kernel
theorem dX5_duty_56 : decode cX5_duty 56 = .ok (.ireturn, 1) := by decide +kernel
set_option maxRecDepth 20000 in
theorem ggX5_shade_X5_checkCell : GoodIn wsX5_shade wsX5_checkCell := goodIn_r _ [7, 8, 9, 10, 11, 12, 13, 14, 15, 16, 17, 34, 35, 36, 37, 38, 39, 40, 49, 50, 51, 52, 53, 54, 55, 56, 57, 58, 59, 60, 61] (by decide +kernel) (by decide +kernel)
set_option maxRecDepth 20000 in
theorem gX5_shade_X5_checkCell : GoodIn wsX5_shade (wsV RX5 87 RX5 yX5_checkCell wsX5_checkCell) := goodIn_app (goodIn_of _ (by decide +kernel)) ggX5_shade_X5_checkCell
set_option maxRecDepth 20000 in
theorem ggX5_shade_X3_shadeOf : GoodIn wsX5_shade wsX3_shadeOf := goodIn_r _ [22, 23, 24, 25, 6, 26, 27, 28, 29, 41, 42, 43, 44, 45, 46, 47, 48] (by decide +kernel) (by decide +kernel)
set_option maxRecDepth 20000 in
theorem gX5_shade_X3_shadeOf : GoodIn wsX5_shade (wsV RX5 103 RX3 yX3_shadeOf wsX3_shadeOf) := goodIn_app (goodIn_of _ (by decide +kernel)) ggX5_shade_X3_shadeOf
set_option maxRecDepth 20000 in
theorem ggX5_shade_X3_setShade : GoodIn wsX5_shade wsX3_setShade := goodIn_r _ [33, 23, 24, 28, 6, 29, 41, 42, 43, 44, 45, 46, 47, 48] (by decide +kernel) (by decide +kernel)
set_option maxRecDepth 20000 in
theorem gX5_shade_X3_setShade : GoodIn wsX5_shade (wsV RX5 106 RX3 yX3_setShade wsX3_setShade) := goodIn_app (goodIn_of _ (by decide +kernel)) ggX5_shade_X3_setShade
theorem dX5_shade_0 : decode cX5_shade 0 = .ok (.aload_n 0, 1) := by decide +kernel
theorem dX5_shade_1 : decode cX5_shade 1 = .ok (.iload_n 1, 1) := by decide +kernel
theorem dX5_shade_2 : decode cX5_shade 2 = .ok (.invokevirtual 87, 3) := by decide +kernel
theorem dX5_shade_5 : decode cX5_shade 5 = .ok (.aload_n 0, 1) := by decide +kernel
theorem dX5_shade_6 : decode cX5_shade 6 = .ok (.getfield 27, 3) := by decide +kernel
theorem dX5_shade_9 : decode cX5_shade 9 = .ok (.iload_n 1, 1) := by decide +kernel
theorem dX5_shade_10 : decode cX5_shade 10 = .ok (.invokevirtual 103, 3) := by decide +kernel
theorem dX5_shade_13 : decode cX5_shade 13 = .ok (.ifCond .eq 5, 3) := by decide +kernel
theorem dX5_shade_16 : decode cX5_shade 16 = .ok (.iconst 0, 1) := by decide +kernel
theorem dX5_shade_17 : decode cX5_shade 17 = .ok (.ireturn, 1) := by decide +kernel
theorem dX5_shade_18 : decode cX5_shade 18 = .ok (.aload_n 0, 1) := by decide +kernel
theorem dX5_shade_19 : decode cX5_shade 19 = .ok (.getfield 27, 3) := by decide +kernel
theorem dX5_shade_22 : decode cX5_shade 22 = .ok (.iload_n 1, 1) := by decide +kernel
theorem dX5_shade_23 : decode cX5_shade 23 = .ok (.iload_n 2, 1) := by decide +kernel
theorem dX5_shade_24 : decode cX5_shade 24 = .ok (.invokevirtual 106, 3) := by decide +kernel
theorem dX5_shade_27 : decode cX5_shade 27 = .ok (.aload_n 0, 1) := by decide +kernel
theorem dX5_shade_28 : decode cX5_shade 28 = .ok (.getfield 27, 3) := by decide +kernel
theorem dX5_shade_31 : decode cX5_shade 31 = .ok (.iconst 0, 1) := by decide +kernel
theorem dX5_shade_32 : decode cX5_shade 32 = .ok (.putfield 83, 3) := by decide +kernel
theorem dX5_shade_35 : decode cX5_shade 35 = .ok (.iconst 1, 1) := by decide +kernel
theorem dX5_shade_36 : decode cX5_shade 36 = .ok (.ireturn, 1) := by decide +kernel
theorem dX5_told_0 : decode cX5_told 0 = .ok (.iload_n 1, 1) := by decide +kernel
theorem dX5_told_1 : decode cX5_told 1 = .ok (.iconst (-1), 1) := by decide +kernel
theorem dX5_told_2 : decode cX5_told 2 = .ok (.if_icmp .lt 9, 3) := by decide +kernel
theorem dX5_told_5 : decode cX5_told 5 = .ok (.iload_n 1, 1) := by decide +kernel
theorem dX5_told_6 : decode cX5_told 6 = .ok (.bipush 64, 2) := by decide +kernel
theorem dX5_told_8 : decode cX5_told 8 = .ok (.if_icmp .le 13, 3) := by decide +kernel
theorem dX5_told_11 : decode cX5_told 11 = .ok (.new 90, 3) := by decide +kernel
theorem dX5_told_14 : decode cX5_told 14 = .ok (.dup, 1) := by decide +kernel
theorem dX5_told_15 : decode cX5_told 15 = .ok (.ldc 109, 2) := by decide +kernel
theorem dX5_told_17 : decode cX5_told 17 = .ok (.invokespecial 94, 3) := by decide +kernel
theorem dX5_told_20 : decode cX5_told 20 = .ok (.athrow, 1) := by decide +kernel
theorem dX5_told_21 : decode cX5_told 21 = .ok (.aload_n 0, 1) := by decide +kernel
theorem dX5_told_22 : decode cX5_told 22 = .ok (.getfield 27, 3) := by decide +kernel
theorem dX5_told_25 : decode cX5_told 25 = .ok (.iload_n 1, 1) := by decide +kernel
theorem dX5_told_26 : decode cX5_told 26 = .ok (.putfield 111, 3) := by decide +kernel
theorem dX5_told_29 : decode cX5_told 29 = .ok (.aload_n 0, 1) := by decide +kernel
theorem dX5_told_30 : decode cX5_told 30 = .ok (.getfield 27, 3) := by decide +kernel
theorem dX5_told_33 : decode cX5_told 33 = .ok (.iconst 0, 1) := by decide +kernel
theorem dX5_told_34 : decode cX5_told 34 = .ok (.putfield 83, 3) := by decide +kernel
theorem dX5_told_37 : decode cX5_told 37 = .ok (.return_, 1) := by decide +kernel
set_option maxRecDepth 20000 in
theorem ggX5_run_X4_room : GoodIn wsX5_run wsX4_room := goodIn_r _ [10, 11, 12, 299, 300, 301, 302, 303] (by decide +kernel) (by decide +kernel)
set_option maxRecDepth 20000 in
theorem gX5_run_X4_room : GoodIn wsX5_run (wsV RX5 117 RX4 yX4_room wsX4_room) := goodIn_app (goodIn_of _ (by decide +kernel)) ggX5_run_X4_room
set_option maxRecDepth 20000 in
theorem ggX5_run_X2_doFirst : GoodIn wsX5_run wsX2_doFirst := goodIn_r _ [17, 18, 19, 20, 16, 21, 22, 23, 24, 25, 26, 27, 28, 29, 30, 31, 32, 33, 34, 35, 36, 37, 38, 39, 40, 41, 42, 43, 44, 45, 46, 47, 48, 49, 50, 51, 52, 53, 54, 55, 56, 57, 58, 59, 60, 61, 62, 63, 64, 65, 66, 67, 68, 69, 70, 71, 72, 73, 74, 75, 76, 77, 78, 79, 80, 81, 82, 83, 84, 85, 86, 87, 9, 88, 12, 11, 89, 90, 91, 92, 93, 94, 95, 96, 97, 98, 99, 100, 101, 102, 103, 104, 105, 106, 107, 108, 109, 110, 111, 112, 113, 114, 115, 116, 117, 118, 119, 120, 121, 122, 123, 124, 125, 126, 127, 128, 129, 130, 131, 132, 133, 134, 135, 136, 137, 138, 139, 140, 141, 142, 143, 144, 145, 146, 147, 148, 149, 150, 151, 152, 153, 154, 155, 156, 157, 158, 159, 160, 161, 162, 163, 164, 165, 166, 167, 168, 169, 170, 171, 172, 173, 174, 175, 176, 177, 178, 179, 180, 181, 182, 183, 184, 185, 186, 187, 188, 189, 190, 191, 192, 193, 194, 195, 196, 197, 198, 199, 200, 201, 202, 203, 204, 205, 206, 207, 208, 209, 210, 211, 212, 213, 214, 215, 216, 217, 218, 219, 220, 221, 222, 223, 224, 225, 226, 227, 228, 229, 230, 231, 232, 233, 234, 235, 236, 237, 238, 239, 240, 241, 242, 243, 244, 245, 246, 247, 248, 249, 250, 251, 252, 253, 254, 255, 256, 257, 258, 259, 260, 261, 262, 263, 264, 265, 266, 267, 268, 269, 270, 271, 272, 273, 274, 275, 276, 277, 278, 279, 280, 281, 282, 283, 284, 285, 286, 287, 288, 289, 290, 291, 312, 313, 314, 315, 316, 317, 318, 319, 320, 321, 322, 323, 324, 325, 326, 327, 328, 304, 305, 306, 307, 308, 309, 310, 311, 329, 330, 331, 299, 300, 301, 302, 303] (by decide +kernel) (by decide +kernel)
set_option maxRecDepth 20000 in
theorem gX5_run_X2_doFirst : GoodIn wsX5_run (wsV RX5 121 RX2 yX2_doFirst wsX2_doFirst) := goodIn_app (goodIn_of _ (by decide +kernel)) ggX5_run_X2_doFirst
theorem dX5_run_0 : decode cX5_run 0 = .ok (.aload_n 0, 1) := by decide +kernel
theorem dX5_run_1 : decode cX5_run 1 = .ok (.getfield 43, 3) := by decide +kernel
theorem dX5_run_4 : decode cX5_run 4 = .ok (.getfield 114, 3) := by decide +kernel
theorem dX5_run_7 : decode cX5_run 7 = .ok (.istore_n 1, 1) := by decide +kernel
theorem dX5_run_8 : decode cX5_run 8 = .ok (.iconst 1, 1) := by decide +kernel
theorem dX5_run_9 : decode cX5_run 9 = .ok (.istore_n 2, 1) := by decide +kernel
theorem dX5_run_10 : decode cX5_run 10 = .ok (.aload_n 0, 1) := by decide +kernel
theorem dX5_run_11 : decode cX5_run 11 = .ok (.getfield 43, 3) := by decide +kernel
theorem dX5_run_14 : decode cX5_run 14 = .ok (.invokevirtual 117, 3) := by decide +kernel
theorem dX5_run_17 : decode cX5_run 17 = .ok (.istore_n 3, 1) := by decide +kernel
theorem dX5_run_18 : decode cX5_run 18 = .ok (.iload_n 3, 1) := by decide +kernel
theorem dX5_run_19 : decode cX5_run 19 = .ok (.ifCond .le 31, 3) := by decide +kernel
theorem dX5_run_22 : decode cX5_run 22 = .ok (.iload_n 2, 1) := by decide +kernel
theorem dX5_run_23 : decode cX5_run 23 = .ok (.ifCond .eq 27, 3) := by decide +kernel
theorem dX5_run_26 : decode cX5_run 26 = .ok (.aload_n 0, 1) := by decide +kernel
theorem dX5_run_27 : decode cX5_run 27 = .ok (.getfield 27, 3) := by decide +kernel
theorem dX5_run_30 : decode cX5_run 30 = .ok (.getfield 83, 3) := by decide +kernel
theorem dX5_run_33 : decode cX5_run 33 = .ok (.ifCond .ne 17, 3) := by decide +kernel
theorem dX5_run_36 : decode cX5_run 36 = .ok (.aload_n 0, 1) := by decide +kernel
theorem dX5_run_37 : decode cX5_run 37 = .ok (.getfield 52, 3) := by decide +kernel
theorem dX5_run_40 : decode cX5_run 40 = .ok (.invokevirtual 121, 3) := by decide +kernel
theorem dX5_run_43 : decode cX5_run 43 = .ok (.istore_n 2, 1) := by decide +kernel
theorem dX5_run_44 : decode cX5_run 44 = .ok (.iinc 3 (-1), 3) := by decide +kernel
theorem dX5_run_47 : decode cX5_run 47 = .ok (.goto (-29), 3) := by decide +kernel
theorem dX5_run_50 : decode cX5_run 50 = .ok (.aload_n 0, 1) := by decide +kernel
theorem dX5_run_51 : decode cX5_run 51 = .ok (.getfield 43, 3) := by decide +kernel
theorem dX5_run_54 : decode cX5_run 54 = .ok (.getfield 114, 3) := by decide +kernel
theorem dX5_run_57 : decode cX5_run 57 = .ok (.iload_n 1, 1) := by decide +kernel
theorem dX5_run_58 : decode cX5_run 58 = .ok (.isub, 1) := by decide +kernel
theorem dX5_run_59 : decode cX5_run 59 = .ok (.ireturn, 1) := by decide +kernel
theorem dX5_wrong_0 : decode cX5_wrong 0 = .ok (.aload_n 0, 1) := by decide +kernel
theorem dX5_wrong_1 : decode cX5_wrong 1 = .ok (.getfield 27, 3) := by decide +kernel
theorem dX5_wrong_4 : decode cX5_wrong 4 = .ok (.getfield 83, 3) := by decide +kernel
theorem dX5_wrong_7 : decode cX5_wrong 7 = .ok (.ireturn, 1) := by decide +kernel
set_option maxRecDepth 20000 in
theorem ggX5_step_X4_numberOf : GoodIn wsX5_step wsX4_numberOf := goodIn_r _ [9, 10, 11, 12, 13, 8, 14, 15, 43, 44, 45, 46, 47] (by decide +kernel) (by decide +kernel)
set_option maxRecDepth 20000 in
theorem gX5_step_X4_numberOf : GoodIn wsX5_step (wsV RX5 132 RX4 yX4_numberOf wsX4_numberOf) := goodIn_app (goodIn_of _ (by decide +kernel)) ggX5_step_X4_numberOf
set_option maxRecDepth 20000 in
theorem ggX5_step_X4_placeOf : GoodIn wsX5_step wsX4_placeOf := goodIn_r _ [19, 20, 11, 12, 13, 8, 14, 15, 10, 43, 44, 45, 46, 47] (by decide +kernel) (by decide +kernel)
set_option maxRecDepth 20000 in
theorem gX5_step_X4_placeOf : GoodIn wsX5_step (wsV RX5 135 RX4 yX4_placeOf wsX4_placeOf) := goodIn_app (goodIn_of _ (by decide +kernel)) ggX5_step_X4_placeOf
set_option maxRecDepth 20000 in
theorem ggX5_step_X4_changesOf : GoodIn wsX5_step wsX4_changesOf := goodIn_r _ [24, 25, 11, 12, 13, 8, 14, 15, 10, 26, 27, 28, 29, 43, 44, 45, 46, 47] (by decide +kernel) (by decide +kernel)
set_option maxRecDepth 20000 in
theorem gX5_step_X4_changesOf : GoodIn wsX5_step (wsV RX5 138 RX4 yX4_changesOf wsX4_changesOf) := goodIn_app (goodIn_of _ (by decide +kernel)) ggX5_step_X4_changesOf
set_option maxRecDepth 20000 in
theorem ggX5_step_X4_changeOf : GoodIn wsX5_step wsX4_changeOf := goodIn_r _ [33, 34, 35, 22, 23, 8, 24, 25, 11, 12, 13, 14, 15, 10, 26, 27, 28, 29, 43, 44, 45, 46, 47] (by decide +kernel) (by decide +kernel)
set_option maxRecDepth 20000 in
theorem gX5_step_X4_changeOf : GoodIn wsX5_step (wsV RX5 141 RX4 yX4_changeOf wsX4_changeOf) := goodIn_app (goodIn_of _ (by decide +kernel)) ggX5_step_X4_changeOf
theorem dX5_step_0 : decode cX5_step 0 = .ok (.iload_n 1, 1) := by decide +kernel
theorem dX5_step_1 : decode cX5_step 1 = .ok (.ifCond .lt 14, 3) := by decide +kernel
theorem dX5_step_4 : decode cX5_step 4 = .ok (.iload_n 1, 1) := by decide +kernel
theorem dX5_step_5 : decode cX5_step 5 = .ok (.aload_n 0, 1) := by decide +kernel
theorem dX5_step_6 : decode cX5_step 6 = .ok (.getfield 43, 3) := by decide +kernel
theorem dX5_step_9 : decode cX5_step 9 = .ok (.getfield 114, 3) := by decide +kernel
theorem dX5_step_12 : decode cX5_step 12 = .ok (.if_icmp .lt 13, 3) := by decide +kernel
theorem dX5_step_15 : decode cX5_step 15 = .ok (.new 125, 3) := by decide +kernel
theorem dX5_step_18 : decode cX5_step 18 = .ok (.dup, 1) := by decide +kernel
theorem dX5_step_19 : decode cX5_step 19 = .ok (.ldc 127, 2) := by decide +kernel
theorem dX5_step_21 : decode cX5_step 21 = .ok (.invokespecial 129, 3) := by decide +kernel
theorem dX5_step_24 : decode cX5_step 24 = .ok (.athrow, 1) := by decide +kernel
theorem dX5_step_25 : decode cX5_step 25 = .ok (.iload_n 2, 1) := by decide +kernel
theorem dX5_step_26 : decode cX5_step 26 = .ok (.ifCond .ge 13, 3) := by decide +kernel
theorem dX5_step_29 : decode cX5_step 29 = .ok (.new 125, 3) := by decide +kernel
theorem dX5_step_32 : decode cX5_step 32 = .ok (.dup, 1) := by decide +kernel
theorem dX5_step_33 : decode cX5_step 33 = .ok (.ldc 130, 2) := by decide +kernel
theorem dX5_step_35 : decode cX5_step 35 = .ok (.invokespecial 129, 3) := by decide +kernel
theorem dX5_step_38 : decode cX5_step 38 = .ok (.athrow, 1) := by decide +kernel
theorem dX5_step_39 : decode cX5_step 39 = .ok (.iload_n 2, 1) := by decide +kernel
theorem dX5_step_40 : decode cX5_step 40 = .ok (.tableswitch 55 0 2 #[28, 37, 46], 28) := by decide +kernel
theorem dX5_step_68 : decode cX5_step 68 = .ok (.aload_n 0, 1) := by decide +kernel
theorem dX5_step_69 : decode cX5_step 69 = .ok (.getfield 43, 3) := by decide +kernel
theorem dX5_step_72 : decode cX5_step 72 = .ok (.iload_n 1, 1) := by decide +kernel
theorem dX5_step_73 : decode cX5_step 73 = .ok (.invokevirtual 132, 3) := by decide +kernel
theorem dX5_step_76 : decode cX5_step 76 = .ok (.ireturn, 1) := by decide +kernel
theorem dX5_step_77 : decode cX5_step 77 = .ok (.aload_n 0, 1) := by decide +kernel
theorem dX5_step_78 : decode cX5_step 78 = .ok (.getfield 43, 3) := by decide +kernel
theorem dX5_step_81 : decode cX5_step 81 = .ok (.iload_n 1, 1) := by decide +kernel
theorem dX5_step_82 : decode cX5_step 82 = .ok (.invokevirtual 135, 3) := by decide +kernel
theorem dX5_step_85 : decode cX5_step 85 = .ok (.ireturn, 1) := by decide +kernel
theorem dX5_step_86 : decode cX5_step 86 = .ok (.aload_n 0, 1) := by decide +kernel
theorem dX5_step_87 : decode cX5_step 87 = .ok (.getfield 43, 3) := by decide +kernel
theorem dX5_step_90 : decode cX5_step 90 = .ok (.iload_n 1, 1) := by decide +kernel
theorem dX5_step_91 : decode cX5_step 91 = .ok (.invokevirtual 138, 3) := by decide +kernel
theorem dX5_step_94 : decode cX5_step 94 = .ok (.ireturn, 1) := by decide +kernel
theorem dX5_step_95 : decode cX5_step 95 = .ok (.aload_n 0, 1) := by decide +kernel
theorem dX5_step_96 : decode cX5_step 96 = .ok (.getfield 43, 3) := by decide +kernel
theorem dX5_step_99 : decode cX5_step 99 = .ok (.iload_n 1, 1) := by decide +kernel
theorem dX5_step_100 : decode cX5_step 100 = .ok (.iload_n 2, 1) := by decide +kernel
theorem dX5_step_101 : decode cX5_step 101 = .ok (.iconst 3, 1) := by decide +kernel
theorem dX5_step_102 : decode cX5_step 102 = .ok (.isub, 1) := by decide +kernel
theorem dX5_step_103 : decode cX5_step 103 = .ok (.invokevirtual 141, 3) := by decide +kernel
theorem dX5_step_106 : decode cX5_step 106 = .ok (.ireturn, 1) := by decide +kernel
theorem dX5_steps_0 : decode cX5_steps 0 = .ok (.aload_n 0, 1) := by decide +kernel
theorem dX5_steps_1 : decode cX5_steps 1 = .ok (.getfield 43, 3) := by decide +kernel
theorem dX5_steps_4 : decode cX5_steps 4 = .ok (.getfield 114, 3) := by decide +kernel
theorem dX5_steps_7 : decode cX5_steps 7 = .ok (.ireturn, 1) := by decide +kernel
set_option maxRecDepth 20000 in
theorem ggX5_is_X5_checkEdge : GoodIn wsX5_is wsX5_checkEdge := goodIn_r _ [6, 7, 8, 9, 10, 11, 12, 13, 14, 15, 16, 17, 18, 19, 20, 21, 22, 23, 24, 25, 26, 27, 28, 29, 30, 31, 5, 32, 41, 42, 43, 44, 45, 46, 47, 48, 49, 50, 51, 52, 53, 54, 55, 56, 57, 58, 59, 60, 61, 62, 63] (by decide +kernel) (by decide +kernel)
set_option maxRecDepth 20000 in
theorem gX5_is_X5_checkEdge : GoodIn wsX5_is (wsV RX5 67 RX5 yX5_checkEdge wsX5_checkEdge) := goodIn_app (goodIn_of _ (by decide +kernel)) ggX5_is_X5_checkEdge
set_option maxRecDepth 20000 in
theorem ggX5_is_X3_stateOf : GoodIn wsX5_is wsX3_stateOf := goodIn_r _ [37, 38, 39, 40, 19, 20, 21, 22, 23, 24, 25, 26, 27, 28, 29, 14, 30, 31, 5, 32, 64, 65, 66, 67, 68, 69, 70, 71, 61, 62, 63] (by decide +kernel) (by decide +kernel)
set_option maxRecDepth 20000 in
theorem gX5_is_X3_stateOf : GoodIn wsX5_is (wsV RX5 76 RX3 yX3_stateOf wsX3_stateOf) := goodIn_app (goodIn_of _ (by decide +kernel)) ggX5_is_X3_stateOf
theorem dX5_is_0 : decode cX5_is 0 = .ok (.aload_n 0, 1) := by decide +kernel
theorem dX5_is_1 : decode cX5_is 1 = .ok (.iload_n 1, 1) := by decide +kernel
theorem dX5_is_2 : decode cX5_is 2 = .ok (.invokevirtual 67, 3) := by decide +kernel
theorem dX5_is_5 : decode cX5_is 5 = .ok (.aload_n 0, 1) := by decide +kernel
theorem dX5_is_6 : decode cX5_is 6 = .ok (.getfield 27, 3) := by decide +kernel
theorem dX5_is_9 : decode cX5_is 9 = .ok (.iload_n 1, 1) := by decide +kernel
theorem dX5_is_10 : decode cX5_is 10 = .ok (.invokevirtual 76, 3) := by decide +kernel
theorem dX5_is_13 : decode cX5_is 13 = .ok (.ireturn, 1) := by decide +kernel
set_option maxRecDepth 20000 in
theorem ggX5_cell_X5_checkCell : GoodIn wsX5_cell wsX5_checkCell := goodIn_r _ [11, 3, 12, 13, 14, 15, 16, 17, 18, 19, 20, 95, 96, 97, 98, 99, 100, 101, 117, 118, 119, 120, 121, 122, 110, 111, 112, 113, 114, 115, 116] (by decide +kernel) (by decide +kernel)
set_option maxRecDepth 20000 in
theorem gX5_cell_X5_checkCell : GoodIn wsX5_cell (wsV RX5 87 RX5 yX5_checkCell wsX5_checkCell) := goodIn_app (goodIn_of _ (by decide +kernel)) ggX5_cell_X5_checkCell
set_option maxRecDepth 20000 in
theorem ggX5_cell_X3_shadeOf : GoodIn wsX5_cell wsX3_shadeOf := goodIn_r _ [25, 26, 27, 28, 10, 29, 30, 31, 32, 102, 103, 104, 105, 106, 107, 108, 109] (by decide +kernel) (by decide +kernel)
set_option maxRecDepth 20000 in
theorem gX5_cell_X3_shadeOf : GoodIn wsX5_cell (wsV RX5 103 RX3 yX3_shadeOf wsX3_shadeOf) := goodIn_app (goodIn_of _ (by decide +kernel)) ggX5_cell_X3_shadeOf
set_option maxRecDepth 20000 in
theorem ggX5_cell_X3_dutyOf : GoodIn wsX5_cell wsX3_dutyOf := goodIn_r _ [36, 37, 38, 28, 10, 29, 30, 31, 32, 102, 103, 104, 105, 106, 107, 108, 109] (by decide +kernel) (by decide +kernel)
set_option maxRecDepth 20000 in
theorem gX5_cell_X3_dutyOf : GoodIn wsX5_cell (wsV RX5 97 RX3 yX3_dutyOf wsX3_dutyOf) := goodIn_app (goodIn_of _ (by decide +kernel)) ggX5_cell_X3_dutyOf
set_option maxRecDepth 20000 in
theorem ggX5_cell_X0_countAt : GoodIn wsX5_cell wsX0_countAt := goodIn_r _ [43, 44, 45, 31, 10, 32, 46, 47, 48, 49, 50, 51, 52, 53, 54, 55, 42, 56, 57, 58, 59, 60, 61, 123, 124, 125] (by decide +kernel) (by decide +kernel)
set_option maxRecDepth 20000 in
theorem gX5_cell_X0_countAt : GoodIn wsX5_cell (wsV RX5 149 RX0 yX0_countAt wsX0_countAt) := goodIn_app (goodIn_of _ (by decide +kernel)) ggX5_cell_X0_countAt
set_option maxRecDepth 20000 in
theorem ggX5_cell_X4_stepThatChanged : GoodIn wsX5_cell wsX4_stepThatChanged := goodIn_r _ [66, 67, 68, 69, 70, 65, 71, 72, 73, 74, 75, 76, 77, 78, 79, 80, 81, 82, 83, 84, 85, 86, 87, 88, 89, 90, 91, 92, 93, 94, 126, 127, 128, 129, 130] (by decide +kernel) (by decide +kernel)
set_option maxRecDepth 20000 in
theorem gX5_cell_X4_stepThatChanged : GoodIn wsX5_cell (wsV RX5 160 RX4 yX4_stepThatChanged wsX4_stepThatChanged) := goodIn_app (goodIn_of _ (by decide +kernel)) ggX5_cell_X4_stepThatChanged
theorem dX5_cell_0 : decode cX5_cell 0 = .ok (.aload_n 0, 1) := by decide +kernel
theorem dX5_cell_1 : decode cX5_cell 1 = .ok (.iload_n 1, 1) := by decide +kernel
theorem dX5_cell_2 : decode cX5_cell 2 = .ok (.invokevirtual 87, 3) := by decide +kernel
theorem dX5_cell_5 : decode cX5_cell 5 = .ok (.iload_n 2, 1) := by decide +kernel
theorem dX5_cell_6 : decode cX5_cell 6 = .ok (.tableswitch 110 0 4 #[34, 43, 52, 64, 100], 34) := by decide +kernel
theorem dX5_cell_40 : decode cX5_cell 40 = .ok (.aload_n 0, 1) := by decide +kernel
theorem dX5_cell_41 : decode cX5_cell 41 = .ok (.getfield 27, 3) := by decide +kernel
theorem dX5_cell_44 : decode cX5_cell 44 = .ok (.iload_n 1, 1) := by decide +kernel
theorem dX5_cell_45 : decode cX5_cell 45 = .ok (.invokevirtual 103, 3) := by decide +kernel
theorem dX5_cell_48 : decode cX5_cell 48 = .ok (.ireturn, 1) := by decide +kernel
theorem dX5_cell_49 : decode cX5_cell 49 = .ok (.aload_n 0, 1) := by decide +kernel
theorem dX5_cell_50 : decode cX5_cell 50 = .ok (.getfield 27, 3) := by decide +kernel
theorem dX5_cell_53 : decode cX5_cell 53 = .ok (.iload_n 1, 1) := by decide +kernel
theorem dX5_cell_54 : decode cX5_cell 54 = .ok (.invokevirtual 97, 3) := by decide +kernel
theorem dX5_cell_57 : decode cX5_cell 57 = .ok (.ireturn, 1) := by decide +kernel
theorem dX5_cell_58 : decode cX5_cell 58 = .ok (.aload_n 0, 1) := by decide +kernel
theorem dX5_cell_59 : decode cX5_cell 59 = .ok (.getfield 27, 3) := by decide +kernel
theorem dX5_cell_62 : decode cX5_cell 62 = .ok (.getfield 145, 3) := by decide +kernel
theorem dX5_cell_65 : decode cX5_cell 65 = .ok (.iload_n 1, 1) := by decide +kernel
theorem dX5_cell_66 : decode cX5_cell 66 = .ok (.invokevirtual 149, 3) := by decide +kernel
theorem dX5_cell_69 : decode cX5_cell 69 = .ok (.ireturn, 1) := by decide +kernel
theorem dX5_cell_70 : decode cX5_cell 70 = .ok (.aload_n 0, 1) := by decide +kernel
theorem dX5_cell_71 : decode cX5_cell 71 = .ok (.getfield 18, 3) := by decide +kernel
theorem dX5_cell_74 : decode cX5_cell 74 = .ok (.getfield 154, 3) := by decide +kernel
theorem dX5_cell_77 : decode cX5_cell 77 = .ok (.iload_n 1, 1) := by decide +kernel
theorem dX5_cell_78 : decode cX5_cell 78 = .ok (.invokevirtual 149, 3) := by decide +kernel
theorem dX5_cell_81 : decode cX5_cell 81 = .ok (.aload_n 0, 1) := by decide +kernel
theorem dX5_cell_82 : decode cX5_cell 82 = .ok (.getfield 27, 3) := by decide +kernel
theorem dX5_cell_85 : decode cX5_cell 85 = .ok (.getfield 145, 3) := by decide +kernel
theorem dX5_cell_88 : decode cX5_cell 88 = .ok (.iload_n 1, 1) := by decide +kernel
theorem dX5_cell_89 : decode cX5_cell 89 = .ok (.invokevirtual 149, 3) := by decide +kernel
theorem dX5_cell_92 : decode cX5_cell 92 = .ok (.isub, 1) := by decide +kernel
theorem dX5_cell_93 : decode cX5_cell 93 = .ok (.aload_n 0, 1) := by decide +kernel
theorem dX5_cell_94 : decode cX5_cell 94 = .ok (.getfield 27, 3) := by decide +kernel
theorem dX5_cell_97 : decode cX5_cell 97 = .ok (.getfield 157, 3) := by decide +kernel
theorem dX5_cell_100 : decode cX5_cell 100 = .ok (.iload_n 1, 1) := by decide +kernel
theorem dX5_cell_101 : decode cX5_cell 101 = .ok (.invokevirtual 149, 3) := by decide +kernel
theorem dX5_cell_104 : decode cX5_cell 104 = .ok (.isub, 1) := by decide +kernel
theorem dX5_cell_105 : decode cX5_cell 105 = .ok (.ireturn, 1) := by decide +kernel
theorem dX5_cell_106 : decode cX5_cell 106 = .ok (.aload_n 0, 1) := by decide +kernel
theorem dX5_cell_107 : decode cX5_cell 107 = .ok (.getfield 43, 3) := by decide +kernel
theorem dX5_cell_110 : decode cX5_cell 110 = .ok (.iload_n 1, 1) := by decide +kernel
theorem dX5_cell_111 : decode cX5_cell 111 = .ok (.iconst 1, 1) := by decide +kernel
theorem dX5_cell_112 : decode cX5_cell 112 = .ok (.invokevirtual 160, 3) := by decide +kernel
theorem dX5_cell_115 : decode cX5_cell 115 = .ok (.ireturn, 1) := by decide +kernel
theorem dX5_cell_116 : decode cX5_cell 116 = .ok (.iconst (-1), 1) := by decide +kernel
theorem dX5_cell_117 : decode cX5_cell 117 = .ok (.ireturn, 1) := by decide +kernel
set_option maxRecDepth 20000 in
theorem ggX5_reason_X5_checkEdge : GoodIn wsX5_reason wsX5_checkEdge := goodIn_r _ [6, 7, 8, 9, 10, 11, 12, 13, 14, 15, 16, 17, 18, 19, 20, 21, 22, 23, 24, 25, 26, 27, 28, 29, 30, 31, 5, 32, 66, 67, 68, 69, 70, 71, 72, 73, 74, 75, 76, 77, 78, 79, 80, 81, 82, 83, 84, 85, 86, 87, 88] (by decide +kernel) (by decide +kernel)
set_option maxRecDepth 20000 in
theorem gX5_reason_X5_checkEdge : GoodIn wsX5_reason (wsV RX5 67 RX5 yX5_checkEdge wsX5_checkEdge) := goodIn_app (goodIn_of _ (by decide +kernel)) ggX5_reason_X5_checkEdge
set_option maxRecDepth 20000 in
theorem ggX5_reason_X4_stepThatChanged : GoodIn wsX5_reason wsX4_stepThatChanged := goodIn_r _ [37, 38, 39, 40, 41, 36, 42, 43, 44, 45, 46, 47, 48, 49, 50, 51, 52, 53, 54, 55, 56, 57, 58, 59, 60, 61, 62, 63, 64, 65, 89, 90, 91, 92, 93] (by decide +kernel) (by decide +kernel)
set_option maxRecDepth 20000 in
theorem gX5_reason_X4_stepThatChanged : GoodIn wsX5_reason (wsV RX5 160 RX4 yX4_stepThatChanged wsX4_stepThatChanged) := goodIn_app (goodIn_of _ (by decide +kernel)) ggX5_reason_X4_stepThatChanged
theorem dX5_reason_0 : decode cX5_reason 0 = .ok (.aload_n 0, 1) := by decide +kernel
theorem dX5_reason_1 : decode cX5_reason 1 = .ok (.iload_n 1, 1) := by decide +kernel
theorem dX5_reason_2 : decode cX5_reason 2 = .ok (.invokevirtual 67, 3) := by decide +kernel
theorem dX5_reason_5 : decode cX5_reason 5 = .ok (.aload_n 0, 1) := by decide +kernel
theorem dX5_reason_6 : decode cX5_reason 6 = .ok (.getfield 43, 3) := by decide +kernel
theorem dX5_reason_9 : decode cX5_reason 9 = .ok (.iload_n 1, 1) := by decide +kernel
theorem dX5_reason_10 : decode cX5_reason 10 = .ok (.iconst 0, 1) := by decide +kernel
theorem dX5_reason_11 : decode cX5_reason 11 = .ok (.invokevirtual 160, 3) := by decide +kernel
theorem dX5_reason_14 : decode cX5_reason 14 = .ok (.ireturn, 1) := by decide +kernel
set_option maxRecDepth 20000 in
theorem ggX5_mark_X3_init : GoodIn wsX5_mark wsX3_init := goodIn_r _ [13, 14, 15, 16, 17, 18, 19, 20, 21, 22, 23, 24, 25, 26, 27, 28, 64, 65, 66, 67, 68, 69, 70, 71, 72, 73, 51, 52, 53, 54, 55, 56, 57, 58] (by decide +kernel) (by decide +kernel)
set_option maxRecDepth 20000 in
theorem gX5_mark_X3_init : GoodIn wsX5_mark (wsX3_init) := ggX5_mark_X3_init
set_option maxRecDepth 20000 in
theorem ggX5_mark_X3_copy : GoodIn wsX5_mark wsX3_copy := goodIn_r _ [32, 21, 22, 33, 34, 35, 36, 23, 37, 38, 39, 40, 19, 41, 42, 43, 51, 52, 53, 54, 55, 56, 57, 58, 64, 65, 66] (by decide +kernel) (by decide +kernel)
set_option maxRecDepth 20000 in
theorem gX5_mark_X3_copy : GoodIn wsX5_mark (wsV RX5 164 RX3 yX3_copy wsX3_copy) := goodIn_app (goodIn_of _ (by decide +kernel)) ggX5_mark_X3_copy
theorem dX5_mark_0 : decode cX5_mark 0 = .ok (.aload_n 0, 1) := by decide +kernel
theorem dX5_mark_1 : decode cX5_mark 1 = .ok (.getfield 64, 3) := by decide +kernel
theorem dX5_mark_4 : decode cX5_mark 4 = .ok (.ifCond .lt 12, 3) := by decide +kernel
theorem dX5_mark_7 : decode cX5_mark 7 = .ok (.aload_n 0, 1) := by decide +kernel
theorem dX5_mark_8 : decode cX5_mark 8 = .ok (.getfield 64, 3) := by decide +kernel
theorem dX5_mark_11 : decode cX5_mark 11 = .ok (.bipush 12, 2) := by decide +kernel
theorem dX5_mark_13 : decode cX5_mark 13 = .ok (.if_icmp .lt 5, 3) := by decide +kernel
theorem dX5_mark_16 : decode cX5_mark 16 = .ok (.iconst (-1), 1) := by decide +kernel
theorem dX5_mark_17 : decode cX5_mark 17 = .ok (.ireturn, 1) := by decide +kernel
theorem dX5_mark_18 : decode cX5_mark 18 = .ok (.aload_n 0, 1) := by decide +kernel
theorem dX5_mark_19 : decode cX5_mark 19 = .ok (.getfield 56, 3) := by decide +kernel
theorem dX5_mark_22 : decode cX5_mark 22 = .ok (.aload_n 0, 1) := by decide +kernel
theorem dX5_mark_23 : decode cX5_mark 23 = .ok (.getfield 64, 3) := by decide +kernel
theorem dX5_mark_26 : decode cX5_mark 26 = .ok (.aaload, 1) := by decide +kernel
theorem dX5_mark_27 : decode cX5_mark 27 = .ok (.ifnonnull 23, 3) := by decide +kernel
theorem dX5_mark_30 : decode cX5_mark 30 = .ok (.aload_n 0, 1) := by decide +kernel
theorem dX5_mark_31 : decode cX5_mark 31 = .ok (.getfield 56, 3) := by decide +kernel
theorem dX5_mark_34 : decode cX5_mark 34 = .ok (.aload_n 0, 1) := by decide +kernel
theorem dX5_mark_35 : decode cX5_mark 35 = .ok (.getfield 64, 3) := by decide +kernel
theorem dX5_mark_38 : decode cX5_mark 38 = .ok (.new 22, 3) := by decide +kernel
theorem dX5_mark_41 : decode cX5_mark 41 = .ok (.dup, 1) := by decide +kernel
theorem dX5_mark_42 : decode cX5_mark 42 = .ok (.aload_n 0, 1) := by decide +kernel
theorem dX5_mark_43 : decode cX5_mark 43 = .ok (.getfield 18, 3) := by decide +kernel
theorem dX5_mark_46 : decode cX5_mark 46 = .ok (.invokespecial 24, 3) := by decide +kernel
theorem dX5_mark_49 : decode cX5_mark 49 = .ok (.aastore, 1) := by decide +kernel
theorem dX5_mark_50 : decode cX5_mark 50 = .ok (.aload_n 0, 1) := by decide +kernel
theorem dX5_mark_51 : decode cX5_mark 51 = .ok (.getfield 56, 3) := by decide +kernel
theorem dX5_mark_54 : decode cX5_mark 54 = .ok (.aload_n 0, 1) := by decide +kernel
theorem dX5_mark_55 : decode cX5_mark 55 = .ok (.getfield 64, 3) := by decide +kernel
theorem dX5_mark_58 : decode cX5_mark 58 = .ok (.aaload, 1) := by decide +kernel
theorem dX5_mark_59 : decode cX5_mark 59 = .ok (.aload_n 0, 1) := by decide +kernel
theorem dX5_mark_60 : decode cX5_mark 60 = .ok (.getfield 27, 3) := by decide +kernel
theorem dX5_mark_63 : decode cX5_mark 63 = .ok (.invokevirtual 164, 3) := by decide +kernel
theorem dX5_mark_66 : decode cX5_mark 66 = .ok (.aload_n 0, 1) := by decide +kernel
theorem dX5_mark_67 : decode cX5_mark 67 = .ok (.getfield 60, 3) := by decide +kernel
theorem dX5_mark_70 : decode cX5_mark 70 = .ok (.aload_n 0, 1) := by decide +kernel
theorem dX5_mark_71 : decode cX5_mark 71 = .ok (.getfield 64, 3) := by decide +kernel
theorem dX5_mark_74 : decode cX5_mark 74 = .ok (.aload_n 0, 1) := by decide +kernel
theorem dX5_mark_75 : decode cX5_mark 75 = .ok (.getfield 43, 3) := by decide +kernel
theorem dX5_mark_78 : decode cX5_mark 78 = .ok (.getfield 114, 3) := by decide +kernel
theorem dX5_mark_81 : decode cX5_mark 81 = .ok (.iastore, 1) := by decide +kernel
theorem dX5_mark_82 : decode cX5_mark 82 = .ok (.aload_n 0, 1) := by decide +kernel
theorem dX5_mark_83 : decode cX5_mark 83 = .ok (.dup, 1) := by decide +kernel
theorem dX5_mark_84 : decode cX5_mark 84 = .ok (.getfield 64, 3) := by decide +kernel
theorem dX5_mark_87 : decode cX5_mark 87 = .ok (.iconst 1, 1) := by decide +kernel
theorem dX5_mark_88 : decode cX5_mark 88 = .ok (.iadd, 1) := by decide +kernel
theorem dX5_mark_89 : decode cX5_mark 89 = .ok (.putfield 64, 3) := by decide +kernel
theorem dX5_mark_92 : decode cX5_mark 92 = .ok (.aload_n 0, 1) := by decide +kernel
theorem dX5_mark_93 : decode cX5_mark 93 = .ok (.getfield 64, 3) := by decide +kernel
theorem dX5_mark_96 : decode cX5_mark 96 = .ok (.iconst 1, 1) := by decide +kernel
theorem dX5_mark_97 : decode cX5_mark 97 = .ok (.isub, 1) := by decide +kernel
theorem dX5_mark_98 : decode cX5_mark 98 = .ok (.ireturn, 1) := by decide +kernel
set_option maxRecDepth 20000 in
theorem ggX5_back_X3_copy : GoodIn wsX5_back wsX3_copy := goodIn_r _ [11, 12, 13, 14, 15, 16, 17, 18, 19, 20, 21, 22, 23, 24, 25, 26, 39, 40, 41, 42, 43, 44, 45, 46, 47, 48, 49] (by decide +kernel) (by decide +kernel)
set_option maxRecDepth 20000 in
theorem gX5_back_X3_copy : GoodIn wsX5_back (wsV RX5 164 RX3 yX3_copy wsX3_copy) := goodIn_app (goodIn_of _ (by decide +kernel)) ggX5_back_X3_copy
theorem dX5_back_0 : decode cX5_back 0 = .ok (.iload_n 1, 1) := by decide +kernel
theorem dX5_back_1 : decode cX5_back 1 = .ok (.ifCond .lt 26, 3) := by decide +kernel
theorem dX5_back_4 : decode cX5_back 4 = .ok (.iload_n 1, 1) := by decide +kernel
theorem dX5_back_5 : decode cX5_back 5 = .ok (.aload_n 0, 1) := by decide +kernel
theorem dX5_back_6 : decode cX5_back 6 = .ok (.getfield 64, 3) := by decide +kernel
theorem dX5_back_9 : decode cX5_back 9 = .ok (.if_icmp .ge 18, 3) := by decide +kernel
theorem dX5_back_12 : decode cX5_back 12 = .ok (.iload_n 1, 1) := by decide +kernel
theorem dX5_back_13 : decode cX5_back 13 = .ok (.bipush 12, 2) := by decide +kernel
theorem dX5_back_15 : decode cX5_back 15 = .ok (.if_icmp .ge 12, 3) := by decide +kernel
theorem dX5_back_18 : decode cX5_back 18 = .ok (.aload_n 0, 1) := by decide +kernel
theorem dX5_back_19 : decode cX5_back 19 = .ok (.getfield 56, 3) := by decide +kernel
theorem dX5_back_22 : decode cX5_back 22 = .ok (.iload_n 1, 1) := by decide +kernel
theorem dX5_back_23 : decode cX5_back 23 = .ok (.aaload, 1) := by decide +kernel
theorem dX5_back_24 : decode cX5_back 24 = .ok (.ifnonnull 5, 3) := by decide +kernel
theorem dX5_back_27 : decode cX5_back 27 = .ok (.iconst 0, 1) := by decide +kernel
theorem dX5_back_28 : decode cX5_back 28 = .ok (.ireturn, 1) := by decide +kernel
theorem dX5_back_29 : decode cX5_back 29 = .ok (.aload_n 0, 1) := by decide +kernel
theorem dX5_back_30 : decode cX5_back 30 = .ok (.getfield 27, 3) := by decide +kernel
theorem dX5_back_33 : decode cX5_back 33 = .ok (.aload_n 0, 1) := by decide +kernel
theorem dX5_back_34 : decode cX5_back 34 = .ok (.getfield 56, 3) := by decide +kernel
theorem dX5_back_37 : decode cX5_back 37 = .ok (.iload_n 1, 1) := by decide +kernel
theorem dX5_back_38 : decode cX5_back 38 = .ok (.aaload, 1) := by decide +kernel
theorem dX5_back_39 : decode cX5_back 39 = .ok (.invokevirtual 164, 3) := by decide +kernel
theorem dX5_back_42 : decode cX5_back 42 = .ok (.aload_n 0, 1) := by decide +kernel
theorem dX5_back_43 : decode cX5_back 43 = .ok (.getfield 43, 3) := by decide +kernel
theorem dX5_back_46 : decode cX5_back 46 = .ok (.aload_n 0, 1) := by decide +kernel
theorem dX5_back_47 : decode cX5_back 47 = .ok (.getfield 60, 3) := by decide +kernel
theorem dX5_back_50 : decode cX5_back 50 = .ok (.iload_n 1, 1) := by decide +kernel
theorem dX5_back_51 : decode cX5_back 51 = .ok (.iaload, 1) := by decide +kernel
theorem dX5_back_52 : decode cX5_back 52 = .ok (.putfield 114, 3) := by decide +kernel
theorem dX5_back_55 : decode cX5_back 55 = .ok (.aload_n 0, 1) := by decide +kernel
theorem dX5_back_56 : decode cX5_back 56 = .ok (.iload_n 1, 1) := by decide +kernel
theorem dX5_back_57 : decode cX5_back 57 = .ok (.putfield 64, 3) := by decide +kernel
theorem dX5_back_60 : decode cX5_back 60 = .ok (.iconst 1, 1) := by decide +kernel
theorem dX5_back_61 : decode cX5_back 61 = .ok (.ireturn, 1) := by decide +kernel
theorem dX5_sideWithin_0 : decode cX5_sideWithin 0 = .ok (.iconst 1, 1) := by decide +kernel
theorem dX5_sideWithin_1 : decode cX5_sideWithin 1 = .ok (.bipush 8, 2) := by decide +kernel
theorem dX5_sideWithin_3 : decode cX5_sideWithin 3 = .ok (.iload_n 0, 1) := by decide +kernel
theorem dX5_sideWithin_4 : decode cX5_sideWithin 4 = .ok (.invokestatic 168, 3) := by decide +kernel
theorem dX5_sideWithin_7 : decode cX5_sideWithin 7 = .ok (.invokestatic 173, 3) := by decide +kernel
theorem dX5_sideWithin_10 : decode cX5_sideWithin 10 = .ok (.ireturn, 1) := by decide +kernel
set_option maxRecDepth 20000 in
theorem ggX5_checkEdge_X1_hasEdge : GoodIn wsX5_checkEdge wsX1_hasEdge := goodIn_r _ [9, 10, 11, 12, 13, 14, 15, 16, 17, 18, 19, 20, 21, 22, 23, 8, 24, 25, 26, 27, 41, 42, 43, 44, 45, 46, 47, 48, 49, 50] (by decide +kernel) (by decide +kernel)
set_option maxRecDepth 20000 in
theorem gX5_checkEdge_X1_hasEdge : GoodIn wsX5_checkEdge (wsV RX5 176 RX1 yX1_hasEdge wsX1_hasEdge) := goodIn_app (goodIn_of _ (by decide +kernel)) ggX5_checkEdge_X1_hasEdge
theorem dX5_checkEdge_0 : decode cX5_checkEdge 0 = .ok (.aload_n 0, 1) := by decide +kernel
theorem dX5_checkEdge_1 : decode cX5_checkEdge 1 = .ok (.getfield 18, 3) := by decide +kernel
theorem dX5_checkEdge_4 : decode cX5_checkEdge 4 = .ok (.iload_n 1, 1) := by decide +kernel
theorem dX5_checkEdge_5 : decode cX5_checkEdge 5 = .ok (.invokevirtual 176, 3) := by decide +kernel
theorem dX5_checkEdge_8 : decode cX5_checkEdge 8 = .ok (.ifCond .ne 13, 3) := by decide +kernel
theorem dX5_checkEdge_11 : decode cX5_checkEdge 11 = .ok (.new 180, 3) := by decide +kernel
theorem dX5_checkEdge_14 : decode cX5_checkEdge 14 = .ok (.dup, 1) := by decide +kernel
theorem dX5_checkEdge_15 : decode cX5_checkEdge 15 = .ok (.ldc 182, 2) := by decide +kernel
theorem dX5_checkEdge_17 : decode cX5_checkEdge 17 = .ok (.invokespecial 184, 3) := by decide +kernel
theorem dX5_checkEdge_20 : decode cX5_checkEdge 20 = .ok (.athrow, 1) := by decide +kernel
theorem dX5_checkEdge_21 : decode cX5_checkEdge 21 = .ok (.return_, 1) := by decide +kernel
set_option maxRecDepth 20000 in
theorem ggX5_checkCell_X1_hasCell : GoodIn wsX5_checkCell wsX1_hasCell := goodIn_r _ [9, 10, 24, 25, 26, 27, 28, 29, 30] (by decide +kernel) (by decide +kernel)
set_option maxRecDepth 20000 in
theorem gX5_checkCell_X1_hasCell : GoodIn wsX5_checkCell (wsV RX5 185 RX1 yX1_hasCell wsX1_hasCell) := goodIn_app (goodIn_of _ (by decide +kernel)) ggX5_checkCell_X1_hasCell
theorem dX5_checkCell_0 : decode cX5_checkCell 0 = .ok (.aload_n 0, 1) := by decide +kernel
theorem dX5_checkCell_1 : decode cX5_checkCell 1 = .ok (.getfield 18, 3) := by decide +kernel
theorem dX5_checkCell_4 : decode cX5_checkCell 4 = .ok (.iload_n 1, 1) := by decide +kernel
theorem dX5_checkCell_5 : decode cX5_checkCell 5 = .ok (.invokevirtual 185, 3) := by decide +kernel
theorem dX5_checkCell_8 : decode cX5_checkCell 8 = .ok (.ifCond .ne 13, 3) := by decide +kernel
theorem dX5_checkCell_11 : decode cX5_checkCell 11 = .ok (.new 180, 3) := by decide +kernel
theorem dX5_checkCell_14 : decode cX5_checkCell 14 = .ok (.dup, 1) := by decide +kernel
theorem dX5_checkCell_15 : decode cX5_checkCell 15 = .ok (.ldc 188, 2) := by decide +kernel
theorem dX5_checkCell_17 : decode cX5_checkCell 17 = .ok (.invokespecial 184, 3) := by decide +kernel
theorem dX5_checkCell_20 : decode cX5_checkCell 20 = .ok (.athrow, 1) := by decide +kernel
theorem dX5_checkCell_21 : decode cX5_checkCell 21 = .ok (.return_, 1) := by decide +kernel
theorem dX5_only_0 : decode cX5_only 0 = .ok (.lconst 1, 1) := by decide +kernel
theorem dX5_only_1 : decode cX5_only 1 = .ok (.iload_n 0, 1) := by decide +kernel
theorem dX5_only_2 : decode cX5_only 2 = .ok (.lshl, 1) := by decide +kernel
theorem dX5_only_3 : decode cX5_only 3 = .ok (.lreturn, 1) := by decide +kernel
set_option maxRecDepth 20000 in
theorem ggX5_holds_X5_only : GoodIn wsX5_holds wsX5_only := goodIn_r _ [4] (by decide +kernel) (by decide +kernel)
set_option maxRecDepth 20000 in
theorem gX5_holds_X5_only : GoodIn wsX5_holds (va_wsS RX5 190 yX5_only wsX5_only) := goodIn_app (goodIn_of _ (by decide +kernel)) ggX5_holds_X5_only
theorem dX5_holds_0 : decode cX5_holds 0 = .ok (.lload_n 0, 1) := by decide +kernel
theorem dX5_holds_1 : decode cX5_holds 1 = .ok (.iload_n 2, 1) := by decide +kernel
theorem dX5_holds_2 : decode cX5_holds 2 = .ok (.invokestatic 190, 3) := by decide +kernel
theorem dX5_holds_5 : decode cX5_holds 5 = .ok (.land, 1) := by decide +kernel
theorem dX5_holds_6 : decode cX5_holds 6 = .ok (.lconst 0, 1) := by decide +kernel
theorem dX5_holds_7 : decode cX5_holds 7 = .ok (.lcmp, 1) := by decide +kernel
theorem dX5_holds_8 : decode cX5_holds 8 = .ok (.ifCond .eq 7, 3) := by decide +kernel
theorem dX5_holds_11 : decode cX5_holds 11 = .ok (.iconst 1, 1) := by decide +kernel
theorem dX5_holds_12 : decode cX5_holds 12 = .ok (.goto 4, 3) := by decide +kernel
theorem dX5_holds_15 : decode cX5_holds 15 = .ok (.iconst 0, 1) := by decide +kernel
theorem dX5_holds_16 : decode cX5_holds 16 = .ok (.ireturn, 1) := by decide +kernel
set_option maxRecDepth 20000 in
theorem ggX5_least_J13_bitCount_95d88 : GoodIn wsX5_least wsJ13_bitCount_95d88 := goodIn_r _ [4, 5, 6, 7] (by decide +kernel) (by decide +kernel)
set_option maxRecDepth 20000 in
theorem gX5_least_J13_bitCount_95d88 : GoodIn wsX5_least (va_wsS RX5 194 yJ13_bitCount_95d88 wsJ13_bitCount_95d88) := goodIn_app (goodIn_of _ (by decide +kernel)) ggX5_least_J13_bitCount_95d88
theorem dX5_least_0 : decode cX5_least 0 = .ok (.lload_n 0, 1) := by decide +kernel
theorem dX5_least_1 : decode cX5_least 1 = .ok (.lload_n 0, 1) := by decide +kernel
theorem dX5_least_2 : decode cX5_least 2 = .ok (.lneg, 1) := by decide +kernel
theorem dX5_least_3 : decode cX5_least 3 = .ok (.land, 1) := by decide +kernel
theorem dX5_least_4 : decode cX5_least 4 = .ok (.lconst 1, 1) := by decide +kernel
theorem dX5_least_5 : decode cX5_least 5 = .ok (.lsub, 1) := by decide +kernel
theorem dX5_least_6 : decode cX5_least 6 = .ok (.invokestatic 194, 3) := by decide +kernel
theorem dX5_least_9 : decode cX5_least 9 = .ok (.ireturn, 1) := by decide +kernel
theorem dJx00060_init_a7421_0 : decode cJx00060_init_a7421 0 = .ok (.aload_n 0, 1) := by decide +kernel
theorem dJx00060_init_a7421_1 : decode cJx00060_init_a7421 1 = .ok (.aload_n 1, 1) := by decide +kernel
theorem dJx00060_init_a7421_2 : decode cJx00060_init_a7421 2 = .ok (.invokespecial 7, 3) := by decide +kernel
theorem dJx00060_init_a7421_5 : decode cJx00060_init_a7421 5 = .ok (.return_, 1) := by decide +kernel
theorem dJ13_bitCount_95d88_0 : decode cJ13_bitCount_95d88 0 = .ok (.lload_n 0, 1) := by decide +kernel
theorem dJ13_bitCount_95d88_1 : decode cJ13_bitCount_95d88 1 = .ok (.lload_n 0, 1) := by decide +kernel
theorem dJ13_bitCount_95d88_2 : decode cJ13_bitCount_95d88 2 = .ok (.iconst 1, 1) := by decide +kernel
theorem dJ13_bitCount_95d88_3 : decode cJ13_bitCount_95d88 3 = .ok (.lushr, 1) := by decide +kernel
theorem dJ13_bitCount_95d88_4 : decode cJ13_bitCount_95d88 4 = .ok (.ldc2_w 314, 3) := by decide +kernel
theorem dJ13_bitCount_95d88_7 : decode cJ13_bitCount_95d88 7 = .ok (.land, 1) := by decide +kernel
theorem dJ13_bitCount_95d88_8 : decode cJ13_bitCount_95d88 8 = .ok (.lsub, 1) := by decide +kernel
theorem dJ13_bitCount_95d88_9 : decode cJ13_bitCount_95d88 9 = .ok (.lstore_n 0, 1) := by decide +kernel
theorem dJ13_bitCount_95d88_10 : decode cJ13_bitCount_95d88 10 = .ok (.lload_n 0, 1) := by decide +kernel
theorem dJ13_bitCount_95d88_11 : decode cJ13_bitCount_95d88 11 = .ok (.ldc2_w 316, 3) := by decide +kernel
theorem dJ13_bitCount_95d88_14 : decode cJ13_bitCount_95d88 14 = .ok (.land, 1) := by decide +kernel
theorem dJ13_bitCount_95d88_15 : decode cJ13_bitCount_95d88 15 = .ok (.lload_n 0, 1) := by decide +kernel
theorem dJ13_bitCount_95d88_16 : decode cJ13_bitCount_95d88 16 = .ok (.iconst 2, 1) := by decide +kernel
theorem dJ13_bitCount_95d88_17 : decode cJ13_bitCount_95d88 17 = .ok (.lushr, 1) := by decide +kernel
theorem dJ13_bitCount_95d88_18 : decode cJ13_bitCount_95d88 18 = .ok (.ldc2_w 316, 3) := by decide +kernel
theorem dJ13_bitCount_95d88_21 : decode cJ13_bitCount_95d88 21 = .ok (.land, 1) := by decide +kernel
theorem dJ13_bitCount_95d88_22 : decode cJ13_bitCount_95d88 22 = .ok (.ladd, 1) := by decide +kernel
theorem dJ13_bitCount_95d88_23 : decode cJ13_bitCount_95d88 23 = .ok (.lstore_n 0, 1) := by decide +kernel
theorem dJ13_bitCount_95d88_24 : decode cJ13_bitCount_95d88 24 = .ok (.lload_n 0, 1) := by decide +kernel
theorem dJ13_bitCount_95d88_25 : decode cJ13_bitCount_95d88 25 = .ok (.lload_n 0, 1) := by decide +kernel
theorem dJ13_bitCount_95d88_26 : decode cJ13_bitCount_95d88 26 = .ok (.iconst 4, 1) := by decide +kernel
theorem dJ13_bitCount_95d88_27 : decode cJ13_bitCount_95d88 27 = .ok (.lushr, 1) := by decide +kernel
theorem dJ13_bitCount_95d88_28 : decode cJ13_bitCount_95d88 28 = .ok (.ladd, 1) := by decide +kernel
theorem dJ13_bitCount_95d88_29 : decode cJ13_bitCount_95d88 29 = .ok (.ldc2_w 318, 3) := by decide +kernel
theorem dJ13_bitCount_95d88_32 : decode cJ13_bitCount_95d88 32 = .ok (.land, 1) := by decide +kernel
theorem dJ13_bitCount_95d88_33 : decode cJ13_bitCount_95d88 33 = .ok (.lstore_n 0, 1) := by decide +kernel
theorem dJ13_bitCount_95d88_34 : decode cJ13_bitCount_95d88 34 = .ok (.lload_n 0, 1) := by decide +kernel
theorem dJ13_bitCount_95d88_35 : decode cJ13_bitCount_95d88 35 = .ok (.lload_n 0, 1) := by decide +kernel
theorem dJ13_bitCount_95d88_36 : decode cJ13_bitCount_95d88 36 = .ok (.bipush 8, 2) := by decide +kernel
theorem dJ13_bitCount_95d88_38 : decode cJ13_bitCount_95d88 38 = .ok (.lushr, 1) := by decide +kernel
theorem dJ13_bitCount_95d88_39 : decode cJ13_bitCount_95d88 39 = .ok (.ladd, 1) := by decide +kernel
theorem dJ13_bitCount_95d88_40 : decode cJ13_bitCount_95d88 40 = .ok (.lstore_n 0, 1) := by decide +kernel
theorem dJ13_bitCount_95d88_41 : decode cJ13_bitCount_95d88 41 = .ok (.lload_n 0, 1) := by decide +kernel
theorem dJ13_bitCount_95d88_42 : decode cJ13_bitCount_95d88 42 = .ok (.lload_n 0, 1) := by decide +kernel
theorem dJ13_bitCount_95d88_43 : decode cJ13_bitCount_95d88 43 = .ok (.bipush 16, 2) := by decide +kernel
theorem dJ13_bitCount_95d88_45 : decode cJ13_bitCount_95d88 45 = .ok (.lushr, 1) := by decide +kernel
theorem dJ13_bitCount_95d88_46 : decode cJ13_bitCount_95d88 46 = .ok (.ladd, 1) := by decide +kernel
theorem dJ13_bitCount_95d88_47 : decode cJ13_bitCount_95d88 47 = .ok (.lstore_n 0, 1) := by decide +kernel
theorem dJ13_bitCount_95d88_48 : decode cJ13_bitCount_95d88 48 = .ok (.lload_n 0, 1) := by decide +kernel
theorem dJ13_bitCount_95d88_49 : decode cJ13_bitCount_95d88 49 = .ok (.lload_n 0, 1) := by decide +kernel
theorem dJ13_bitCount_95d88_50 : decode cJ13_bitCount_95d88 50 = .ok (.bipush 32, 2) := by decide +kernel
theorem dJ13_bitCount_95d88_52 : decode cJ13_bitCount_95d88 52 = .ok (.lushr, 1) := by decide +kernel
theorem dJ13_bitCount_95d88_53 : decode cJ13_bitCount_95d88 53 = .ok (.ladd, 1) := by decide +kernel
theorem dJ13_bitCount_95d88_54 : decode cJ13_bitCount_95d88 54 = .ok (.lstore_n 0, 1) := by decide +kernel
theorem dJ13_bitCount_95d88_55 : decode cJ13_bitCount_95d88 55 = .ok (.lload_n 0, 1) := by decide +kernel
theorem dJ13_bitCount_95d88_56 : decode cJ13_bitCount_95d88 56 = .ok (.l2i, 1) := by decide +kernel
theorem dJ13_bitCount_95d88_57 : decode cJ13_bitCount_95d88 57 = .ok (.bipush 127, 2) := by decide +kernel
theorem dJ13_bitCount_95d88_59 : decode cJ13_bitCount_95d88 59 = .ok (.iand, 1) := by decide +kernel
theorem dJ13_bitCount_95d88_60 : decode cJ13_bitCount_95d88 60 = .ok (.ireturn, 1) := by decide +kernel
theorem dJ9_max_7cf53_0 : decode cJ9_max_7cf53 0 = .ok (.iload_n 0, 1) := by decide +kernel
theorem dJ9_max_7cf53_1 : decode cJ9_max_7cf53 1 = .ok (.iload_n 1, 1) := by decide +kernel
theorem dJ9_max_7cf53_2 : decode cJ9_max_7cf53 2 = .ok (.if_icmp .lt 7, 3) := by decide +kernel
theorem dJ9_max_7cf53_5 : decode cJ9_max_7cf53 5 = .ok (.iload_n 0, 1) := by decide +kernel
theorem dJ9_max_7cf53_6 : decode cJ9_max_7cf53 6 = .ok (.goto 4, 3) := by decide +kernel
theorem dJ9_max_7cf53_9 : decode cJ9_max_7cf53 9 = .ok (.iload_n 1, 1) := by decide +kernel
theorem dJ9_max_7cf53_10 : decode cJ9_max_7cf53 10 = .ok (.ireturn, 1) := by decide +kernel
theorem dJ9_min_7cf53_0 : decode cJ9_min_7cf53 0 = .ok (.iload_n 0, 1) := by decide +kernel
theorem dJ9_min_7cf53_1 : decode cJ9_min_7cf53 1 = .ok (.iload_n 1, 1) := by decide +kernel
theorem dJ9_min_7cf53_2 : decode cJ9_min_7cf53 2 = .ok (.if_icmp .gt 7, 3) := by decide +kernel
theorem dJ9_min_7cf53_5 : decode cJ9_min_7cf53 5 = .ok (.iload_n 0, 1) := by decide +kernel
theorem dJ9_min_7cf53_6 : decode cJ9_min_7cf53 6 = .ok (.goto 4, 3) := by decide +kernel
theorem dJ9_min_7cf53_9 : decode cJ9_min_7cf53 9 = .ok (.iload_n 1, 1) := by decide +kernel
theorem dJ9_min_7cf53_10 : decode cJ9_min_7cf53 10 = .ok (.ireturn, 1) := by decide +kernel
abbrev vwCl : List vw_C := [(RJx00060, TJx00060, 6), (RX0, TX0, 3), (RX1, TX1, 7), (RX2, TX2, 10), (RX3, TX3, 8), (RX4, TX4, 5), (RX5, TX5, 7), (RX6, TX6, 25)]
