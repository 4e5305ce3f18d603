def wsX5_reason_r3 : List Cond := [Cond.instanceMethod yX4_hasChanged, Cond.selects RX4 yX4_hasChanged yX4_hasChanged, Cond.code yX4_hasChanged cX4_hasChanged 5 (some .boolean), Cond.methodLink RX4 36 yX4_changesOf, Cond.instanceMethod yX4_changesOf, Cond.selects RX4 yX4_changesOf yX4_changesOf, Cond.code yX4_changesOf cX4_changesOf 2 (some .int), Cond.fieldLink RX4 18 "LoopRegions$StepLog" "changeEnds" "[I", Cond.methodLink RX4 28 yX4_changeStart, Cond.instanceMethod yX4_changeStart, Cond.selects RX4 yX4_changeStart yX4_changeStart, Cond.code yX4_changeStart cX4_changeStart 2 (some .int), Cond.methodLink RX4 46 yX4_changeOf, Cond.instanceMethod yX4_changeOf, Cond.selects RX4 yX4_changeOf yX4_changeOf, Cond.code yX4_changeOf cX4_changeOf 4 (some .int), Cond.fieldLink RX4 21 "LoopRegions$StepLog" "changes" "[I"]
def wsX5_reason : List Cond := .code yX5_reason cX5_reason 2 (some .int) :: ((wsX5_reason_r1 ++ (wsX5_reason_r2 ++ wsX5_reason_r3)) ++ wsX50 ++ wsJx000600 ++ wsX10 ++ wsX00 ++ wsX40)
def wsX5_mark_r1 : List Cond := [Cond.fieldLink RX5 64 "LoopRegions" "standing" "I", Cond.fieldLink RX5 56 "LoopRegions" "marks" "[LLoopRegions$State;", Cond.classLink RX5 22 RX3, Cond.instantiable RX3 8, Cond.initialized RX3, Cond.fieldLink RX5 18 "LoopRegions" "grid" "LLoopRegions$Grid;", Cond.fieldLink RX5 27 "LoopRegions" "now" "LLoopRegions$State;", Cond.fieldLink RX5 60 "LoopRegions" "stepsAtMark" "[I", Cond.fieldLink RX5 43 "LoopRegions" "log" "LLoopRegions$StepLog;", Cond.fieldLink RX5 114 "LoopRegions$StepLog" "count" "I", Cond.methodLink RX5 24 yX3_init, Cond.instanceMethod yX3_init, Cond.code yX3_init cX3_init 2 none, Cond.methodLink RX3 3 objectInit, Cond.instanceMethod objectInit, Cond.code objectInit ⟨#[0xb1]⟩ 1 none, Cond.classLink RX3 9 RX0, Cond.instantiable RX0 3, Cond.initialized RX0, Cond.fieldLink RX3 11 "LoopRegions$Grid" "width" "I", Cond.fieldLink RX3 20 "LoopRegions$State" "on" "LLoopRegions$Edges;", Cond.fieldLink RX3 26 "LoopRegions$State" "off" "LLoopRegions$Edges;", Cond.fieldLink RX3 29 "LoopRegions$State" "told" "I", Cond.methodLink RX3 17 yX0_init]
def wsX5_mark_r2 : List Cond := [Cond.instanceMethod yX0_init, Cond.code yX0_init cX0_init 2 none, Cond.methodLink RX0 3 objectInit, Cond.fieldLink RX0 9 "LoopRegions$Edges" "width" "I", Cond.methodLink RX5 164 yX3_copy, Cond.instanceMethod yX3_copy, Cond.selects RX3 yX3_copy yX3_copy, Cond.code yX3_copy cX3_copy 2 none, Cond.fieldLink RX3 36 "LoopRegions$State" "must" "J", Cond.fieldLink RX3 40 "LoopRegions$State" "barred" "J", Cond.fieldLink RX3 43 "LoopRegions$State" "black" "J", Cond.fieldLink RX3 46 "LoopRegions$State" "white" "J", Cond.fieldLink RX3 49 "LoopRegions$State" "wrong" "Z", Cond.methodLink RX3 32 yX0_copy, Cond.instanceMethod yX0_copy, Cond.selects RX0 yX0_copy yX0_copy, Cond.code yX0_copy cX0_copy 2 none, Cond.fieldLink RX0 15 "LoopRegions$Edges" "right" "J", Cond.fieldLink RX0 19 "LoopRegions$Edges" "below" "J"]
def wsX5_mark : List Cond := .code yX5_mark cX5_mark 1 (some .int) :: ((wsX5_mark_r1 ++ wsX5_mark_r2) ++ wsX50 ++ wsX30 ++ wsX40 ++ wsX00 ++ wsX10)
def wsX5_back_r1 : List Cond := [Cond.fieldLink RX5 64 "LoopRegions" "standing" "I", Cond.fieldLink RX5 56 "LoopRegions" "marks" "[LLoopRegions$State;", Cond.fieldLink RX5 27 "LoopRegions" "now" "LLoopRegions$State;", Cond.fieldLink RX5 43 "LoopRegions" "log" "LLoopRegions$StepLog;", Cond.fieldLink RX5 60 "LoopRegions" "stepsAtMark" "[I", Cond.fieldLink RX5 114 "LoopRegions$StepLog" "count" "I", Cond.methodLink RX5 164 yX3_copy, Cond.instanceMethod yX3_copy, Cond.selects RX3 yX3_copy yX3_copy, Cond.initialized RX3, Cond.code yX3_copy cX3_copy 2 none, Cond.fieldLink RX3 20 "LoopRegions$State" "on" "LLoopRegions$Edges;", Cond.fieldLink RX3 26 "LoopRegions$State" "off" "LLoopRegions$Edges;", Cond.fieldLink RX3 36 "LoopRegions$State" "must" "J", Cond.fieldLink RX3 40 "LoopRegions$State" "barred" "J", Cond.fieldLink RX3 43 "LoopRegions$State" "black" "J", Cond.fieldLink RX3 46 "LoopRegions$State" "white" "J", Cond.fieldLink RX3 29 "LoopRegions$State" "told" "I", Cond.fieldLink RX3 49 "LoopRegions$State" "wrong" "Z", Cond.methodLink RX3 32 yX0_copy, Cond.instanceMethod yX0_copy, Cond.selects RX0 yX0_copy yX0_copy, Cond.initialized RX0, Cond.code yX0_copy cX0_copy 2 none]
def wsX5_back_r2 : List Cond := [Cond.fieldLink RX0 15 "LoopRegions$Edges" "right" "J", Cond.fieldLink RX0 19 "LoopRegions$Edges" "below" "J"]
def wsX5_back : List Cond := .code yX5_back cX5_back 2 (some .boolean) :: ((wsX5_back_r1 ++ wsX5_back_r2) ++ wsX50 ++ wsX40 ++ wsX30 ++ wsX00)
def wsJx00060_init_a7421 : List Cond := .code yJx00060_init_a7421 cJx00060_init_a7421 2 none :: ([])
def wsJ9_max_7cf53 : List Cond := .code yJ9_max_7cf53 cJ9_max_7cf53 2 (some .int) :: ([])
def wsJ9_min_7cf53 : List Cond := .code yJ9_min_7cf53 cJ9_min_7cf53 2 (some .int) :: ([])
theorem dX0_init_0 : decode cX0_init 0 = .ok (.aload_n 0, 1) := by decide +kernel
theorem dX0_init_1 : decode cX0_init 1 = .ok (.invokespecial 3, 3) := by decide +kernel
theorem dX0_init_4 : decode cX0_init 4 = .ok (.aload_n 0, 1) := by decide +kernel
theorem dX0_init_5 : decode cX0_init 5 = .ok (.iload_n 1, 1) := by decide +kernel
theorem dX0_init_6 : decode cX0_init 6 = .ok (.putfield 9, 3) := by decide +kernel
theorem dX0_init_9 : decode cX0_init 9 = .ok (.return_, 1) := by decide +kernel
theorem dX0_copy_0 : decode cX0_copy 0 = .ok (.aload_n 0, 1) := by decide +kernel
theorem dX0_copy_1 : decode cX0_copy 1 = .ok (.aload_n 1, 1) := by decide +kernel
theorem dX0_copy_2 : decode cX0_copy 2 = .ok (.getfield 15, 3) := by decide +kernel
theorem dX0_copy_5 : decode cX0_copy 5 = .ok (.putfield 15, 3) := by decide +kernel
theorem dX0_copy_8 : decode cX0_copy 8 = .ok (.aload_n 0, 1) := by decide +kernel
theorem dX0_copy_9 : decode cX0_copy 9 = .ok (.aload_n 1, 1) := by decide +kernel
theorem dX0_copy_10 : decode cX0_copy 10 = .ok (.getfield 19, 3) := by decide +kernel
theorem dX0_copy_13 : decode cX0_copy 13 = .ok (.putfield 19, 3) := by decide +kernel
theorem dX0_copy_16 : decode cX0_copy 16 = .ok (.return_, 1) := by decide +kernel
theorem dX0_copyWithout_0 : decode cX0_copyWithout 0 = .ok (.aload_n 0, 1) := by decide +kernel
theorem dX0_copyWithout_1 : decode cX0_copyWithout 1 = .ok (.aload_n 1, 1) := by decide +kernel
theorem dX0_copyWithout_2 : decode cX0_copyWithout 2 = .ok (.getfield 15, 3) := by decide +kernel
theorem dX0_copyWithout_5 : decode cX0_copyWithout 5 = .ok (.aload_n 2, 1) := by decide +kernel
theorem dX0_copyWithout_6 : decode cX0_copyWithout 6 = .ok (.getfield 15, 3) := by decide +kernel
theorem dX0_copyWithout_9 : decode cX0_copyWithout 9 = .ok (.ldc2_w 22, 3) := by decide +kernel
theorem dX0_copyWithout_12 : decode cX0_copyWithout 12 = .ok (.lxor, 1) := by decide +kernel
theorem dX0_copyWithout_13 : decode cX0_copyWithout 13 = .ok (.land, 1) := by decide +kernel
theorem dX0_copyWithout_14 : decode cX0_copyWithout 14 = .ok (.putfield 15, 3) := by decide +kernel
theorem dX0_copyWithout_17 : decode cX0_copyWithout 17 = .ok (.aload_n 0, 1) := by decide +kernel
theorem dX0_copyWithout_18 : decode cX0_copyWithout 18 = .ok (.aload_n 1, 1) := by decide +kernel
theorem dX0_copyWithout_19 : decode cX0_copyWithout 19 = .ok (.getfield 19, 3) := by decide +kernel
theorem dX0_copyWithout_22 : decode cX0_copyWithout 22 = .ok (.aload_n 2, 1) := by decide +kernel
theorem dX0_copyWithout_23 : decode cX0_copyWithout 23 = .ok (.getfield 19, 3) := by decide +kernel
theorem dX0_copyWithout_26 : decode cX0_copyWithout 26 = .ok (.ldc2_w 22, 3) := by decide +kernel
theorem dX0_copyWithout_29 : decode cX0_copyWithout 29 = .ok (.lxor, 1) := by decide +kernel
theorem dX0_copyWithout_30 : decode cX0_copyWithout 30 = .ok (.land, 1) := by decide +kernel
theorem dX0_copyWithout_31 : decode cX0_copyWithout 31 = .ok (.putfield 19, 3) := by decide +kernel
theorem dX0_copyWithout_34 : decode cX0_copyWithout 34 = .ok (.return_, 1) := by decide +kernel
set_option maxRecDepth 20000 in
theorem ggX0_has_X0_isBelow : GoodIn wsX0_has wsX0_isBelow := goodIn_r _ [6] (by decide +kernel) (by decide +kernel)
set_option maxRecDepth 20000 in
theorem gX0_has_X0_isBelow : GoodIn wsX0_has (va_wsS RX0 24 yX0_isBelow wsX0_isBelow) := goodIn_app (goodIn_of _ (by decide +kernel)) ggX0_has_X0_isBelow
set_option maxRecDepth 20000 in
theorem ggX0_has_X1_lesserEnd : GoodIn wsX0_has wsX1_lesserEnd := goodIn_r _ [10] (by decide +kernel) (by decide +kernel)
set_option maxRecDepth 20000 in
theorem gX0_has_X1_lesserEnd : GoodIn wsX0_has (va_wsS RX0 28 yX1_lesserEnd wsX1_lesserEnd) := goodIn_app (goodIn_of _ (by decide +kernel)) ggX0_has_X1_lesserEnd
set_option maxRecDepth 20000 in
theorem ggX0_has_X5_only : GoodIn wsX0_has wsX5_only := goodIn_r _ [13] (by decide +kernel) (by decide +kernel)
set_option maxRecDepth 20000 in
theorem gX0_has_X5_only_n34 : GoodIn wsX0_has (wsX5_only) := ggX0_has_X5_only
theorem dX0_has_0 : decode cX0_has 0 = .ok (.iload_n 1, 1) := by decide +kernel
theorem dX0_has_1 : decode cX0_has 1 = .ok (.invokestatic 24, 3) := by decide +kernel
theorem dX0_has_4 : decode cX0_has 4 = .ok (.ifCond .eq 10, 3) := by decide +kernel
theorem dX0_has_7 : decode cX0_has 7 = .ok (.aload_n 0, 1) := by decide +kernel
theorem dX0_has_8 : decode cX0_has 8 = .ok (.getfield 19, 3) := by decide +kernel
theorem dX0_has_11 : decode cX0_has 11 = .ok (.goto 7, 3) := by decide +kernel
theorem dX0_has_14 : decode cX0_has 14 = .ok (.aload_n 0, 1) := by decide +kernel
theorem dX0_has_15 : decode cX0_has 15 = .ok (.getfield 15, 3) := by decide +kernel
theorem dX0_has_18 : decode cX0_has 18 = .ok (.iload_n 1, 1) := by decide +kernel
theorem dX0_has_19 : decode cX0_has 19 = .ok (.invokestatic 28, 3) := by decide +kernel
theorem dX0_has_22 : decode cX0_has 22 = .ok (.invokestatic 34, 3) := by decide +kernel
theorem dX0_has_25 : decode cX0_has 25 = .ok (.land, 1) := by decide +kernel
theorem dX0_has_26 : decode cX0_has 26 = .ok (.lconst 0, 1) := by decide +kernel
theorem dX0_has_27 : decode cX0_has 27 = .ok (.lcmp, 1) := by decide +kernel
theorem dX0_has_28 : decode cX0_has 28 = .ok (.ifCond .eq 7, 3) := by decide +kernel
theorem dX0_has_31 : decode cX0_has 31 = .ok (.iconst 1, 1) := by decide +kernel
theorem dX0_has_32 : decode cX0_has 32 = .ok (.goto 4, 3) := by decide +kernel
theorem dX0_has_35 : decode cX0_has 35 = .ok (.iconst 0, 1) := by decide +kernel
theorem dX0_has_36 : decode cX0_has 36 = .ok (.ireturn, 1) := by decide +kernel
set_option maxRecDepth 20000 in
theorem ggX0_add_X0_isBelow : GoodIn wsX0_add wsX0_isBelow := goodIn_r _ [6] (by decide +kernel) (by decide +kernel)
set_option maxRecDepth 20000 in
theorem gX0_add_X0_isBelow : GoodIn wsX0_add (va_wsS RX0 24 yX0_isBelow wsX0_isBelow) := goodIn_app (goodIn_of _ (by decide +kernel)) ggX0_add_X0_isBelow
set_option maxRecDepth 20000 in
theorem ggX0_add_X1_lesserEnd : GoodIn wsX0_add wsX1_lesserEnd := goodIn_r _ [10] (by decide +kernel) (by decide +kernel)
set_option maxRecDepth 20000 in
theorem gX0_add_X1_lesserEnd : GoodIn wsX0_add (va_wsS RX0 28 yX1_lesserEnd wsX1_lesserEnd) := goodIn_app (goodIn_of _ (by decide +kernel)) ggX0_add_X1_lesserEnd
set_option maxRecDepth 20000 in
theorem ggX0_add_X5_only : GoodIn wsX0_add wsX5_only := goodIn_r _ [13] (by decide +kernel) (by decide +kernel)
set_option maxRecDepth 20000 in
theorem gX0_add_X5_only_n34 : GoodIn wsX0_add (wsX5_only) := ggX0_add_X5_only
theorem dX0_add_0 : decode cX0_add 0 = .ok (.iload_n 1, 1) := by decide +kernel
theorem dX0_add_1 : decode cX0_add 1 = .ok (.invokestatic 24, 3) := by decide +kernel
theorem dX0_add_4 : decode cX0_add 4 = .ok (.ifCond .eq 22, 3) := by decide +kernel
theorem dX0_add_7 : decode cX0_add 7 = .ok (.aload_n 0, 1) := by decide +kernel
theorem dX0_add_8 : decode cX0_add 8 = .ok (.dup, 1) := by decide +kernel
theorem dX0_add_9 : decode cX0_add 9 = .ok (.getfield 19, 3) := by decide +kernel
theorem dX0_add_12 : decode cX0_add 12 = .ok (.iload_n 1, 1) := by decide +kernel
theorem dX0_add_13 : decode cX0_add 13 = .ok (.invokestatic 28, 3) := by decide +kernel
theorem dX0_add_16 : decode cX0_add 16 = .ok (.invokestatic 34, 3) := by decide +kernel
theorem dX0_add_19 : decode cX0_add 19 = .ok (.lor, 1) := by decide +kernel
theorem dX0_add_20 : decode cX0_add 20 = .ok (.putfield 19, 3) := by decide +kernel
theorem dX0_add_23 : decode cX0_add 23 = .ok (.goto 19, 3) := by decide +kernel
theorem dX0_add_26 : decode cX0_add 26 = .ok (.aload_n 0, 1) := by decide +kernel
theorem dX0_add_27 : decode cX0_add 27 = .ok (.dup, 1) := by decide +kernel
theorem dX0_add_28 : decode cX0_add 28 = .ok (.getfield 15, 3) := by decide +kernel
theorem dX0_add_31 : decode cX0_add 31 = .ok (.iload_n 1, 1) := by decide +kernel
theorem dX0_add_32 : decode cX0_add 32 = .ok (.invokestatic 28, 3) := by decide +kernel
theorem dX0_add_35 : decode cX0_add 35 = .ok (.invokestatic 34, 3) := by decide +kernel
theorem dX0_add_38 : decode cX0_add 38 = .ok (.lor, 1) := by decide +kernel
theorem dX0_add_39 : decode cX0_add 39 = .ok (.putfield 15, 3) := by decide +kernel
theorem dX0_add_42 : decode cX0_add 42 = .ok (.return_, 1) := by decide +kernel
set_option maxRecDepth 20000 in
theorem ggX0_remove_X0_isBelow : GoodIn wsX0_remove wsX0_isBelow := goodIn_r _ [7] (by decide +kernel) (by decide +kernel)
set_option maxRecDepth 20000 in
theorem gX0_remove_X0_isBelow : GoodIn wsX0_remove (va_wsS RX0 24 yX0_isBelow wsX0_isBelow) := goodIn_app (goodIn_of _ (by decide +kernel)) ggX0_remove_X0_isBelow
set_option maxRecDepth 20000 in
theorem ggX0_remove_X1_lesserEnd : GoodIn wsX0_remove wsX1_lesserEnd := goodIn_r _ [11] (by decide +kernel) (by decide +kernel)
set_option maxRecDepth 20000 in
theorem gX0_remove_X1_lesserEnd : GoodIn wsX0_remove (va_wsS RX0 28 yX1_lesserEnd wsX1_lesserEnd) := goodIn_app (goodIn_of _ (by decide +kernel)) ggX0_remove_X1_lesserEnd
set_option maxRecDepth 20000 in
theorem ggX0_remove_X5_only : GoodIn wsX0_remove wsX5_only := goodIn_r _ [14] (by decide +kernel) (by decide +kernel)
set_option maxRecDepth 20000 in
theorem gX0_remove_X5_only_n34 : GoodIn wsX0_remove (wsX5_only) := ggX0_remove_X5_only
theorem dX0_remove_0 : decode cX0_remove 0 = .ok (.iload_n 1, 1) := by decide +kernel
theorem dX0_remove_1 : decode cX0_remove 1 = .ok (.invokestatic 24, 3) := by decide +kernel
theorem dX0_remove_4 : decode cX0_remove 4 = .ok (.ifCond .eq 26, 3) := by decide +kernel
theorem dX0_remove_7 : decode cX0_remove 7 = .ok (.aload_n 0, 1) := by decide +kernel
theorem dX0_remove_8 : decode cX0_remove 8 = .ok (.dup, 1) := by decide +kernel
theorem dX0_remove_9 : decode cX0_remove 9 = .ok (.getfield 19, 3) := by decide +kernel
theorem dX0_remove_12 : decode cX0_remove 12 = .ok (.iload_n 1, 1) := by decide +kernel
theorem dX0_remove_13 : decode cX0_remove 13 = .ok (.invokestatic 28, 3) := by decide +kernel
theorem dX0_remove_16 : decode cX0_remove 16 = .ok (.invokestatic 34, 3) := by decide +kernel
theorem dX0_remove_19 : decode cX0_remove 19 = .ok (.ldc2_w 22, 3) := by decide +kernel
theorem dX0_remove_22 : decode cX0_remove 22 = .ok (.lxor, 1) := by decide +kernel
theorem dX0_remove_23 : decode cX0_remove 23 = .ok (.land, 1) := by decide +kernel
theorem dX0_remove_24 : decode cX0_remove 24 = .ok (.putfield 19, 3) := by decide +kernel
theorem dX0_remove_27 : decode cX0_remove 27 = .ok (.goto 23, 3) := by decide +kernel
theorem dX0_remove_30 : decode cX0_remove 30 = .ok (.aload_n 0, 1) := by decide +kernel
theorem dX0_remove_31 : decode cX0_remove 31 = .ok (.dup, 1) := by decide +kernel
theorem dX0_remove_32 : decode cX0_remove 32 = .ok (.getfield 15, 3) := by decide +kernel
theorem dX0_remove_35 : decode cX0_remove 35 = .ok (.iload_n 1, 1) := by decide +kernel
theorem dX0_remove_36 : decode cX0_remove 36 = .ok (.invokestatic 28, 3) := by decide +kernel
theorem dX0_remove_39 : decode cX0_remove 39 = .ok (.invokestatic 34, 3) := by decide +kernel
theorem dX0_remove_42 : decode cX0_remove 42 = .ok (.ldc2_w 22, 3) := by decide +kernel
theorem dX0_remove_45 : decode cX0_remove 45 = .ok (.lxor, 1) := by decide +kernel
theorem dX0_remove_46 : decode cX0_remove 46 = .ok (.land, 1) := by decide +kernel
theorem dX0_remove_47 : decode cX0_remove 47 = .ok (.putfield 15, 3) := by decide +kernel
theorem dX0_remove_50 : decode cX0_remove 50 = .ok (.return_, 1) := by decide +kernel
set_option maxRecDepth 20000 in
theorem ggX0_countAt_X5_only : GoodIn wsX0_countAt wsX5_only := goodIn_r _ [5] (by decide +kernel) (by decide +kernel)
set_option maxRecDepth 20000 in
theorem gX0_countAt_X5_only_n34 : GoodIn wsX0_countAt (wsX5_only) := ggX0_countAt_X5_only
set_option maxRecDepth 20000 in
theorem ggX0_countAt_J13_bitCount_95d88 : GoodIn wsX0_countAt wsJ13_bitCount_95d88 := goodIn_r _ [9, 10, 11, 12] (by decide +kernel) (by decide +kernel)
set_option maxRecDepth 20000 in
theorem gX0_countAt_J13_bitCount_95d88 : GoodIn wsX0_countAt (va_wsS RX0 38 yJ13_bitCount_95d88 wsJ13_bitCount_95d88) := goodIn_app (goodIn_of _ (by decide +kernel)) ggX0_countAt_J13_bitCount_95d88
set_option maxRecDepth 20000 in
theorem ggX0_countAt_X0_left : GoodIn wsX0_countAt wsX0_left := goodIn_r _ [17, 1, 23, 24, 25] (by decide +kernel) (by decide +kernel)
set_option maxRecDepth 20000 in
theorem gX0_countAt_X0_left : GoodIn wsX0_countAt (wsV RX0 44 RX0 yX0_left wsX0_left) := goodIn_app (goodIn_of _ (by decide +kernel)) ggX0_countAt_X0_left
set_option maxRecDepth 20000 in
theorem ggX0_countAt_X0_above : GoodIn wsX0_countAt wsX0_above := goodIn_r _ [21, 2, 22, 23, 24, 25] (by decide +kernel) (by decide +kernel)
set_option maxRecDepth 20000 in
theorem gX0_countAt_X0_above : GoodIn wsX0_countAt (wsV RX0 48 RX0 yX0_above wsX0_above) := goodIn_app (goodIn_of _ (by decide +kernel)) ggX0_countAt_X0_above
theorem dX0_countAt_0 : decode cX0_countAt 0 = .ok (.iload_n 1, 1) := by decide +kernel
theorem dX0_countAt_1 : decode cX0_countAt 1 = .ok (.invokestatic 34, 3) := by decide +kernel
theorem dX0_countAt_4 : decode cX0_countAt 4 = .ok (.lstore_n 2, 1) := by decide +kernel
theorem dX0_countAt_5 : decode cX0_countAt 5 = .ok (.aload_n 0, 1) := by decide +kernel
theorem dX0_countAt_6 : decode cX0_countAt 6 = .ok (.getfield 15, 3) := by decide +kernel
theorem dX0_countAt_9 : decode cX0_countAt 9 = .ok (.lload_n 2, 1) := by decide +kernel
theorem dX0_countAt_10 : decode cX0_countAt 10 = .ok (.land, 1) := by decide +kernel
theorem dX0_countAt_11 : decode cX0_countAt 11 = .ok (.invokestatic 38, 3) := by decide +kernel
theorem dX0_countAt_14 : decode cX0_countAt 14 = .ok (.aload_n 0, 1) := by decide +kernel
theorem dX0_countAt_15 : decode cX0_countAt 15 = .ok (.invokevirtual 44, 3) := by decide +kernel
theorem dX0_countAt_18 : decode cX0_countAt 18 = .ok (.lload_n 2, 1) := by decide +kernel
theorem dX0_countAt_19 : decode cX0_countAt 19 = .ok (.land, 1) := by decide +kernel
theorem dX0_countAt_20 : decode cX0_countAt 20 = .ok (.invokestatic 38, 3) := by decide +kernel
theorem dX0_countAt_23 : decode cX0_countAt 23 = .ok (.iadd, 1) := by decide +kernel
theorem dX0_countAt_24 : decode cX0_countAt 24 = .ok (.aload_n 0, 1) := by decide +kernel
theorem dX0_countAt_25 : decode cX0_countAt 25 = .ok (.getfield 19, 3) := by decide +kernel
theorem dX0_countAt_28 : decode cX0_countAt 28 = .ok (.lload_n 2, 1) := by decide +kernel
theorem dX0_countAt_29 : decode cX0_countAt 29 = .ok (.land, 1) := by decide +kernel
theorem dX0_countAt_30 : decode cX0_countAt 30 = .ok (.invokestatic 38, 3) := by decide +kernel
theorem dX0_countAt_33 : decode cX0_countAt 33 = .ok (.iadd, 1) := by decide +kernel
theorem dX0_countAt_34 : decode cX0_countAt 34 = .ok (.aload_n 0, 1) := by decide +kernel
theorem dX0_countAt_35 : decode cX0_countAt 35 = .ok (.invokevirtual 48, 3) := by decide +kernel
theorem dX0_countAt_38 : decode cX0_countAt 38 = .ok (.lload_n 2, 1) := by decide +kernel
theorem dX0_countAt_39 : decode cX0_countAt 39 = .ok (.land, 1) := by decide +kernel
theorem dX0_countAt_40 : decode cX0_countAt 40 = .ok (.invokestatic 38, 3) := by decide +kernel
theorem dX0_countAt_43 : decode cX0_countAt 43 = .ok (.iadd, 1) := by decide +kernel
theorem dX0_countAt_44 : decode cX0_countAt 44 = .ok (.ireturn, 1) := by decide +kernel
set_option maxRecDepth 20000 in
theorem ggX0_cellsWithOne_X0_left : GoodIn wsX0_cellsWithOne wsX0_left := goodIn_r _ [7, 1, 13, 14, 15] (by decide +kernel) (by decide +kernel)
set_option maxRecDepth 20000 in
theorem gX0_cellsWithOne_X0_left : GoodIn wsX0_cellsWithOne (wsV RX0 44 RX0 yX0_left wsX0_left) := goodIn_app (goodIn_of _ (by decide +kernel)) ggX0_cellsWithOne_X0_left
set_option maxRecDepth 20000 in
theorem ggX0_cellsWithOne_X0_above : GoodIn wsX0_cellsWithOne wsX0_above := goodIn_r _ [11, 2, 12, 13, 14, 15] (by decide +kernel) (by decide +kernel)
set_option maxRecDepth 20000 in
theorem gX0_cellsWithOne_X0_above : GoodIn wsX0_cellsWithOne (wsV RX0 48 RX0 yX0_above wsX0_above) := goodIn_app (goodIn_of _ (by decide +kernel)) ggX0_cellsWithOne_X0_above
theorem dX0_cellsWithOne_0 : decode cX0_cellsWithOne 0 = .ok (.aload_n 0, 1) := by decide +kernel
theorem dX0_cellsWithOne_1 : decode cX0_cellsWithOne 1 = .ok (.getfield 15, 3) := by decide +kernel
theorem dX0_cellsWithOne_4 : decode cX0_cellsWithOne 4 = .ok (.aload_n 0, 1) := by decide +kernel
theorem dX0_cellsWithOne_5 : decode cX0_cellsWithOne 5 = .ok (.invokevirtual 44, 3) := by decide +kernel
theorem dX0_cellsWithOne_8 : decode cX0_cellsWithOne 8 = .ok (.lor, 1) := by decide +kernel
theorem dX0_cellsWithOne_9 : decode cX0_cellsWithOne 9 = .ok (.aload_n 0, 1) := by decide +kernel
theorem dX0_cellsWithOne_10 : decode cX0_cellsWithOne 10 = .ok (.getfield 19, 3) := by decide +kernel
theorem dX0_cellsWithOne_13 : decode cX0_cellsWithOne 13 = .ok (.lor, 1) := by decide +kernel
theorem dX0_cellsWithOne_14 : decode cX0_cellsWithOne 14 = .ok (.aload_n 0, 1) := by decide +kernel
theorem dX0_cellsWithOne_15 : decode cX0_cellsWithOne 15 = .ok (.invokevirtual 48, 3) := by decide +kernel
theorem dX0_cellsWithOne_18 : decode cX0_cellsWithOne 18 = .ok (.lor, 1) := by decide +kernel
theorem dX0_cellsWithOne_19 : decode cX0_cellsWithOne 19 = .ok (.lreturn, 1) := by decide +kernel
set_option maxRecDepth 20000 in
theorem ggX0_cellsWithTwo_X0_left : GoodIn wsX0_cellsWithTwo wsX0_left := goodIn_r _ [7, 1, 13, 14, 15] (by decide +kernel) (by decide +kernel)
set_option maxRecDepth 20000 in
theorem gX0_cellsWithTwo_X0_left : GoodIn wsX0_cellsWithTwo (wsV RX0 44 RX0 yX0_left wsX0_left) := goodIn_app (goodIn_of _ (by decide +kernel)) ggX0_cellsWithTwo_X0_left
set_option maxRecDepth 20000 in
theorem ggX0_cellsWithTwo_X0_above : GoodIn wsX0_cellsWithTwo wsX0_above := goodIn_r _ [11, 2, 12, 13, 14, 15] (by decide +kernel) (by decide +kernel)
set_option maxRecDepth 20000 in
theorem gX0_cellsWithTwo_X0_above : GoodIn wsX0_cellsWithTwo (wsV RX0 48 RX0 yX0_above wsX0_above) := goodIn_app (goodIn_of _ (by decide +kernel)) ggX0_cellsWithTwo_X0_above
theorem dX0_cellsWithTwo_0 : decode cX0_cellsWithTwo 0 = .ok (.aload_n 0, 1) := by decide +kernel
theorem dX0_cellsWithTwo_1 : decode cX0_cellsWithTwo 1 = .ok (.getfield 15, 3) := by decide +kernel
theorem dX0_cellsWithTwo_4 : decode cX0_cellsWithTwo 4 = .ok (.aload_n 0, 1) := by decide +kernel
theorem dX0_cellsWithTwo_5 : decode cX0_cellsWithTwo 5 = .ok (.invokevirtual 44, 3) := by decide +kernel
theorem dX0_cellsWithTwo_8 : decode cX0_cellsWithTwo 8 = .ok (.land, 1) := by decide +kernel
theorem dX0_cellsWithTwo_9 : decode cX0_cellsWithTwo 9 = .ok (.aload_n 0, 1) := by decide +kernel
theorem dX0_cellsWithTwo_10 : decode cX0_cellsWithTwo 10 = .ok (.getfield 19, 3) := by decide +kernel
theorem dX0_cellsWithTwo_13 : decode cX0_cellsWithTwo 13 = .ok (.aload_n 0, 1) := by decide +kernel
theorem dX0_cellsWithTwo_14 : decode cX0_cellsWithTwo 14 = .ok (.invokevirtual 48, 3) := by decide +kernel
theorem dX0_cellsWithTwo_17 : decode cX0_cellsWithTwo 17 = .ok (.land, 1) := by decide +kernel
theorem dX0_cellsWithTwo_18 : decode cX0_cellsWithTwo 18 = .ok (.lor, 1) := by decide +kernel
theorem dX0_cellsWithTwo_19 : decode cX0_cellsWithTwo 19 = .ok (.aload_n 0, 1) := by decide +kernel
theorem dX0_cellsWithTwo_20 : decode cX0_cellsWithTwo 20 = .ok (.getfield 15, 3) := by decide +kernel
theorem dX0_cellsWithTwo_23 : decode cX0_cellsWithTwo 23 = .ok (.aload_n 0, 1) := by decide +kernel
theorem dX0_cellsWithTwo_24 : decode cX0_cellsWithTwo 24 = .ok (.invokevirtual 44, 3) := by decide +kernel
theorem dX0_cellsWithTwo_27 : decode cX0_cellsWithTwo 27 = .ok (.lor, 1) := by decide +kernel
theorem dX0_cellsWithTwo_28 : decode cX0_cellsWithTwo 28 = .ok (.aload_n 0, 1) := by decide +kernel
theorem dX0_cellsWithTwo_29 : decode cX0_cellsWithTwo 29 = .ok (.getfield 19, 3) := by decide +kernel
theorem dX0_cellsWithTwo_32 : decode cX0_cellsWithTwo 32 = .ok (.aload_n 0, 1) := by decide +kernel
theorem dX0_cellsWithTwo_33 : decode cX0_cellsWithTwo 33 = .ok (.invokevirtual 48, 3) := by decide +kernel
theorem dX0_cellsWithTwo_36 : decode cX0_cellsWithTwo 36 = .ok (.lor, 1) := by decide +kernel
theorem dX0_cellsWithTwo_37 : decode cX0_cellsWithTwo 37 = .ok (.land, 1) := by decide +kernel
theorem dX0_cellsWithTwo_38 : decode cX0_cellsWithTwo 38 = .ok (.lor, 1) := by decide +kernel
theorem dX0_cellsWithTwo_39 : decode cX0_cellsWithTwo 39 = .ok (.lreturn, 1) := by decide +kernel
set_option maxRecDepth 20000 in
theorem ggX0_cellsWithThree_X0_left : GoodIn wsX0_cellsWithThree wsX0_left := goodIn_r _ [7, 1, 13, 14, 15] (by decide +kernel) (by decide +kernel)
set_option maxRecDepth 20000 in
theorem gX0_cellsWithThree_X0_left : GoodIn wsX0_cellsWithThree (wsV RX0 44 RX0 yX0_left wsX0_left) := goodIn_app (goodIn_of _ (by decide +kernel)) ggX0_cellsWithThree_X0_left
set_option maxRecDepth 20000 in
theorem ggX0_cellsWithThree_X0_above : GoodIn wsX0_cellsWithThree wsX0_above := goodIn_r _ [11, 2, 12, 13, 14, 15] (by decide +kernel) (by decide +kernel)
set_option maxRecDepth 20000 in
theorem gX0_cellsWithThree_X0_above : GoodIn wsX0_cellsWithThree (wsV RX0 48 RX0 yX0_above wsX0_above) := goodIn_app (goodIn_of _ (by decide +kernel)) ggX0_cellsWithThree_X0_above
theorem dX0_cellsWithThree_0 : decode cX0_cellsWithThree 0 = .ok (.aload_n 0, 1) := by decide +kernel
theorem dX0_cellsWithThree_1 : decode cX0_cellsWithThree 1 = .ok (.getfield 15, 3) := by decide +kernel
theorem dX0_cellsWithThree_4 : decode cX0_cellsWithThree 4 = .ok (.aload_n 0, 1) := by decide +kernel
theorem dX0_cellsWithThree_5 : decode cX0_cellsWithThree 5 = .ok (.invokevirtual 44, 3) := by decide +kernel
theorem dX0_cellsWithThree_8 : decode cX0_cellsWithThree 8 = .ok (.land, 1) := by decide +kernel
theorem dX0_cellsWithThree_9 : decode cX0_cellsWithThree 9 = .ok (.aload_n 0, 1) := by decide +kernel
theorem dX0_cellsWithThree_10 : decode cX0_cellsWithThree 10 = .ok (.getfield 19, 3) := by decide +kernel
theorem dX0_cellsWithThree_13 : decode cX0_cellsWithThree 13 = .ok (.aload_n 0, 1) := by decide +kernel
theorem dX0_cellsWithThree_14 : decode cX0_cellsWithThree 14 = .ok (.invokevirtual 48, 3) := by decide +kernel
theorem dX0_cellsWithThree_17 : decode cX0_cellsWithThree 17 = .ok (.lor, 1) := by decide +kernel
theorem dX0_cellsWithThree_18 : decode cX0_cellsWithThree 18 = .ok (.land, 1) := by decide +kernel
theorem dX0_cellsWithThree_19 : decode cX0_cellsWithThree 19 = .ok (.aload_n 0, 1) := by decide +kernel
theorem dX0_cellsWithThree_20 : decode cX0_cellsWithThree 20 = .ok (.getfield 19, 3) := by decide +kernel
theorem dX0_cellsWithThree_23 : decode cX0_cellsWithThree 23 = .ok (.aload_n 0, 1) := by decide +kernel
theorem dX0_cellsWithThree_24 : decode cX0_cellsWithThree 24 = .ok (.invokevirtual 48, 3) := by decide +kernel
theorem dX0_cellsWithThree_27 : decode cX0_cellsWithThree 27 = .ok (.land, 1) := by decide +kernel
theorem dX0_cellsWithThree_28 : decode cX0_cellsWithThree 28 = .ok (.aload_n 0, 1) := by decide +kernel
theorem dX0_cellsWithThree_29 : decode cX0_cellsWithThree 29 = .ok (.getfield 15, 3) := by decide +kernel
theorem dX0_cellsWithThree_32 : decode cX0_cellsWithThree 32 = .ok (.aload_n 0, 1) := by decide +kernel
theorem dX0_cellsWithThree_33 : decode cX0_cellsWithThree 33 = .ok (.invokevirtual 44, 3) := by decide +kernel
theorem dX0_cellsWithThree_36 : decode cX0_cellsWithThree 36 = .ok (.lor, 1) := by decide +kernel
theorem dX0_cellsWithThree_37 : decode cX0_cellsWithThree 37 = .ok (.land, 1) := by decide +kernel
theorem dX0_cellsWithThree_38 : decode cX0_cellsWithThree 38 = .ok (.lor, 1) := by decide +kernel
theorem dX0_cellsWithThree_39 : decode cX0_cellsWithThree 39 = .ok (.lreturn, 1) := by decide +kernel
set_option maxRecDepth 20000 in
theorem ggX0_reach_X0_spread : GoodIn wsX0_reach wsX0_spread := goodIn_r _ [5, 6, 7, 8, 9, 10, 11] (by decide +kernel) (by decide +kernel)
set_option maxRecDepth 20000 in
theorem gX0_reach_X0_spread : GoodIn wsX0_reach (wsV RX0 51 RX0 yX0_spread wsX0_spread) := goodIn_app (goodIn_of _ (by decide +kernel)) ggX0_reach_X0_spread
theorem dX0_reach_0 : decode cX0_reach 0 = .ok (.lload_n 1, 1) := by decide +kernel
theorem dX0_reach_1 : decode cX0_reach 1 = .ok (.lstore_n 3, 1) := by decide +kernel
theorem dX0_reach_2 : decode cX0_reach 2 = .ok (.iconst 0, 1) := by decide +kernel
theorem dX0_reach_3 : decode cX0_reach 3 = .ok (.istore 5, 2) := by decide +kernel
theorem dX0_reach_5 : decode cX0_reach 5 = .ok (.iload 5, 2) := by decide +kernel
theorem dX0_reach_7 : decode cX0_reach 7 = .ok (.bipush 64, 2) := by decide +kernel
theorem dX0_reach_9 : decode cX0_reach 9 = .ok (.if_icmp .ge 28, 3) := by decide +kernel
theorem dX0_reach_12 : decode cX0_reach 12 = .ok (.aload_n 0, 1) := by decide +kernel
theorem dX0_reach_13 : decode cX0_reach 13 = .ok (.lload_n 3, 1) := by decide +kernel
theorem dX0_reach_14 : decode cX0_reach 14 = .ok (.invokevirtual 51, 3) := by decide +kernel
theorem dX0_reach_17 : decode cX0_reach 17 = .ok (.lstore 6, 2) := by decide +kernel
theorem dX0_reach_19 : decode cX0_reach 19 = .ok (.lload 6, 2) := by decide +kernel
theorem dX0_reach_21 : decode cX0_reach 21 = .ok (.lload_n 3, 1) := by decide +kernel
theorem dX0_reach_22 : decode cX0_reach 22 = .ok (.lcmp, 1) := by decide +kernel
theorem dX0_reach_23 : decode cX0_reach 23 = .ok (.ifCond .ne 5, 3) := by decide +kernel
theorem dX0_reach_26 : decode cX0_reach 26 = .ok (.lload_n 3, 1) := by decide +kernel
theorem dX0_reach_27 : decode cX0_reach 27 = .ok (.lreturn, 1) := by decide +kernel
theorem dX0_reach_28 : decode cX0_reach 28 = .ok (.lload 6, 2) := by decide +kernel
theorem dX0_reach_30 : decode cX0_reach 30 = .ok (.lstore_n 3, 1) := by decide +kernel
theorem dX0_reach_31 : decode cX0_reach 31 = .ok (.iinc 5 1, 3) := by decide +kernel
theorem dX0_reach_34 : decode cX0_reach 34 = .ok (.goto (-29), 3) := by decide +kernel
theorem dX0_reach_37 : decode cX0_reach 37 = .ok (.lload_n 3, 1) := by decide +kernel
theorem dX0_reach_38 : decode cX0_reach 38 = .ok (.lreturn, 1) := by decide +kernel
set_option maxRecDepth 20000 in
theorem ggX0_joins_X5_only : GoodIn wsX0_joins wsX5_only := goodIn_r _ [3] (by decide +kernel) (by decide +kernel)
set_option maxRecDepth 20000 in
theorem gX0_joins_X5_only_n34 : GoodIn wsX0_joins (wsX5_only) := ggX0_joins_X5_only
set_option maxRecDepth 20000 in
theorem ggX0_joins_X5_holds : GoodIn wsX0_joins wsX5_holds := goodIn_r _ [5, 6, 1, 2, 3] (by decide +kernel) (by decide +kernel)
set_option maxRecDepth 20000 in
theorem gX0_joins_X5_holds_n55 : GoodIn wsX0_joins (wsX5_holds) := ggX0_joins_X5_holds
set_option maxRecDepth 20000 in
theorem ggX0_joins_X0_spread : GoodIn wsX0_joins wsX0_spread := goodIn_r _ [11, 12, 13, 14, 15, 16, 17] (by decide +kernel) (by decide +kernel)
set_option maxRecDepth 20000 in
theorem gX0_joins_X0_spread : GoodIn wsX0_joins (wsV RX0 51 RX0 yX0_spread wsX0_spread) := goodIn_app (goodIn_of _ (by decide +kernel)) ggX0_joins_X0_spread
theorem dX0_joins_0 : decode cX0_joins 0 = .ok (.iload_n 1, 1) := by decide +kernel
theorem dX0_joins_1 : decode cX0_joins 1 = .ok (.invokestatic 34, 3) := by decide +kernel
theorem dX0_joins_4 : decode cX0_joins 4 = .ok (.lstore_n 3, 1) := by decide +kernel
theorem dX0_joins_5 : decode cX0_joins 5 = .ok (.iconst 0, 1) := by decide +kernel
theorem dX0_joins_6 : decode cX0_joins 6 = .ok (.istore 5, 2) := by decide +kernel
theorem dX0_joins_8 : decode cX0_joins 8 = .ok (.iload 5, 2) := by decide +kernel
theorem dX0_joins_10 : decode cX0_joins 10 = .ok (.bipush 64, 2) := by decide +kernel
theorem dX0_joins_12 : decode cX0_joins 12 = .ok (.if_icmp .ge 36, 3) := by decide +kernel
theorem dX0_joins_15 : decode cX0_joins 15 = .ok (.lload_n 3, 1) := by decide +kernel
theorem dX0_joins_16 : decode cX0_joins 16 = .ok (.iload_n 2, 1) := by decide +kernel
theorem dX0_joins_17 : decode cX0_joins 17 = .ok (.invokestatic 55, 3) := by decide +kernel
theorem dX0_joins_20 : decode cX0_joins 20 = .ok (.ifCond .ne 28, 3) := by decide +kernel
theorem dX0_joins_23 : decode cX0_joins 23 = .ok (.aload_n 0, 1) := by decide +kernel
theorem dX0_joins_24 : decode cX0_joins 24 = .ok (.lload_n 3, 1) := by decide +kernel
theorem dX0_joins_25 : decode cX0_joins 25 = .ok (.invokevirtual 51, 3) := by decide +kernel
theorem dX0_joins_28 : decode cX0_joins 28 = .ok (.lstore 6, 2) := by decide +kernel
theorem dX0_joins_30 : decode cX0_joins 30 = .ok (.lload 6, 2) := by decide +kernel
theorem dX0_joins_32 : decode cX0_joins 32 = .ok (.lload_n 3, 1) := by decide +kernel
theorem dX0_joins_33 : decode cX0_joins 33 = .ok (.lcmp, 1) := by decide +kernel
theorem dX0_joins_34 : decode cX0_joins 34 = .ok (.ifCond .ne 5, 3) := by decide +kernel
theorem dX0_joins_37 : decode cX0_joins 37 = .ok (.iconst 0, 1) := by decide +kernel
theorem dX0_joins_38 : decode cX0_joins 38 = .ok (.ireturn, 1) := by decide +kernel
theorem dX0_joins_39 : decode cX0_joins 39 = .ok (.lload 6, 2) := by decide +kernel
theorem dX0_joins_41 : decode cX0_joins 41 = .ok (.lstore_n 3, 1) := by decide +kernel
theorem dX0_joins_42 : decode cX0_joins 42 = .ok (.iinc 5 1, 3) := by decide +kernel
theorem dX0_joins_45 : decode cX0_joins 45 = .ok (.goto (-37), 3) := by decide +kernel
theorem dX0_joins_48 : decode cX0_joins 48 = .ok (.lload_n 3, 1) := by decide +kernel
theorem dX0_joins_49 : decode cX0_joins 49 = .ok (.iload_n 2, 1) := by decide +kernel
theorem dX0_joins_50 : decode cX0_joins 50 = .ok (.invokestatic 55, 3) := by decide +kernel
theorem dX0_joins_53 : decode cX0_joins 53 = .ok (.ireturn, 1) := by decide +kernel
theorem dX0_spread_0 : decode cX0_spread 0 = .ok (.lload_n 1, 1) := by decide +kernel
theorem dX0_spread_1 : decode cX0_spread 1 = .ok (.lload_n 1, 1) := by decide +kernel
theorem dX0_spread_2 : decode cX0_spread 2 = .ok (.aload_n 0, 1) := by decide +kernel
theorem dX0_spread_3 : decode cX0_spread 3 = .ok (.getfield 15, 3) := by decide +kernel
theorem dX0_spread_6 : decode cX0_spread 6 = .ok (.land, 1) := by decide +kernel
theorem dX0_spread_7 : decode cX0_spread 7 = .ok (.iconst 1, 1) := by decide +kernel
theorem dX0_spread_8 : decode cX0_spread 8 = .ok (.lshl, 1) := by decide +kernel
theorem dX0_spread_9 : decode cX0_spread 9 = .ok (.lor, 1) := by decide +kernel
theorem dX0_spread_10 : decode cX0_spread 10 = .ok (.lload_n 1, 1) := by decide +kernel
theorem dX0_spread_11 : decode cX0_spread 11 = .ok (.iconst 1, 1) := by decide +kernel
theorem dX0_spread_12 : decode cX0_spread 12 = .ok (.lushr, 1) := by decide +kernel
theorem dX0_spread_13 : decode cX0_spread 13 = .ok (.aload_n 0, 1) := by decide +kernel
theorem dX0_spread_14 : decode cX0_spread 14 = .ok (.getfield 15, 3) := by decide +kernel
theorem dX0_spread_17 : decode cX0_spread 17 = .ok (.land, 1) := by decide +kernel
theorem dX0_spread_18 : decode cX0_spread 18 = .ok (.lor, 1) := by decide +kernel
theorem dX0_spread_19 : decode cX0_spread 19 = .ok (.lload_n 1, 1) := by decide +kernel
theorem dX0_spread_20 : decode cX0_spread 20 = .ok (.aload_n 0, 1) := by decide +kernel
theorem dX0_spread_21 : decode cX0_spread 21 = .ok (.getfield 19, 3) := by decide +kernel
theorem dX0_spread_24 : decode cX0_spread 24 = .ok (.land, 1) := by decide +kernel
theorem dX0_spread_25 : decode cX0_spread 25 = .ok (.aload_n 0, 1) := by decide +kernel
theorem dX0_spread_26 : decode cX0_spread 26 = .ok (.getfield 9, 3) := by decide +kernel
theorem dX0_spread_29 : decode cX0_spread 29 = .ok (.lshl, 1) := by decide +kernel
theorem dX0_spread_30 : decode cX0_spread 30 = .ok (.lor, 1) := by decide +kernel
theorem dX0_spread_31 : decode cX0_spread 31 = .ok (.lload_n 1, 1) := by decide +kernel
theorem dX0_spread_32 : decode cX0_spread 32 = .ok (.aload_n 0, 1) := by decide +kernel
theorem dX0_spread_33 : decode cX0_spread 33 = .ok (.getfield 9, 3) := by decide +kernel
theorem dX0_spread_36 : decode cX0_spread 36 = .ok (.lushr, 1) := by decide +kernel
theorem dX0_spread_37 : decode cX0_spread 37 = .ok (.aload_n 0, 1) := by decide +kernel
theorem dX0_spread_38 : decode cX0_spread 38 = .ok (.getfield 19, 3) := by decide +kernel
theorem dX0_spread_41 : decode cX0_spread 41 = .ok (.land, 1) := by decide +kernel
theorem dX0_spread_42 : decode cX0_spread 42 = .ok (.lor, 1) := by decide +kernel
theorem dX0_spread_43 : decode cX0_spread 43 = .ok (.lreturn, 1) := by decide +kernel
theorem dX0_left_0 : decode cX0_left 0 = .ok (.aload_n 0, 1) := by decide +kernel
theorem dX0_left_1 : decode cX0_left 1 = .ok (.getfield 15, 3) := by decide +kernel
theorem dX0_left_4 : decode cX0_left 4 = .ok (.iconst 1, 1) := by decide +kernel
theorem dX0_left_5 : decode cX0_left 5 = .ok (.lshl, 1) := by decide +kernel
theorem dX0_left_6 : decode cX0_left 6 = .ok (.lreturn, 1) := by decide +kernel
theorem dX0_above_0 : decode cX0_above 0 = .ok (.aload_n 0, 1) := by decide +kernel
theorem dX0_above_1 : decode cX0_above 1 = .ok (.getfield 19, 3) := by decide +kernel
theorem dX0_above_4 : decode cX0_above 4 = .ok (.aload_n 0, 1) := by decide +kernel
theorem dX0_above_5 : decode cX0_above 5 = .ok (.getfield 9, 3) := by decide +kernel
theorem dX0_above_8 : decode cX0_above 8 = .ok (.lshl, 1) := by decide +kernel
theorem dX0_above_9 : decode cX0_above 9 = .ok (.lreturn, 1) := by decide +kernel
theorem dX0_isBelow_0 : decode cX0_isBelow 0 = .ok (.iload_n 0, 1) := by decide +kernel
theorem dX0_isBelow_1 : decode cX0_isBelow 1 = .ok (.iconst 1, 1) := by decide +kernel
theorem dX0_isBelow_2 : decode cX0_isBelow 2 = .ok (.iand, 1) := by decide +kernel
theorem dX0_isBelow_3 : decode cX0_isBelow 3 = .ok (.ifCond .eq 7, 3) := by decide +kernel
theorem dX0_isBelow_6 : decode cX0_isBelow 6 = .ok (.iconst 1, 1) := by decide +kernel
theorem dX0_isBelow_7 : decode cX0_isBelow 7 = .ok (.goto 4, 3) := by decide +kernel
theorem dX0_isBelow_10 : decode cX0_isBelow 10 = .ok (.iconst 0, 1) := by decide +kernel
theorem dX0_isBelow_11 : decode cX0_isBelow 11 = .ok (.ireturn, 1) := by decide +kernel
set_option maxRecDepth 20000 in
theorem ggX1_init_X0_init : GoodIn wsX1_init wsX0_init := goodIn_r _ [19, 20, 2, 3, 21, 37, 38, 39] (by decide +kernel) (by decide +kernel)
set_option maxRecDepth 20000 in
theorem gX1_init_X0_init : GoodIn wsX1_init (wsX0_init) := ggX1_init_X0_init
set_option maxRecDepth 20000 in
theorem ggX1_init_X5_only : GoodIn wsX1_init wsX5_only := goodIn_r _ [24] (by decide +kernel) (by decide +kernel)
set_option maxRecDepth 20000 in
theorem gX1_init_X5_only_n36 : GoodIn wsX1_init (wsX5_only) := ggX1_init_X5_only
set_option maxRecDepth 20000 in
theorem ggX1_init_X1_column : GoodIn wsX1_init wsX1_column := goodIn_r _ [29, 5, 4, 22, 23, 24, 30, 31, 32, 33, 34, 35, 36] (by decide +kernel) (by decide +kernel)
set_option maxRecDepth 20000 in
theorem gX1_init_X1_column : GoodIn wsX1_init (wsV RX1 47 RX1 yX1_column wsX1_column) := goodIn_app (goodIn_of _ (by decide +kernel)) ggX1_init_X1_column
theorem dX1_init_0 : decode cX1_init 0 = .ok (.aload_n 0, 1) := by decide +kernel
theorem dX1_init_1 : decode cX1_init 1 = .ok (.invokespecial 3, 3) := by decide +kernel
theorem dX1_init_4 : decode cX1_init 4 = .ok (.aload_n 0, 1) := by decide +kernel
theorem dX1_init_5 : decode cX1_init 5 = .ok (.iload_n 1, 1) := by decide +kernel
theorem dX1_init_6 : decode cX1_init 6 = .ok (.putfield 9, 3) := by decide +kernel
theorem dX1_init_9 : decode cX1_init 9 = .ok (.aload_n 0, 1) := by decide +kernel
theorem dX1_init_10 : decode cX1_init 10 = .ok (.iload_n 2, 1) := by decide +kernel
theorem dX1_init_11 : decode cX1_init 11 = .ok (.putfield 15, 3) := by decide +kernel
theorem dX1_init_14 : decode cX1_init 14 = .ok (.aload_n 0, 1) := by decide +kernel
theorem dX1_init_15 : decode cX1_init 15 = .ok (.iload_n 1, 1) := by decide +kernel
theorem dX1_init_16 : decode cX1_init 16 = .ok (.iload_n 2, 1) := by decide +kernel
theorem dX1_init_17 : decode cX1_init 17 = .ok (.imul, 1) := by decide +kernel
theorem dX1_init_18 : decode cX1_init 18 = .ok (.putfield 18, 3) := by decide +kernel
theorem dX1_init_21 : decode cX1_init 21 = .ok (.aload_n 0, 1) := by decide +kernel
theorem dX1_init_22 : decode cX1_init 22 = .ok (.iload_n 1, 1) := by decide +kernel
theorem dX1_init_23 : decode cX1_init 23 = .ok (.iconst 1, 1) := by decide +kernel
theorem dX1_init_24 : decode cX1_init 24 = .ok (.isub, 1) := by decide +kernel
theorem dX1_init_25 : decode cX1_init 25 = .ok (.iload_n 2, 1) := by decide +kernel
theorem dX1_init_26 : decode cX1_init 26 = .ok (.imul, 1) := by decide +kernel
theorem dX1_init_27 : decode cX1_init 27 = .ok (.iload_n 1, 1) := by decide +kernel
theorem dX1_init_28 : decode cX1_init 28 = .ok (.iload_n 2, 1) := by decide +kernel
theorem dX1_init_29 : decode cX1_init 29 = .ok (.iconst 1, 1) := by decide +kernel
theorem dX1_init_30 : decode cX1_init 30 = .ok (.isub, 1) := by decide +kernel
theorem dX1_init_31 : decode cX1_init 31 = .ok (.imul, 1) := by decide +kernel
theorem dX1_init_32 : decode cX1_init 32 = .ok (.iadd, 1) := by decide +kernel
theorem dX1_init_33 : decode cX1_init 33 = .ok (.putfield 21, 3) := by decide +kernel
theorem dX1_init_36 : decode cX1_init 36 = .ok (.aload_n 0, 1) := by decide +kernel
theorem dX1_init_37 : decode cX1_init 37 = .ok (.iconst 2, 1) := by decide +kernel
theorem dX1_init_38 : decode cX1_init 38 = .ok (.aload_n 0, 1) := by decide +kernel
theorem dX1_init_39 : decode cX1_init 39 = .ok (.getfield 18, 3) := by decide +kernel
theorem dX1_init_42 : decode cX1_init 42 = .ok (.imul, 1) := by decide +kernel
theorem dX1_init_43 : decode cX1_init 43 = .ok (.putfield 24, 3) := by decide +kernel
theorem dX1_init_46 : decode cX1_init 46 = .ok (.aload_n 0, 1) := by decide +kernel
theorem dX1_init_47 : decode cX1_init 47 = .ok (.new 27, 3) := by decide +kernel
theorem dX1_init_50 : decode cX1_init 50 = .ok (.dup, 1) := by decide +kernel
theorem dX1_init_51 : decode cX1_init 51 = .ok (.iload_n 1, 1) := by decide +kernel
theorem dX1_init_52 : decode cX1_init 52 = .ok (.invokespecial 29, 3) := by decide +kernel
theorem dX1_init_55 : decode cX1_init 55 = .ok (.putfield 32, 3) := by decide +kernel
theorem dX1_init_58 : decode cX1_init 58 = .ok (.lconst 0, 1) := by decide +kernel
theorem dX1_init_59 : decode cX1_init 59 = .ok (.lstore_n 3, 1) := by decide +kernel
theorem dX1_init_60 : decode cX1_init 60 = .ok (.iconst 0, 1) := by decide +kernel
theorem dX1_init_61 : decode cX1_init 61 = .ok (.istore 5, 2) := by decide +kernel
theorem dX1_init_63 : decode cX1_init 63 = .ok (.iload 5, 2) := by decide +kernel
theorem dX1_init_65 : decode cX1_init 65 = .ok (.aload_n 0, 1) := by decide +kernel
theorem dX1_init_66 : decode cX1_init 66 = .ok (.getfield 18, 3) := by decide +kernel
theorem dX1_init_69 : decode cX1_init 69 = .ok (.if_icmp .ge 45, 3) := by decide +kernel
theorem dX1_init_72 : decode cX1_init 72 = .ok (.lload_n 3, 1) := by decide +kernel
theorem dX1_init_73 : decode cX1_init 73 = .ok (.iload 5, 2) := by decide +kernel
theorem dX1_init_75 : decode cX1_init 75 = .ok (.invokestatic 36, 3) := by decide +kernel
theorem dX1_init_78 : decode cX1_init 78 = .ok (.lor, 1) := by decide +kernel
theorem dX1_init_79 : decode cX1_init 79 = .ok (.lstore_n 3, 1) := by decide +kernel
theorem dX1_init_80 : decode cX1_init 80 = .ok (.iload 5, 2) := by decide +kernel
theorem dX1_init_82 : decode cX1_init 82 = .ok (.iload_n 1, 1) := by decide +kernel
theorem dX1_init_83 : decode cX1_init 83 = .ok (.iadd, 1) := by decide +kernel
theorem dX1_init_84 : decode cX1_init 84 = .ok (.aload_n 0, 1) := by decide +kernel
theorem dX1_init_85 : decode cX1_init 85 = .ok (.getfield 18, 3) := by decide +kernel
theorem dX1_init_88 : decode cX1_init 88 = .ok (.if_icmp .ge 20, 3) := by decide +kernel
theorem dX1_init_91 : decode cX1_init 91 = .ok (.aload_n 0, 1) := by decide +kernel
theorem dX1_init_92 : decode cX1_init 92 = .ok (.getfield 32, 3) := by decide +kernel
theorem dX1_init_95 : decode cX1_init 95 = .ok (.dup, 1) := by decide +kernel
theorem dX1_init_96 : decode cX1_init 96 = .ok (.getfield 40, 3) := by decide +kernel
theorem dX1_init_99 : decode cX1_init 99 = .ok (.iload 5, 2) := by decide +kernel
theorem dX1_init_101 : decode cX1_init 101 = .ok (.invokestatic 36, 3) := by decide +kernel
theorem dX1_init_104 : decode cX1_init 104 = .ok (.lor, 1) := by decide +kernel
theorem dX1_init_105 : decode cX1_init 105 = .ok (.putfield 40, 3) := by decide +kernel
theorem dX1_init_108 : decode cX1_init 108 = .ok (.iinc 5 1, 3) := by decide +kernel
theorem dX1_init_111 : decode cX1_init 111 = .ok (.goto (-48), 3) := by decide +kernel
theorem dX1_init_114 : decode cX1_init 114 = .ok (.aload_n 0, 1) := by decide +kernel
theorem dX1_init_115 : decode cX1_init 115 = .ok (.lload_n 3, 1) := by decide +kernel
theorem dX1_init_116 : decode cX1_init 116 = .ok (.putfield 44, 3) := by decide +kernel
theorem dX1_init_119 : decode cX1_init 119 = .ok (.aload_n 0, 1) := by decide +kernel
theorem dX1_init_120 : decode cX1_init 120 = .ok (.getfield 32, 3) := by decide +kernel
theorem dX1_init_123 : decode cX1_init 123 = .ok (.lload_n 3, 1) := by decide +kernel
theorem dX1_init_124 : decode cX1_init 124 = .ok (.aload_n 0, 1) := by decide +kernel
theorem dX1_init_125 : decode cX1_init 125 = .ok (.iload_n 1, 1) := by decide +kernel
theorem dX1_init_126 : decode cX1_init 126 = .ok (.iconst 1, 1) := by decide +kernel
theorem dX1_init_127 : decode cX1_init 127 = .ok (.isub, 1) := by decide +kernel
theorem dX1_init_128 : decode cX1_init 128 = .ok (.invokevirtual 47, 3) := by decide +kernel
theorem dX1_init_131 : decode cX1_init 131 = .ok (.ldc2_w 50, 3) := by decide +kernel
theorem dX1_init_134 : decode cX1_init 134 = .ok (.lxor, 1) := by decide +kernel
theorem dX1_init_135 : decode cX1_init 135 = .ok (.land, 1) := by decide +kernel
theorem dX1_init_136 : decode cX1_init 136 = .ok (.putfield 52, 3) := by decide +kernel
theorem dX1_init_139 : decode cX1_init 139 = .ok (.return_, 1) := by decide +kernel
theorem dX1_hasCell_0 : decode cX1_hasCell 0 = .ok (.iload_n 1, 1) := by decide +kernel
theorem dX1_hasCell_1 : decode cX1_hasCell 1 = .ok (.ifCond .lt 15, 3) := by decide +kernel
theorem dX1_hasCell_4 : decode cX1_hasCell 4 = .ok (.iload_n 1, 1) := by decide +kernel
theorem dX1_hasCell_5 : decode cX1_hasCell 5 = .ok (.aload_n 0, 1) := by decide +kernel
theorem dX1_hasCell_6 : decode cX1_hasCell 6 = .ok (.getfield 18, 3) := by decide +kernel
theorem dX1_hasCell_9 : decode cX1_hasCell 9 = .ok (.if_icmp .ge 7, 3) := by decide +kernel
theorem dX1_hasCell_12 : decode cX1_hasCell 12 = .ok (.iconst 1, 1) := by decide +kernel
theorem dX1_hasCell_13 : decode cX1_hasCell 13 = .ok (.goto 4, 3) := by decide +kernel
theorem dX1_hasCell_16 : decode cX1_hasCell 16 = .ok (.iconst 0, 1) := by decide +kernel
theorem dX1_hasCell_17 : decode cX1_hasCell 17 = .ok (.ireturn, 1) := by decide +kernel
set_option maxRecDepth 20000 in
theorem ggX1_hasEdge_X0_has : GoodIn wsX1_hasEdge wsX0_has := goodIn_r _ [7, 8, 9, 10, 11, 6, 12, 13, 14, 15, 16, 17, 18, 19, 27, 28, 29] (by decide +kernel) (by decide +kernel)
set_option maxRecDepth 20000 in
theorem gX1_hasEdge_X0_has : GoodIn wsX1_hasEdge (wsV RX1 55 RX0 yX0_has wsX0_has) := goodIn_app (goodIn_of _ (by decide +kernel)) ggX1_hasEdge_X0_has
theorem dX1_hasEdge_0 : decode cX1_hasEdge 0 = .ok (.iload_n 1, 1) := by decide +kernel
theorem dX1_hasEdge_1 : decode cX1_hasEdge 1 = .ok (.ifCond .lt 26, 3) := by decide +kernel
theorem dX1_hasEdge_4 : decode cX1_hasEdge 4 = .ok (.iload_n 1, 1) := by decide +kernel
theorem dX1_hasEdge_5 : decode cX1_hasEdge 5 = .ok (.aload_n 0, 1) := by decide +kernel
theorem dX1_hasEdge_6 : decode cX1_hasEdge 6 = .ok (.getfield 24, 3) := by decide +kernel
theorem dX1_hasEdge_9 : decode cX1_hasEdge 9 = .ok (.if_icmp .ge 18, 3) := by decide +kernel
theorem dX1_hasEdge_12 : decode cX1_hasEdge 12 = .ok (.aload_n 0, 1) := by decide +kernel
theorem dX1_hasEdge_13 : decode cX1_hasEdge 13 = .ok (.getfield 32, 3) := by decide +kernel
theorem dX1_hasEdge_16 : decode cX1_hasEdge 16 = .ok (.iload_n 1, 1) := by decide +kernel
theorem dX1_hasEdge_17 : decode cX1_hasEdge 17 = .ok (.invokevirtual 55, 3) := by decide +kernel
theorem dX1_hasEdge_20 : decode cX1_hasEdge 20 = .ok (.ifCond .eq 7, 3) := by decide +kernel
theorem dX1_hasEdge_23 : decode cX1_hasEdge 23 = .ok (.iconst 1, 1) := by decide +kernel
theorem dX1_hasEdge_24 : decode cX1_hasEdge 24 = .ok (.goto 4, 3) := by decide +kernel
theorem dX1_hasEdge_27 : decode cX1_hasEdge 27 = .ok (.iconst 0, 1) := by decide +kernel
theorem dX1_hasEdge_28 : decode cX1_hasEdge 28 = .ok (.ireturn, 1) := by decide +kernel
theorem dX1_lesserEnd_0 : decode cX1_lesserEnd 0 = .ok (.iload_n 0, 1) := by decide +kernel
theorem dX1_lesserEnd_1 : decode cX1_lesserEnd 1 = .ok (.iconst 1, 1) := by decide +kernel
theorem dX1_lesserEnd_2 : decode cX1_lesserEnd 2 = .ok (.ishr, 1) := by decide +kernel
theorem dX1_lesserEnd_3 : decode cX1_lesserEnd 3 = .ok (.ireturn, 1) := by decide +kernel
set_option maxRecDepth 20000 in
theorem ggX1_greaterEnd_X1_lesserEnd : GoodIn wsX1_greaterEnd wsX1_lesserEnd := goodIn_r _ [5] (by decide +kernel) (by decide +kernel)
set_option maxRecDepth 20000 in
theorem gX1_greaterEnd_X1_lesserEnd : GoodIn wsX1_greaterEnd (va_wsS RX1 59 yX1_lesserEnd wsX1_lesserEnd) := goodIn_app (goodIn_of _ (by decide +kernel)) ggX1_greaterEnd_X1_lesserEnd
set_option maxRecDepth 20000 in
theorem ggX1_greaterEnd_X0_isBelow : GoodIn wsX1_greaterEnd wsX0_isBelow := goodIn_r _ [9] (by decide +kernel) (by decide +kernel)
set_option maxRecDepth 20000 in
theorem gX1_greaterEnd_X0_isBelow : GoodIn wsX1_greaterEnd (va_wsS RX1 63 yX0_isBelow wsX0_isBelow) := goodIn_app (goodIn_of _ (by decide +kernel)) ggX1_greaterEnd_X0_isBelow
theorem dX1_greaterEnd_0 : decode cX1_greaterEnd 0 = .ok (.iload_n 1, 1) := by decide +kernel
theorem dX1_greaterEnd_1 : decode cX1_greaterEnd 1 = .ok (.invokestatic 59, 3) := by decide +kernel
theorem dX1_greaterEnd_4 : decode cX1_greaterEnd 4 = .ok (.iload_n 1, 1) := by decide +kernel
theorem dX1_greaterEnd_5 : decode cX1_greaterEnd 5 = .ok (.invokestatic 63, 3) := by decide +kernel
theorem dX1_greaterEnd_8 : decode cX1_greaterEnd 8 = .ok (.ifCond .eq 10, 3) := by decide +kernel
theorem dX1_greaterEnd_11 : decode cX1_greaterEnd 11 = .ok (.aload_n 0, 1) := by decide +kernel
theorem dX1_greaterEnd_12 : decode cX1_greaterEnd 12 = .ok (.getfield 9, 3) := by decide +kernel
theorem dX1_greaterEnd_15 : decode cX1_greaterEnd 15 = .ok (.goto 4, 3) := by decide +kernel
theorem dX1_greaterEnd_18 : decode cX1_greaterEnd 18 = .ok (.iconst 1, 1) := by decide +kernel
theorem dX1_greaterEnd_19 : decode cX1_greaterEnd 19 = .ok (.iadd, 1) := by decide +kernel
theorem dX1_greaterEnd_20 : decode cX1_greaterEnd 20 = .ok (.ireturn, 1) := by decide +kernel
set_option maxRecDepth 20000 in
theorem ggX1_edgeOf_X1_hasEdge : GoodIn wsX1_edgeOf wsX1_hasEdge := goodIn_r _ [6, 7, 8, 9, 10, 11, 12, 13, 14, 15, 16, 17, 18, 19, 20, 5, 21, 22, 23, 24, 25, 26, 27, 28, 29, 30, 31, 32, 33, 34] (by decide +kernel) (by decide +kernel)
set_option maxRecDepth 20000 in
theorem gX1_edgeOf_X1_hasEdge : GoodIn wsX1_edgeOf (wsV RX1 66 RX1 yX1_hasEdge wsX1_hasEdge) := goodIn_app (goodIn_of _ (by decide +kernel)) ggX1_edgeOf_X1_hasEdge
theorem dX1_edgeOf_0 : decode cX1_edgeOf 0 = .ok (.iconst (-1), 1) := by decide +kernel
theorem dX1_edgeOf_1 : decode cX1_edgeOf 1 = .ok (.istore_n 3, 1) := by decide +kernel
theorem dX1_edgeOf_2 : decode cX1_edgeOf 2 = .ok (.iload_n 2, 1) := by decide +kernel
theorem dX1_edgeOf_3 : decode cX1_edgeOf 3 = .ok (.tableswitch 55 0 2 #[25, 39, 46], 25) := by decide +kernel
theorem dX1_edgeOf_28 : decode cX1_edgeOf 28 = .ok (.iconst 2, 1) := by decide +kernel
theorem dX1_edgeOf_29 : decode cX1_edgeOf 29 = .ok (.iload_n 1, 1) := by decide +kernel
theorem dX1_edgeOf_30 : decode cX1_edgeOf 30 = .ok (.aload_n 0, 1) := by decide +kernel
theorem dX1_edgeOf_31 : decode cX1_edgeOf 31 = .ok (.getfield 9, 3) := by decide +kernel
theorem dX1_edgeOf_34 : decode cX1_edgeOf 34 = .ok (.isub, 1) := by decide +kernel
theorem dX1_edgeOf_35 : decode cX1_edgeOf 35 = .ok (.imul, 1) := by decide +kernel
theorem dX1_edgeOf_36 : decode cX1_edgeOf 36 = .ok (.iconst 1, 1) := by decide +kernel
theorem dX1_edgeOf_37 : decode cX1_edgeOf 37 = .ok (.iadd, 1) := by decide +kernel
theorem dX1_edgeOf_38 : decode cX1_edgeOf 38 = .ok (.istore_n 3, 1) := by decide +kernel
theorem dX1_edgeOf_39 : decode cX1_edgeOf 39 = .ok (.goto 25, 3) := by decide +kernel
theorem dX1_edgeOf_42 : decode cX1_edgeOf 42 = .ok (.iconst 2, 1) := by decide +kernel
theorem dX1_edgeOf_43 : decode cX1_edgeOf 43 = .ok (.iload_n 1, 1) := by decide +kernel
theorem dX1_edgeOf_44 : decode cX1_edgeOf 44 = .ok (.imul, 1) := by decide +kernel
theorem dX1_edgeOf_45 : decode cX1_edgeOf 45 = .ok (.istore_n 3, 1) := by decide +kernel
theorem dX1_edgeOf_46 : decode cX1_edgeOf 46 = .ok (.goto 18, 3) := by decide +kernel
theorem dX1_edgeOf_49 : decode cX1_edgeOf 49 = .ok (.iconst 2, 1) := by decide +kernel
theorem dX1_edgeOf_50 : decode cX1_edgeOf 50 = .ok (.iload_n 1, 1) := by decide +kernel
theorem dX1_edgeOf_51 : decode cX1_edgeOf 51 = .ok (.imul, 1) := by decide +kernel
theorem dX1_edgeOf_52 : decode cX1_edgeOf 52 = .ok (.iconst 1, 1) := by decide +kernel
theorem dX1_edgeOf_53 : decode cX1_edgeOf 53 = .ok (.iadd, 1) := by decide +kernel
theorem dX1_edgeOf_54 : decode cX1_edgeOf 54 = .ok (.istore_n 3, 1) := by decide +kernel
theorem dX1_edgeOf_55 : decode cX1_edgeOf 55 = .ok (.goto 9, 3) := by decide +kernel
theorem dX1_edgeOf_58 : decode cX1_edgeOf 58 = .ok (.iconst 2, 1) := by decide +kernel
theorem dX1_edgeOf_59 : decode cX1_edgeOf 59 = .ok (.iload_n 1, 1) := by decide +kernel
theorem dX1_edgeOf_60 : decode cX1_edgeOf 60 = .ok (.iconst 1, 1) := by decide +kernel
theorem dX1_edgeOf_61 : decode cX1_edgeOf 61 = .ok (.isub, 1) := by decide +kernel
theorem dX1_edgeOf_62 : decode cX1_edgeOf 62 = .ok (.imul, 1) := by decide +kernel
theorem dX1_edgeOf_63 : decode cX1_edgeOf 63 = .ok (.istore_n 3, 1) := by decide +kernel
theorem dX1_edgeOf_64 : decode cX1_edgeOf 64 = .ok (.aload_n 0, 1) := by decide +kernel
theorem dX1_edgeOf_65 : decode cX1_edgeOf 65 = .ok (.iload_n 3, 1) := by decide +kernel
theorem dX1_edgeOf_66 : decode cX1_edgeOf 66 = .ok (.invokevirtual 66, 3) := by decide +kernel
theorem dX1_edgeOf_69 : decode cX1_edgeOf 69 = .ok (.ifCond .eq 7, 3) := by decide +kernel
theorem dX1_edgeOf_72 : decode cX1_edgeOf 72 = .ok (.iload_n 3, 1) := by decide +kernel
theorem dX1_edgeOf_73 : decode cX1_edgeOf 73 = .ok (.goto 4, 3) := by decide +kernel
theorem dX1_edgeOf_76 : decode cX1_edgeOf 76 = .ok (.iconst (-1), 1) := by decide +kernel
theorem dX1_edgeOf_77 : decode cX1_edgeOf 77 = .ok (.ireturn, 1) := by decide +kernel
set_option maxRecDepth 20000 in
theorem ggX1_column_X5_only : GoodIn wsX1_column wsX5_only := goodIn_r _ [5] (by decide +kernel) (by decide +kernel)
set_option maxRecDepth 20000 in
theorem gX1_column_X5_only_n36 : GoodIn wsX1_column (wsX5_only) := ggX1_column_X5_only
theorem dX1_column_0 : decode cX1_column 0 = .ok (.lconst 0, 1) := by decide +kernel
theorem dX1_column_1 : decode cX1_column 1 = .ok (.lstore_n 2, 1) := by decide +kernel
theorem dX1_column_2 : decode cX1_column 2 = .ok (.iconst 0, 1) := by decide +kernel
theorem dX1_column_3 : decode cX1_column 3 = .ok (.istore 4, 2) := by decide +kernel
theorem dX1_column_5 : decode cX1_column 5 = .ok (.iload 4, 2) := by decide +kernel
theorem dX1_column_7 : decode cX1_column 7 = .ok (.aload_n 0, 1) := by decide +kernel
theorem dX1_column_8 : decode cX1_column 8 = .ok (.getfield 15, 3) := by decide +kernel
theorem dX1_column_11 : decode cX1_column 11 = .ok (.if_icmp .ge 24, 3) := by decide +kernel
theorem dX1_column_14 : decode cX1_column 14 = .ok (.lload_n 2, 1) := by decide +kernel
theorem dX1_column_15 : decode cX1_column 15 = .ok (.aload_n 0, 1) := by decide +kernel
theorem dX1_column_16 : decode cX1_column 16 = .ok (.getfield 9, 3) := by decide +kernel
theorem dX1_column_19 : decode cX1_column 19 = .ok (.iload 4, 2) := by decide +kernel
theorem dX1_column_21 : decode cX1_column 21 = .ok (.imul, 1) := by decide +kernel
theorem dX1_column_22 : decode cX1_column 22 = .ok (.iload_n 1, 1) := by decide +kernel
theorem dX1_column_23 : decode cX1_column 23 = .ok (.iadd, 1) := by decide +kernel
theorem dX1_column_24 : decode cX1_column 24 = .ok (.invokestatic 36, 3) := by decide +kernel
theorem dX1_column_27 : decode cX1_column 27 = .ok (.lor, 1) := by decide +kernel
theorem dX1_column_28 : decode cX1_column 28 = .ok (.lstore_n 2, 1) := by decide +kernel
theorem dX1_column_29 : decode cX1_column 29 = .ok (.iinc 4 1, 3) := by decide +kernel
theorem dX1_column_32 : decode cX1_column 32 = .ok (.goto (-27), 3) := by decide +kernel
theorem dX1_column_35 : decode cX1_column 35 = .ok (.lload_n 2, 1) := by decide +kernel
theorem dX1_column_36 : decode cX1_column 36 = .ok (.lreturn, 1) := by decide +kernel
set_option maxRecDepth 20000 in
theorem ggX1_row_X5_only : GoodIn wsX1_row wsX5_only := goodIn_r _ [4] (by decide +kernel) (by decide +kernel)
set_option maxRecDepth 20000 in
theorem gX1_row_X5_only_n36 : GoodIn wsX1_row (wsX5_only) := ggX1_row_X5_only
theorem dX1_row_0 : decode cX1_row 0 = .ok (.lconst 0, 1) := by decide +kernel
theorem dX1_row_1 : decode cX1_row 1 = .ok (.lstore_n 2, 1) := by decide +kernel
theorem dX1_row_2 : decode cX1_row 2 = .ok (.iconst 0, 1) := by decide +kernel
theorem dX1_row_3 : decode cX1_row 3 = .ok (.istore 4, 2) := by decide +kernel
theorem dX1_row_5 : decode cX1_row 5 = .ok (.iload 4, 2) := by decide +kernel
theorem dX1_row_7 : decode cX1_row 7 = .ok (.aload_n 0, 1) := by decide +kernel
theorem dX1_row_8 : decode cX1_row 8 = .ok (.getfield 9, 3) := by decide +kernel
theorem dX1_row_11 : decode cX1_row 11 = .ok (.if_icmp .ge 24, 3) := by decide +kernel
theorem dX1_row_14 : decode cX1_row 14 = .ok (.lload_n 2, 1) := by decide +kernel
theorem dX1_row_15 : decode cX1_row 15 = .ok (.aload_n 0, 1) := by decide +kernel
theorem dX1_row_16 : decode cX1_row 16 = .ok (.getfield 9, 3) := by decide +kernel
theorem dX1_row_19 : decode cX1_row 19 = .ok (.iload_n 1, 1) := by decide +kernel
theorem dX1_row_20 : decode cX1_row 20 = .ok (.imul, 1) := by decide +kernel
theorem dX1_row_21 : decode cX1_row 21 = .ok (.iload 4, 2) := by decide +kernel
theorem dX1_row_23 : decode cX1_row 23 = .ok (.iadd, 1) := by decide +kernel
theorem dX1_row_24 : decode cX1_row 24 = .ok (.invokestatic 36, 3) := by decide +kernel
theorem dX1_row_27 : decode cX1_row 27 = .ok (.lor, 1) := by decide +kernel
theorem dX1_row_28 : decode cX1_row 28 = .ok (.lstore_n 2, 1) := by decide +kernel
theorem dX1_row_29 : decode cX1_row 29 = .ok (.iinc 4 1, 3) := by decide +kernel
theorem dX1_row_32 : decode cX1_row 32 = .ok (.goto (-27), 3) := by decide +kernel
theorem dX1_row_35 : decode cX1_row 35 = .ok (.lload_n 2, 1) := by decide +kernel
theorem dX1_row_36 : decode cX1_row 36 = .ok (.lreturn, 1) := by decide +kernel
theorem dX1_borderCount_0 : decode cX1_borderCount 0 = .ok (.aload_n 0, 1) := by decide +kernel
theorem dX1_borderCount_1 : decode cX1_borderCount 1 = .ok (.getfield 9, 3) := by decide +kernel
theorem dX1_borderCount_4 : decode cX1_borderCount 4 = .ok (.iconst 1, 1) := by decide +kernel
theorem dX1_borderCount_5 : decode cX1_borderCount 5 = .ok (.isub, 1) := by decide +kernel
theorem dX1_borderCount_6 : decode cX1_borderCount 6 = .ok (.aload_n 0, 1) := by decide +kernel
theorem dX1_borderCount_7 : decode cX1_borderCount 7 = .ok (.getfield 15, 3) := by decide +kernel
theorem dX1_borderCount_10 : decode cX1_borderCount 10 = .ok (.iadd, 1) := by decide +kernel
theorem dX1_borderCount_11 : decode cX1_borderCount 11 = .ok (.iconst 1, 1) := by decide +kernel
theorem dX1_borderCount_12 : decode cX1_borderCount 12 = .ok (.isub, 1) := by decide +kernel
theorem dX1_borderCount_13 : decode cX1_borderCount 13 = .ok (.ireturn, 1) := by decide +kernel
set_option maxRecDepth 20000 in
theorem ggX2_init_X0_init : GoodIn wsX2_init wsX0_init := goodIn_r _ [16, 17, 2, 3, 18, 29, 30, 31] (by decide +kernel) (by decide +kernel)
set_option maxRecDepth 20000 in
theorem gX2_init_X0_init : GoodIn wsX2_init (wsX0_init) := ggX2_init_X0_init
theorem dX2_init_0 : decode cX2_init 0 = .ok (.aload_n 0, 1) := by decide +kernel
theorem dX2_init_1 : decode cX2_init 1 = .ok (.invokespecial 3, 3) := by decide +kernel
theorem dX2_init_4 : decode cX2_init 4 = .ok (.aload_n 0, 1) := by decide +kernel
theorem dX2_init_5 : decode cX2_init 5 = .ok (.aload_n 1, 1) := by decide +kernel
theorem dX2_init_6 : decode cX2_init 6 = .ok (.putfield 9, 3) := by decide +kernel
theorem dX2_init_9 : decode cX2_init 9 = .ok (.aload_n 0, 1) := by decide +kernel
theorem dX2_init_10 : decode cX2_init 10 = .ok (.aload_n 2, 1) := by decide +kernel
theorem dX2_init_11 : decode cX2_init 11 = .ok (.putfield 15, 3) := by decide +kernel
theorem dX2_init_14 : decode cX2_init 14 = .ok (.aload_n 0, 1) := by decide +kernel
theorem dX2_init_15 : decode cX2_init 15 = .ok (.aload_n 3, 1) := by decide +kernel
theorem dX2_init_16 : decode cX2_init 16 = .ok (.putfield 19, 3) := by decide +kernel
theorem dX2_init_19 : decode cX2_init 19 = .ok (.aload_n 0, 1) := by decide +kernel
theorem dX2_init_20 : decode cX2_init 20 = .ok (.new 23, 3) := by decide +kernel
theorem dX2_init_23 : decode cX2_init 23 = .ok (.dup, 1) := by decide +kernel
theorem dX2_init_24 : decode cX2_init 24 = .ok (.aload_n 1, 1) := by decide +kernel
theorem dX2_init_25 : decode cX2_init 25 = .ok (.getfield 25, 3) := by decide +kernel
theorem dX2_init_28 : decode cX2_init 28 = .ok (.invokespecial 31, 3) := by decide +kernel
theorem dX2_init_31 : decode cX2_init 31 = .ok (.putfield 34, 3) := by decide +kernel
theorem dX2_init_34 : decode cX2_init 34 = .ok (.aload_n 0, 1) := by decide +kernel
theorem dX2_init_35 : decode cX2_init 35 = .ok (.new 23, 3) := by decide +kernel
theorem dX2_init_38 : decode cX2_init 38 = .ok (.dup, 1) := by decide +kernel
theorem dX2_init_39 : decode cX2_init 39 = .ok (.aload_n 1, 1) := by decide +kernel
theorem dX2_init_40 : decode cX2_init 40 = .ok (.getfield 25, 3) := by decide +kernel
theorem dX2_init_43 : decode cX2_init 43 = .ok (.invokespecial 31, 3) := by decide +kernel
theorem dX2_init_46 : decode cX2_init 46 = .ok (.putfield 38, 3) := by decide +kernel
theorem dX2_init_49 : decode cX2_init 49 = .ok (.aload_n 0, 1) := by decide +kernel
theorem dX2_init_50 : decode cX2_init 50 = .ok (.new 23, 3) := by decide +kernel
theorem dX2_init_53 : decode cX2_init 53 = .ok (.dup, 1) := by decide +kernel
theorem dX2_init_54 : decode cX2_init 54 = .ok (.aload_n 1, 1) := by decide +kernel
theorem dX2_init_55 : decode cX2_init 55 = .ok (.getfield 25, 3) := by decide +kernel
theorem dX2_init_58 : decode cX2_init 58 = .ok (.invokespecial 31, 3) := by decide +kernel
theorem dX2_init_61 : decode cX2_init 61 = .ok (.putfield 41, 3) := by decide +kernel
theorem dX2_init_64 : decode cX2_init 64 = .ok (.return_, 1) := by decide +kernel
set_option maxRecDepth 20000 in
theorem ggX2_doFirst_X2_look : GoodIn wsX2_doFirst wsX2_look := goodIn_r _ [5, 6, 7, 8, 9, 10, 11, 12, 13, 14, 15, 16, 17, 18, 19, 20, 21, 22, 23, 24, 25, 26, 27, 28, 29, 30, 31, 32, 33, 34, 35, 36, 37, 38, 39, 40, 41, 42, 43, 279, 280, 281, 282, 283, 284, 285, 286, 287, 288, 289, 290, 291, 292, 293, 294, 295, 296, 297, 298, 299, 300, 301, 302, 303, 304, 305, 306] (by decide +kernel) (by decide +kernel)
set_option maxRecDepth 20000 in
theorem gX2_doFirst_X2_look : GoodIn wsX2_doFirst (wsV RX2 44 RX2 yX2_look wsX2_look) := goodIn_app (goodIn_of _ (by decide +kernel)) ggX2_doFirst_X2_look
set_option maxRecDepth 20000 in
theorem ggX2_doFirst_X2_doCell : GoodIn wsX2_doFirst wsX2_doCell := goodIn_r _ [47, 9, 12, 48, 13, 17, 16, 6, 15, 49, 50, 51, 22, 52, 24, 26, 31, 32, 33, 34, 35, 36, 37, 38, 39, 40, 41, 42, 43, 53, 54, 55, 56, 57, 58, 59, 60, 61, 62, 63, 64, 65, 4, 66, 67, 68, 69, 70, 71, 72, 73, 74, 75, 76, 77, 78, 79, 80, 81, 279, 280, 281, 282, 283, 284, 285, 286, 287, 288, 296, 297, 298, 299, 300, 301, 302, 303, 304, 305, 306, 307, 308, 309, 310, 311] (by decide +kernel) (by decide +kernel)
set_option maxRecDepth 20000 in
theorem gX2_doFirst_X2_doCell : GoodIn wsX2_doFirst (wsV RX2 47 RX2 yX2_doCell wsX2_doCell) := goodIn_app (goodIn_of _ (by decide +kernel)) ggX2_doFirst_X2_doCell
set_option maxRecDepth 20000 in
theorem ggX2_doFirst_X2_doFull : GoodIn wsX2_doFirst wsX2_doFull := goodIn_r _ [85, 14, 9, 48, 11, 27, 28, 29, 22, 30, 24, 26, 31, 32, 33, 34, 35, 36, 37, 38, 39, 53, 54, 55, 56, 57, 58, 59, 60, 61, 62, 86, 87, 88, 4, 89, 67, 7, 69, 70, 71, 72, 73, 74, 75, 76, 77, 78, 79, 80, 81, 90, 91, 92, 93, 94, 95, 96, 97, 98, 99, 100, 101, 102, 103, 104, 105, 106, 107, 108, 109, 110, 111, 112, 113, 114, 115, 116, 117, 118, 119, 120, 121, 122, 123, 124, 125, 126, 127, 128, 129, 130, 131, 132, 133, 134, 135, 136, 137, 138, 279, 280, 281, 282, 283, 284, 285, 286, 287, 288, 296, 297, 298, 299, 300, 301, 302, 303, 304, 305, 306, 307, 308, 309, 310, 311, 289, 290, 291, 292, 293, 294, 295] (by decide +kernel) (by decide +kernel)
set_option maxRecDepth 20000 in
theorem gX2_doFirst_X2_doFull : GoodIn wsX2_doFirst (wsV RX2 51 RX2 yX2_doFull wsX2_doFull) := goodIn_app (goodIn_of _ (by decide +kernel)) ggX2_doFirst_X2_doFull
set_option maxRecDepth 20000 in
theorem ggX2_doFirst_X2_doAlone : GoodIn wsX2_doFirst wsX2_doAlone := goodIn_r _ [142, 11, 15, 18, 27, 28, 29, 22, 30, 24, 26, 31, 32, 33, 34, 35, 36, 37, 38, 39, 40, 41, 42, 43, 53, 54, 55, 56, 57, 58, 59, 60, 61, 62, 86, 87, 88, 4, 89, 67, 7, 69, 70, 71, 72, 73, 74, 75, 76, 77, 78, 79, 80, 81, 90, 91, 92, 93, 94, 95, 96, 97, 98, 99, 100, 101, 102, 103, 104, 105, 106, 107, 108, 109, 110, 111, 112, 113, 114, 115, 116, 117, 118, 9, 119, 120, 121, 122, 123, 124, 125, 126, 127, 128, 129, 130, 131, 132, 133, 134, 135, 136, 137, 138, 279, 280, 281, 282, 283, 284, 285, 286, 287, 288, 304, 305, 306, 307, 308, 309, 310, 311, 289, 290, 291, 292, 293, 294, 295, 296, 297, 298, 299, 300, 301, 302, 303] (by decide +kernel) (by decide +kernel)
set_option maxRecDepth 20000 in
theorem gX2_doFirst_X2_doAlone : GoodIn wsX2_doFirst (wsV RX2 54 RX2 yX2_doAlone wsX2_doAlone) := goodIn_app (goodIn_of _ (by decide +kernel)) ggX2_doFirst_X2_doAlone
set_option maxRecDepth 20000 in
theorem ggX2_doFirst_X2_doForced : GoodIn wsX2_doFirst wsX2_doForced := goodIn_r _ [146, 6, 15, 9, 17, 16, 11, 40, 41, 42, 22, 43, 24, 26, 31, 32, 33, 34, 35, 36, 37, 38, 39, 49, 50, 51, 52, 27, 28, 29, 30, 53, 54, 55, 56, 57, 58, 59, 60, 61, 62, 86, 87, 88, 4, 89, 67, 7, 69, 70, 71, 72, 73, 74, 75, 76, 77, 78, 79, 80, 81, 90, 91, 92, 93, 94, 95, 96, 97, 98, 99, 100, 101, 102, 103, 104, 105, 106, 107, 108, 109, 110, 111, 112, 113, 114, 115, 116, 117, 118, 119, 120, 121, 122, 123, 124, 125, 126, 127, 128, 129, 130, 131, 132, 133, 134, 135, 136, 137, 138, 279, 280, 281, 282, 283, 284, 285, 286, 287, 288, 296, 297, 298, 299, 300, 301, 302, 303, 304, 305, 306, 307, 308, 309, 310, 311, 289, 290, 291, 292, 293, 294, 295] (by decide +kernel) (by decide +kernel)
set_option maxRecDepth 20000 in
theorem gX2_doFirst_X2_doForced : GoodIn wsX2_doFirst (wsV RX2 57 RX2 yX2_doForced wsX2_doForced) := goodIn_app (goodIn_of _ (by decide +kernel)) ggX2_doFirst_X2_doForced
set_option maxRecDepth 20000 in
theorem ggX2_doFirst_X2_doClosed : GoodIn wsX2_doFirst wsX2_doClosed := goodIn_r _ [150, 13, 7, 151, 9, 12, 14, 15, 53, 54, 55, 56, 57, 58, 59, 60, 61, 62, 112, 113, 152, 153, 154, 22, 155, 156, 157, 158, 159, 24, 26, 39, 160, 161, 162, 4, 163, 18, 63, 64, 65, 66, 67, 68, 69, 70, 71, 72, 73, 74, 75, 76, 77, 78, 79, 80, 81, 279, 280, 281, 282, 283, 284, 285, 286, 287, 288, 289, 290, 291, 292, 293, 294, 295, 296, 297, 298, 299, 300, 301, 302, 303, 304, 305, 306, 307, 308, 309, 310, 311] (by decide +kernel) (by decide +kernel)
set_option maxRecDepth 20000 in
theorem gX2_doFirst_X2_doClosed : GoodIn wsX2_doFirst (wsV RX2 60 RX2 yX2_doClosed wsX2_doClosed) := goodIn_app (goodIn_of _ (by decide +kernel)) ggX2_doFirst_X2_doClosed
set_option maxRecDepth 20000 in
theorem ggX2_doFirst_X2_doEarly : GoodIn wsX2_doFirst wsX2_doEarly := goodIn_r _ [167, 168, 11, 169, 16, 170, 7, 171, 172, 114, 103, 104, 22, 105, 26, 24, 106, 107, 108, 109, 110, 93, 111, 112, 54, 113, 173, 174, 175, 4, 176, 9, 12, 177, 152, 153, 154, 155, 156, 157, 158, 159, 39, 178, 179, 180, 181, 95, 182, 183, 184, 185, 186, 160, 161, 162, 163, 18, 15, 187, 188, 189, 190, 67, 69, 70, 71, 72, 73, 74, 75, 76, 77, 78, 79, 80, 81, 115, 116, 117, 118, 119, 120, 121, 122, 123, 124, 125, 126, 127, 128, 129, 130, 131, 132, 133, 134, 135, 136, 137, 138, 279, 280, 281, 282, 283, 284, 285, 286, 287, 288, 304, 305, 306, 289, 290, 291, 292, 293, 294, 295, 296, 297, 298, 299, 300, 301, 302, 303, 307, 308, 309, 310, 311] (by decide +kernel) (by decide +kernel)
set_option maxRecDepth 20000 in
theorem gX2_doFirst_X2_doEarly : GoodIn wsX2_doFirst (wsV RX2 63 RX2 yX2_doEarly wsX2_doEarly) := goodIn_app (goodIn_of _ (by decide +kernel)) ggX2_doFirst_X2_doEarly
set_option maxRecDepth 20000 in
theorem ggX2_doFirst_X2_doBorder : GoodIn wsX2_doFirst wsX2_doBorder := goodIn_r _ [194, 7, 171, 9, 12, 169, 170, 11, 195, 196, 197, 93, 198, 95, 199, 200, 201, 202, 203, 112, 54, 113, 204, 205, 206, 207, 208, 57, 58, 59, 60, 61, 62, 63, 64, 65, 4, 66, 67, 68, 69, 70, 71, 72, 73, 74, 75, 76, 77, 78, 79, 80, 81, 53, 55, 56, 187, 188, 189, 190, 115, 116, 117, 118, 119, 120, 121, 122, 123, 124, 125, 126, 127, 128, 22, 129, 26, 24, 106, 107, 108, 109, 110, 111, 130, 131, 132, 133, 134, 135, 136, 137, 138, 279, 280, 281, 282, 283, 284, 285, 286, 287, 288, 289, 290, 291, 292, 293, 294, 295, 296, 297, 298, 299, 300, 301, 302, 303, 304, 305, 306, 307, 308, 309, 310, 311] (by decide +kernel) (by decide +kernel)
set_option maxRecDepth 20000 in
theorem gX2_doFirst_X2_doBorder : GoodIn wsX2_doFirst (wsV RX2 66 RX2 yX2_doBorder wsX2_doBorder) := goodIn_app (goodIn_of _ (by decide +kernel)) ggX2_doFirst_X2_doBorder
set_option maxRecDepth 20000 in
theorem ggX2_doFirst_X2_doBridge : GoodIn wsX2_doFirst wsX2_doBridge := goodIn_r _ [212, 7, 172, 6, 9, 12, 114, 103, 104, 22, 105, 26, 24, 106, 107, 108, 109, 110, 93, 111, 112, 54, 113, 213, 214, 215, 4, 216, 168, 217, 218, 219, 220, 221, 222, 223, 224, 25, 177, 178, 179, 180, 181, 95, 182, 183, 225, 226, 227, 228, 184, 185, 186, 156, 157, 158, 159, 39, 63, 64, 65, 66, 67, 68, 69, 70, 71, 72, 73, 74, 75, 76, 77, 78, 79, 80, 81, 187, 188, 189, 190, 115, 116, 117, 118, 119, 120, 121, 122, 123, 124, 125, 126, 127, 128, 129, 130, 131, 132, 133, 134, 135, 136, 137, 138, 279, 280, 281, 282, 283, 284, 285, 286, 287, 288, 289, 290, 291, 292, 293, 294, 295, 296, 297, 298, 299, 300, 301, 302, 303, 304, 305, 306, 307, 308, 309, 310, 311] (by decide +kernel) (by decide +kernel)
set_option maxRecDepth 20000 in
theorem gX2_doFirst_X2_doBridge : GoodIn wsX2_doFirst (wsV RX2 69 RX2 yX2_doBridge wsX2_doBridge) := goodIn_app (goodIn_of _ (by decide +kernel)) ggX2_doFirst_X2_doBridge
set_option maxRecDepth 20000 in
theorem ggX2_doFirst_X2_doApart : GoodIn wsX2_doFirst wsX2_doApart := goodIn_r _ [232, 18, 6, 15, 7, 172, 11, 53, 54, 55, 56, 57, 58, 59, 60, 61, 62, 112, 113, 152, 153, 154, 22, 155, 156, 157, 158, 159, 24, 26, 39, 63, 64, 65, 4, 66, 67, 9, 68, 69, 70, 71, 72, 73, 74, 75, 76, 77, 78, 79, 80, 81, 114, 103, 104, 105, 106, 107, 108, 109, 110, 93, 111, 177, 184, 185, 186, 187, 188, 189, 190, 115, 116, 117, 118, 119, 120, 121, 122, 123, 124, 125, 126, 127, 128, 129, 130, 131, 132, 133, 134, 135, 136, 137, 138, 279, 280, 281, 282, 283, 284, 285, 286, 287, 288, 289, 290, 291, 292, 293, 294, 295, 304, 305, 306, 296, 297, 298, 299, 300, 301, 302, 303, 307, 308, 309, 310, 311] (by decide +kernel) (by decide +kernel)
set_option maxRecDepth 20000 in
theorem gX2_doFirst_X2_doApart : GoodIn wsX2_doFirst (wsV RX2 72 RX2 yX2_doApart wsX2_doApart) := goodIn_app (goodIn_of _ (by decide +kernel)) ggX2_doFirst_X2_doApart
set_option maxRecDepth 20000 in
theorem ggX2_doFirst_X2_doMany : GoodIn wsX2_doFirst wsX2_doMany := goodIn_r _ [236, 9, 237, 238, 7, 239, 240, 15, 208, 57, 58, 59, 60, 61, 62, 63, 64, 65, 4, 66, 67, 68, 69, 70, 71, 72, 73, 74, 75, 76, 77, 78, 79, 80, 81, 241, 242, 243, 244, 151, 245, 246, 247, 248, 184, 54, 185, 186, 112, 113, 249, 250, 251, 252, 253, 254, 255, 122, 256, 257, 258, 130, 131, 132, 133, 134, 135, 136, 137, 138, 279, 280, 281, 282, 283, 284, 285, 286, 287, 288, 296, 297, 298, 299, 300, 301, 302, 303, 289, 290, 291, 292, 293, 294, 295, 307, 308, 309, 310, 311] (by decide +kernel) (by decide +kernel)
set_option maxRecDepth 20000 in
theorem gX2_doFirst_X2_doMany : GoodIn wsX2_doFirst (wsV RX2 75 RX2 yX2_doMany wsX2_doMany) := goodIn_app (goodIn_of _ (by decide +kernel)) ggX2_doFirst_X2_doMany
set_option maxRecDepth 20000 in
theorem ggX2_doFirst_X2_doParts : GoodIn wsX2_doFirst wsX2_doParts := goodIn_r _ [262, 9, 238, 7, 239, 240, 15, 53, 54, 55, 56, 57, 58, 59, 60, 61, 62, 263, 264, 265, 4, 266, 168, 8, 169, 170, 171, 112, 113, 152, 153, 154, 22, 155, 156, 157, 158, 159, 24, 26, 39, 63, 64, 65, 66, 67, 68, 69, 70, 71, 72, 73, 74, 75, 76, 77, 78, 79, 80, 81, 245, 246, 247, 248, 267, 268, 269, 270, 249, 250, 251, 252, 253, 254, 255, 122, 256, 257, 258, 130, 131, 132, 133, 134, 135, 136, 137, 138, 279, 280, 281, 282, 283, 284, 285, 286, 287, 288, 296, 297, 298, 299, 300, 301, 302, 303, 289, 290, 291, 292, 293, 294, 295, 304, 305, 306, 307, 308, 309, 310, 311] (by decide +kernel) (by decide +kernel)
set_option maxRecDepth 20000 in
theorem gX2_doFirst_X2_doParts : GoodIn wsX2_doFirst (wsV RX2 78 RX2 yX2_doParts wsX2_doParts) := goodIn_app (goodIn_of _ (by decide +kernel)) ggX2_doFirst_X2_doParts
set_option maxRecDepth 20000 in
theorem ggX2_doFirst_X2_doCut : GoodIn wsX2_doFirst wsX2_doCut := goodIn_r _ [274, 9, 238, 7, 151, 245, 246, 247, 4, 248, 239, 15, 240, 184, 54, 185, 186, 112, 113, 275, 276, 277, 278, 53, 55, 56, 57, 58, 59, 60, 61, 62, 263, 264, 265, 266, 168, 8, 169, 170, 171, 152, 153, 154, 22, 155, 156, 157, 158, 159, 24, 26, 39, 267, 268, 269, 270, 67, 69, 70, 71, 72, 73, 74, 75, 76, 77, 78, 79, 80, 81, 249, 250, 251, 252, 253, 254, 255, 122, 256, 257, 258, 130, 131, 132, 133, 134, 135, 136, 137, 138, 279, 280, 281, 282, 283, 284, 285, 286, 287, 288, 296, 297, 298, 299, 300, 301, 302, 303, 289, 290, 291, 292, 293, 294, 295, 304, 305, 306, 307, 308, 309, 310, 311] (by decide +kernel) (by decide +kernel)
set_option maxRecDepth 20000 in
theorem gX2_doFirst_X2_doCut : GoodIn wsX2_doFirst (wsV RX2 81 RX2 yX2_doCut wsX2_doCut) := goodIn_app (goodIn_of _ (by decide +kernel)) ggX2_doFirst_X2_doCut
theorem dX2_doFirst_0 : decode cX2_doFirst 0 = .ok (.aload_n 0, 1) := by decide +kernel
theorem dX2_doFirst_1 : decode cX2_doFirst 1 = .ok (.invokevirtual 44, 3) := by decide +kernel
theorem dX2_doFirst_4 : decode cX2_doFirst 4 = .ok (.aload_n 0, 1) := by decide +kernel
theorem dX2_doFirst_5 : decode cX2_doFirst 5 = .ok (.invokevirtual 47, 3) := by decide +kernel
theorem dX2_doFirst_8 : decode cX2_doFirst 8 = .ok (.ifCond .ne 80, 3) := by decide +kernel
theorem dX2_doFirst_11 : decode cX2_doFirst 11 = .ok (.aload_n 0, 1) := by decide +kernel
theorem dX2_doFirst_12 : decode cX2_doFirst 12 = .ok (.invokevirtual 51, 3) := by decide +kernel
theorem dX2_doFirst_15 : decode cX2_doFirst 15 = .ok (.ifCond .ne 73, 3) := by decide +kernel
theorem dX2_doFirst_18 : decode cX2_doFirst 18 = .ok (.aload_n 0, 1) := by decide +kernel
theorem dX2_doFirst_19 : decode cX2_doFirst 19 = .ok (.invokevirtual 54, 3) := by decide +kernel
theorem dX2_doFirst_22 : decode cX2_doFirst 22 = .ok (.ifCond .ne 66, 3) := by decide +kernel
theorem dX2_doFirst_25 : decode cX2_doFirst 25 = .ok (.aload_n 0, 1) := by decide +kernel
theorem dX2_doFirst_26 : decode cX2_doFirst 26 = .ok (.invokevirtual 57, 3) := by decide +kernel
theorem dX2_doFirst_29 : decode cX2_doFirst 29 = .ok (.ifCond .ne 59, 3) := by decide +kernel
theorem dX2_doFirst_32 : decode cX2_doFirst 32 = .ok (.aload_n 0, 1) := by decide +kernel
theorem dX2_doFirst_33 : decode cX2_doFirst 33 = .ok (.invokevirtual 60, 3) := by decide +kernel
theorem dX2_doFirst_36 : decode cX2_doFirst 36 = .ok (.ifCond .ne 52, 3) := by decide +kernel
theorem dX2_doFirst_39 : decode cX2_doFirst 39 = .ok (.aload_n 0, 1) := by decide +kernel
theorem dX2_doFirst_40 : decode cX2_doFirst 40 = .ok (.invokevirtual 63, 3) := by decide +kernel
theorem dX2_doFirst_43 : decode cX2_doFirst 43 = .ok (.ifCond .ne 45, 3) := by decide +kernel
theorem dX2_doFirst_46 : decode cX2_doFirst 46 = .ok (.aload_n 0, 1) := by decide +kernel
theorem dX2_doFirst_47 : decode cX2_doFirst 47 = .ok (.invokevirtual 66, 3) := by decide +kernel
theorem dX2_doFirst_50 : decode cX2_doFirst 50 = .ok (.ifCond .ne 38, 3) := by decide +kernel
theorem dX2_doFirst_53 : decode cX2_doFirst 53 = .ok (.aload_n 0, 1) := by decide +kernel
theorem dX2_doFirst_54 : decode cX2_doFirst 54 = .ok (.invokevirtual 69, 3) := by decide +kernel
theorem dX2_doFirst_57 : decode cX2_doFirst 57 = .ok (.ifCond .ne 31, 3) := by decide +kernel
theorem dX2_doFirst_60 : decode cX2_doFirst 60 = .ok (.aload_n 0, 1) := by decide +kernel
theorem dX2_doFirst_61 : decode cX2_doFirst 61 = .ok (.invokevirtual 72, 3) := by decide +kernel
theorem dX2_doFirst_64 : decode cX2_doFirst 64 = .ok (.ifCond .ne 24, 3) := by decide +kernel
theorem dX2_doFirst_67 : decode cX2_doFirst 67 = .ok (.aload_n 0, 1) := by decide +kernel
theorem dX2_doFirst_68 : decode cX2_doFirst 68 = .ok (.invokevirtual 75, 3) := by decide +kernel
theorem dX2_doFirst_71 : decode cX2_doFirst 71 = .ok (.ifCond .ne 17, 3) := by decide +kernel
theorem dX2_doFirst_74 : decode cX2_doFirst 74 = .ok (.aload_n 0, 1) := by decide +kernel
theorem dX2_doFirst_75 : decode cX2_doFirst 75 = .ok (.invokevirtual 78, 3) := by decide +kernel
theorem dX2_doFirst_78 : decode cX2_doFirst 78 = .ok (.ifCond .ne 10, 3) := by decide +kernel
theorem dX2_doFirst_81 : decode cX2_doFirst 81 = .ok (.aload_n 0, 1) := by decide +kernel
theorem dX2_doFirst_82 : decode cX2_doFirst 82 = .ok (.invokevirtual 81, 3) := by decide +kernel
theorem dX2_doFirst_85 : decode cX2_doFirst 85 = .ok (.ifCond .eq 7, 3) := by decide +kernel
theorem dX2_doFirst_88 : decode cX2_doFirst 88 = .ok (.iconst 1, 1) := by decide +kernel
theorem dX2_doFirst_89 : decode cX2_doFirst 89 = .ok (.goto 4, 3) := by decide +kernel
theorem dX2_doFirst_92 : decode cX2_doFirst 92 = .ok (.iconst 0, 1) := by decide +kernel
theorem dX2_doFirst_93 : decode cX2_doFirst 93 = .ok (.ireturn, 1) := by decide +kernel
set_option maxRecDepth 20000 in
theorem ggX2_look_X0_copyWithout : GoodIn wsX2_look wsX0_copyWithout := goodIn_r _ [18, 19, 20, 21, 64, 65, 66] (by decide +kernel) (by decide +kernel)
set_option maxRecDepth 20000 in
theorem gX2_look_X0_copyWithout : GoodIn wsX2_look (wsV RX2 92 RX0 yX0_copyWithout wsX0_copyWithout) := goodIn_app (goodIn_of _ (by decide +kernel)) ggX2_look_X0_copyWithout
set_option maxRecDepth 20000 in
theorem ggX2_look_X0_cellsWithOne : GoodIn wsX2_look wsX0_cellsWithOne := goodIn_r _ [25, 19, 21, 26, 27, 28, 17, 29, 30, 31, 32, 33, 34, 64, 65, 66] (by decide +kernel) (by decide +kernel)
set_option maxRecDepth 20000 in
theorem gX2_look_X0_cellsWithOne : GoodIn wsX2_look (wsV RX2 99 RX0 yX0_cellsWithOne wsX0_cellsWithOne) := goodIn_app (goodIn_of _ (by decide +kernel)) ggX2_look_X0_cellsWithOne
set_option maxRecDepth 20000 in
theorem ggX2_look_X0_cellsWithTwo : GoodIn wsX2_look wsX0_cellsWithTwo := goodIn_r _ [38, 19, 21, 26, 27, 28, 17, 29, 30, 31, 32, 33, 34, 64, 65, 66] (by decide +kernel) (by decide +kernel)
set_option maxRecDepth 20000 in
theorem gX2_look_X0_cellsWithTwo : GoodIn wsX2_look (wsV RX2 107 RX0 yX0_cellsWithTwo wsX0_cellsWithTwo) := goodIn_app (goodIn_of _ (by decide +kernel)) ggX2_look_X0_cellsWithTwo
theorem dX2_look_0 : decode cX2_look 0 = .ok (.aload_n 0, 1) := by decide +kernel
theorem dX2_look_1 : decode cX2_look 1 = .ok (.getfield 38, 3) := by decide +kernel
theorem dX2_look_4 : decode cX2_look 4 = .ok (.aload_n 0, 1) := by decide +kernel
theorem dX2_look_5 : decode cX2_look 5 = .ok (.getfield 9, 3) := by decide +kernel
theorem dX2_look_8 : decode cX2_look 8 = .ok (.getfield 84, 3) := by decide +kernel
theorem dX2_look_11 : decode cX2_look 11 = .ok (.aload_n 0, 1) := by decide +kernel
theorem dX2_look_12 : decode cX2_look 12 = .ok (.getfield 15, 3) := by decide +kernel
theorem dX2_look_15 : decode cX2_look 15 = .ok (.getfield 87, 3) := by decide +kernel
theorem dX2_look_18 : decode cX2_look 18 = .ok (.invokevirtual 92, 3) := by decide +kernel
theorem dX2_look_21 : decode cX2_look 21 = .ok (.aload_n 0, 1) := by decide +kernel
theorem dX2_look_22 : decode cX2_look 22 = .ok (.getfield 34, 3) := by decide +kernel
theorem dX2_look_25 : decode cX2_look 25 = .ok (.aload_n 0, 1) := by decide +kernel
theorem dX2_look_26 : decode cX2_look 26 = .ok (.getfield 38, 3) := by decide +kernel
theorem dX2_look_29 : decode cX2_look 29 = .ok (.aload_n 0, 1) := by decide +kernel
theorem dX2_look_30 : decode cX2_look 30 = .ok (.getfield 15, 3) := by decide +kernel
theorem dX2_look_33 : decode cX2_look 33 = .ok (.getfield 96, 3) := by decide +kernel
theorem dX2_look_36 : decode cX2_look 36 = .ok (.invokevirtual 92, 3) := by decide +kernel
theorem dX2_look_39 : decode cX2_look 39 = .ok (.aload_n 0, 1) := by decide +kernel
theorem dX2_look_40 : decode cX2_look 40 = .ok (.aload_n 0, 1) := by decide +kernel
theorem dX2_look_41 : decode cX2_look 41 = .ok (.getfield 15, 3) := by decide +kernel
theorem dX2_look_44 : decode cX2_look 44 = .ok (.getfield 96, 3) := by decide +kernel
theorem dX2_look_47 : decode cX2_look 47 = .ok (.invokevirtual 99, 3) := by decide +kernel
theorem dX2_look_50 : decode cX2_look 50 = .ok (.putfield 103, 3) := by decide +kernel
theorem dX2_look_53 : decode cX2_look 53 = .ok (.aload_n 0, 1) := by decide +kernel
theorem dX2_look_54 : decode cX2_look 54 = .ok (.aload_n 0, 1) := by decide +kernel
theorem dX2_look_55 : decode cX2_look 55 = .ok (.getfield 15, 3) := by decide +kernel
theorem dX2_look_58 : decode cX2_look 58 = .ok (.getfield 96, 3) := by decide +kernel
theorem dX2_look_61 : decode cX2_look 61 = .ok (.invokevirtual 107, 3) := by decide +kernel
theorem dX2_look_64 : decode cX2_look 64 = .ok (.putfield 110, 3) := by decide +kernel
theorem dX2_look_67 : decode cX2_look 67 = .ok (.aload_n 0, 1) := by decide +kernel
theorem dX2_look_68 : decode cX2_look 68 = .ok (.aload_n 0, 1) := by decide +kernel
theorem dX2_look_69 : decode cX2_look 69 = .ok (.getfield 103, 3) := by decide +kernel
theorem dX2_look_72 : decode cX2_look 72 = .ok (.aload_n 0, 1) := by decide +kernel
theorem dX2_look_73 : decode cX2_look 73 = .ok (.getfield 110, 3) := by decide +kernel
theorem dX2_look_76 : decode cX2_look 76 = .ok (.ldc2_w 113, 3) := by decide +kernel
theorem dX2_look_79 : decode cX2_look 79 = .ok (.lxor, 1) := by decide +kernel
theorem dX2_look_80 : decode cX2_look 80 = .ok (.land, 1) := by decide +kernel
theorem dX2_look_81 : decode cX2_look 81 = .ok (.putfield 115, 3) := by decide +kernel
theorem dX2_look_84 : decode cX2_look 84 = .ok (.aload_n 0, 1) := by decide +kernel
theorem dX2_look_85 : decode cX2_look 85 = .ok (.aload_n 0, 1) := by decide +kernel
theorem dX2_look_86 : decode cX2_look 86 = .ok (.getfield 15, 3) := by decide +kernel
theorem dX2_look_89 : decode cX2_look 89 = .ok (.getfield 118, 3) := by decide +kernel
theorem dX2_look_92 : decode cX2_look 92 = .ok (.aload_n 0, 1) := by decide +kernel
theorem dX2_look_93 : decode cX2_look 93 = .ok (.getfield 103, 3) := by decide +kernel
theorem dX2_look_96 : decode cX2_look 96 = .ok (.lor, 1) := by decide +kernel
theorem dX2_look_97 : decode cX2_look 97 = .ok (.putfield 121, 3) := by decide +kernel
theorem dX2_look_100 : decode cX2_look 100 = .ok (.return_, 1) := by decide +kernel
set_option maxRecDepth 20000 in
theorem ggX2_doCell_X0_cellsWithThree : GoodIn wsX2_doCell wsX0_cellsWithThree := goodIn_r _ [13, 14, 15, 16, 17, 18, 12, 19, 20, 21, 22, 23, 24, 77, 78, 79] (by decide +kernel) (by decide +kernel)
set_option maxRecDepth 20000 in
theorem gX2_doCell_X0_cellsWithThree : GoodIn wsX2_doCell (wsV RX2 124 RX0 yX0_cellsWithThree wsX0_cellsWithThree) := goodIn_app (goodIn_of _ (by decide +kernel)) ggX2_doCell_X0_cellsWithThree
set_option maxRecDepth 20000 in
theorem ggX2_doCell_X0_cellsWithTwo : GoodIn wsX2_doCell wsX0_cellsWithTwo := goodIn_r _ [28, 14, 15, 16, 17, 18, 12, 19, 20, 21, 22, 23, 24, 77, 78, 79] (by decide +kernel) (by decide +kernel)
set_option maxRecDepth 20000 in
theorem gX2_doCell_X0_cellsWithTwo : GoodIn wsX2_doCell (wsV RX2 107 RX0 yX0_cellsWithTwo wsX0_cellsWithTwo) := goodIn_app (goodIn_of _ (by decide +kernel)) ggX2_doCell_X0_cellsWithTwo
set_option maxRecDepth 20000 in
theorem ggX2_doCell_X5_least : GoodIn wsX2_doCell wsX5_least := goodIn_r _ [31, 32, 33, 34, 35, 36, 37, 38] (by decide +kernel) (by decide +kernel)
set_option maxRecDepth 20000 in
theorem gX2_doCell_X5_least_n130 : GoodIn wsX2_doCell (wsX5_least) := ggX2_doCell_X5_least
set_option maxRecDepth 20000 in
theorem ggX2_doCell_X2_wrongAt : GoodIn wsX2_doCell wsX2_wrongAt := goodIn_r _ [43, 44, 1, 45, 46, 47, 48, 49, 50, 51, 52, 53, 54, 55, 56, 57, 58, 59, 60, 61, 62, 63, 64, 65, 66, 67, 68, 69, 70, 71, 72, 73, 74, 75, 76, 80, 81, 82, 83, 84] (by decide +kernel) (by decide +kernel)
set_option maxRecDepth 20000 in
theorem gX2_doCell_X2_wrongAt : GoodIn wsX2_doCell (wsV RX2 134 RX2 yX2_wrongAt wsX2_wrongAt) := goodIn_app (goodIn_of _ (by decide +kernel)) ggX2_doCell_X2_wrongAt
theorem dX2_doCell_0 : decode cX2_doCell 0 = .ok (.aload_n 0, 1) := by decide +kernel
theorem dX2_doCell_1 : decode cX2_doCell 1 = .ok (.getfield 15, 3) := by decide +kernel
theorem dX2_doCell_4 : decode cX2_doCell 4 = .ok (.getfield 96, 3) := by decide +kernel
theorem dX2_doCell_7 : decode cX2_doCell 7 = .ok (.invokevirtual 124, 3) := by decide +kernel
theorem dX2_doCell_10 : decode cX2_doCell 10 = .ok (.aload_n 0, 1) := by decide +kernel
theorem dX2_doCell_11 : decode cX2_doCell 11 = .ok (.getfield 15, 3) := by decide +kernel
theorem dX2_doCell_14 : decode cX2_doCell 14 = .ok (.getfield 127, 3) := by decide +kernel
theorem dX2_doCell_17 : decode cX2_doCell 17 = .ok (.aload_n 0, 1) := by decide +kernel
theorem dX2_doCell_18 : decode cX2_doCell 18 = .ok (.getfield 103, 3) := by decide +kernel
theorem dX2_doCell_21 : decode cX2_doCell 21 = .ok (.land, 1) := by decide +kernel
theorem dX2_doCell_22 : decode cX2_doCell 22 = .ok (.lor, 1) := by decide +kernel
theorem dX2_doCell_23 : decode cX2_doCell 23 = .ok (.aload_n 0, 1) := by decide +kernel
theorem dX2_doCell_24 : decode cX2_doCell 24 = .ok (.getfield 15, 3) := by decide +kernel
theorem dX2_doCell_27 : decode cX2_doCell 27 = .ok (.getfield 118, 3) := by decide +kernel
theorem dX2_doCell_30 : decode cX2_doCell 30 = .ok (.aload_n 0, 1) := by decide +kernel
theorem dX2_doCell_31 : decode cX2_doCell 31 = .ok (.getfield 115, 3) := by decide +kernel
theorem dX2_doCell_34 : decode cX2_doCell 34 = .ok (.lor, 1) := by decide +kernel
theorem dX2_doCell_35 : decode cX2_doCell 35 = .ok (.aload_n 0, 1) := by decide +kernel
theorem dX2_doCell_36 : decode cX2_doCell 36 = .ok (.getfield 38, 3) := by decide +kernel
theorem dX2_doCell_39 : decode cX2_doCell 39 = .ok (.invokevirtual 107, 3) := by decide +kernel
theorem dX2_doCell_42 : decode cX2_doCell 42 = .ok (.ldc2_w 113, 3) := by decide +kernel
theorem dX2_doCell_45 : decode cX2_doCell 45 = .ok (.lxor, 1) := by decide +kernel
theorem dX2_doCell_46 : decode cX2_doCell 46 = .ok (.land, 1) := by decide +kernel
theorem dX2_doCell_47 : decode cX2_doCell 47 = .ok (.lor, 1) := by decide +kernel
theorem dX2_doCell_48 : decode cX2_doCell 48 = .ok (.lstore_n 1, 1) := by decide +kernel
theorem dX2_doCell_49 : decode cX2_doCell 49 = .ok (.lload_n 1, 1) := by decide +kernel
theorem dX2_doCell_50 : decode cX2_doCell 50 = .ok (.lconst 0, 1) := by decide +kernel
theorem dX2_doCell_51 : decode cX2_doCell 51 = .ok (.lcmp, 1) := by decide +kernel
theorem dX2_doCell_52 : decode cX2_doCell 52 = .ok (.ifCond .eq 19, 3) := by decide +kernel
theorem dX2_doCell_55 : decode cX2_doCell 55 = .ok (.aload_n 0, 1) := by decide +kernel
theorem dX2_doCell_56 : decode cX2_doCell 56 = .ok (.iconst 1, 1) := by decide +kernel
theorem dX2_doCell_57 : decode cX2_doCell 57 = .ok (.lload_n 1, 1) := by decide +kernel
theorem dX2_doCell_58 : decode cX2_doCell 58 = .ok (.invokestatic 130, 3) := by decide +kernel
theorem dX2_doCell_61 : decode cX2_doCell 61 = .ok (.invokevirtual 134, 3) := by decide +kernel
theorem dX2_doCell_64 : decode cX2_doCell 64 = .ok (.ifCond .eq 7, 3) := by decide +kernel
theorem dX2_doCell_67 : decode cX2_doCell 67 = .ok (.iconst 1, 1) := by decide +kernel
theorem dX2_doCell_68 : decode cX2_doCell 68 = .ok (.goto 4, 3) := by decide +kernel
theorem dX2_doCell_71 : decode cX2_doCell 71 = .ok (.iconst 0, 1) := by decide +kernel
theorem dX2_doCell_72 : decode cX2_doCell 72 = .ok (.ireturn, 1) := by decide +kernel
set_option maxRecDepth 20000 in
theorem ggX2_doFull_X0_cellsWithOne : GoodIn wsX2_doFull wsX0_cellsWithOne := goodIn_r _ [9, 10, 11, 12, 13, 14, 8, 15, 16, 17, 18, 19, 20, 118, 119, 120] (by decide +kernel) (by decide +kernel)
set_option maxRecDepth 20000 in
theorem gX2_doFull_X0_cellsWithOne : GoodIn wsX2_doFull (wsV RX2 99 RX0 yX0_cellsWithOne wsX0_cellsWithOne) := goodIn_app (goodIn_of _ (by decide +kernel)) ggX2_doFull_X0_cellsWithOne
