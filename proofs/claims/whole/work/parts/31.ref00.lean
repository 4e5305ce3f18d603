def wsX6_init_r1 : List Cond := [Cond.methodLink RX6 1 objectInit, Cond.instanceMethod objectInit, Cond.code objectInit ⟨#[0xb1]⟩ 1 none, Cond.arrayClass .int, Cond.fieldLink RX6 7 "LoopRegionsModel" "edges" "[I", Cond.fieldLink RX6 13 "LoopRegionsModel" "duties" "[I", Cond.fieldLink RX6 16 "LoopRegionsModel" "shades" "[I", Cond.fieldLink RX6 19 "LoopRegionsModel" "told" "I", Cond.fieldLink RX6 23 "LoopRegionsModel" "edgeBy" "[I", Cond.fieldLink RX6 26 "LoopRegionsModel" "shadeBy" "[I", Cond.fieldLink RX6 29 "LoopRegionsModel" "numbers" "[I", Cond.fieldLink RX6 32 "LoopRegionsModel" "places" "[I", Cond.fieldLink RX6 35 "LoopRegionsModel" "begins" "[I", Cond.fieldLink RX6 38 "LoopRegionsModel" "changes" "[I", Cond.fieldLink RX6 41 "LoopRegionsModel" "keptEdges" "[I", Cond.fieldLink RX6 44 "LoopRegionsModel" "keptDuties" "[I", Cond.fieldLink RX6 47 "LoopRegionsModel" "keptShades" "[I", Cond.fieldLink RX6 50 "LoopRegionsModel" "keptEdgeBy" "[I", Cond.fieldLink RX6 53 "LoopRegionsModel" "keptShadeBy" "[I", Cond.fieldLink RX6 56 "LoopRegionsModel" "keptTold" "[I", Cond.fieldLink RX6 59 "LoopRegionsModel" "keptSteps" "[I", Cond.arrayClass .boolean, Cond.fieldLink RX6 62 "LoopRegionsModel" "keptWrong" "[Z", Cond.fieldLink RX6 66 "LoopRegionsModel" "reached" "[Z"]
def wsX6_init_r2 : List Cond := [Cond.fieldLink RX6 69 "LoopRegionsModel" "width" "I", Cond.fieldLink RX6 72 "LoopRegionsModel" "height" "I"]
def wsX6_init : List Cond := .code yX6_init cX6_init 4 none :: ((wsX6_init_r1 ++ wsX6_init_r2) ++ wsX60)
def wsX6_thrown : List Cond := .code yX6_thrown cX6_thrown 1 (some .int) :: ([.fieldLink RX6 75 "LoopRegionsModel" "thrown" "I"] ++ wsX60)
def wsX6_fails : List Cond := .code yX6_fails cX6_fails 3 (some .boolean) :: ([.fieldLink RX6 75 "LoopRegionsModel" "thrown" "I"] ++ wsX60)
def wsX6_all : List Cond := .code yX6_all cX6_all 1 (some .int) :: ([.fieldLink RX6 69 "LoopRegionsModel" "width" "I", .fieldLink RX6 72 "LoopRegionsModel" "height" "I"] ++ wsX60)
def wsX6_isCell : List Cond := .code yX6_isCell cX6_isCell 2 (some .boolean) :: ([.methodLink RX6 78 yX6_all, .instanceMethod yX6_all, .selects RX6 yX6_all yX6_all, .initialized RX6, .code yX6_all cX6_all 1 (some .int), .fieldLink RX6 69 "LoopRegionsModel" "width" "I", .fieldLink RX6 72 "LoopRegionsModel" "height" "I"] ++ wsX60)
def wsX6_isEdge : List Cond := .code yX6_isEdge cX6_isEdge 2 (some .boolean) :: ([.fieldLink RX6 69 "LoopRegionsModel" "width" "I", .fieldLink RX6 72 "LoopRegionsModel" "height" "I", .methodLink RX6 78 yX6_all, .instanceMethod yX6_all, .selects RX6 yX6_all yX6_all, .initialized RX6, .code yX6_all cX6_all 1 (some .int)] ++ wsX60)
def wsX6_other : List Cond := .code yX6_other cX6_other 2 (some .int) :: ([.fieldLink RX6 69 "LoopRegionsModel" "width" "I"] ++ wsX60)
def wsX6_edgeOf : List Cond := .code yX6_edgeOf cX6_edgeOf 4 (some .int) :: ([.fieldLink RX6 69 "LoopRegionsModel" "width" "I", .methodLink RX6 82 yX6_isEdge, .instanceMethod yX6_isEdge, .selects RX6 yX6_isEdge yX6_isEdge, .initialized RX6, .code yX6_isEdge cX6_isEdge 2 (some .boolean), .fieldLink RX6 72 "LoopRegionsModel" "height" "I", .methodLink RX6 78 yX6_all, .instanceMethod yX6_all, .selects RX6 yX6_all yX6_all, .code yX6_all cX6_all 1 (some .int)] ++ wsX60)
def wsX6_count : List Cond := .code yX6_count cX6_count 5 (some .int) :: ([.fieldLink RX6 7 "LoopRegionsModel" "edges" "[I", .methodLink RX6 86 yX6_edgeOf, .instanceMethod yX6_edgeOf, .selects RX6 yX6_edgeOf yX6_edgeOf, .initialized RX6, .code yX6_edgeOf cX6_edgeOf 4 (some .int), .fieldLink RX6 69 "LoopRegionsModel" "width" "I", .methodLink RX6 82 yX6_isEdge, .instanceMethod yX6_isEdge, .selects RX6 yX6_isEdge yX6_isEdge, .code yX6_isEdge cX6_isEdge 2 (some .boolean), .fieldLink RX6 72 "LoopRegionsModel" "height" "I", .methodLink RX6 78 yX6_all, .instanceMethod yX6_all, .selects RX6 yX6_all yX6_all, .code yX6_all cX6_all 1 (some .int)] ++ wsX60)
def wsX6_size : List Cond := .code yX6_size cX6_size 1 (some .int) :: ([.fieldLink RX6 75 "LoopRegionsModel" "thrown" "I", .methodLink RX6 78 yX6_all, .instanceMethod yX6_all, .selects RX6 yX6_all yX6_all, .initialized RX6, .code yX6_all cX6_all 1 (some .int), .fieldLink RX6 69 "LoopRegionsModel" "width" "I", .fieldLink RX6 72 "LoopRegionsModel" "height" "I"] ++ wsX60)
def wsX6_end : List Cond := .code yX6_end cX6_end 3 (some .int) :: ([.methodLink RX6 82 yX6_isEdge, .instanceMethod yX6_isEdge, .selects RX6 yX6_isEdge yX6_isEdge, .initialized RX6, .code yX6_isEdge cX6_isEdge 2 (some .boolean), .fieldLink RX6 69 "LoopRegionsModel" "width" "I", .fieldLink RX6 72 "LoopRegionsModel" "height" "I", .methodLink RX6 78 yX6_all, .instanceMethod yX6_all, .selects RX6 yX6_all yX6_all, .code yX6_all cX6_all 1 (some .int), .methodLink RX6 90 yX6_fails, .instanceMethod yX6_fails, .selects RX6 yX6_fails yX6_fails, .code yX6_fails cX6_fails 3 (some .boolean), .fieldLink RX6 75 "LoopRegionsModel" "thrown" "I", .methodLink RX6 94 yX6_other, .instanceMethod yX6_other, .selects RX6 yX6_other yX6_other, .code yX6_other cX6_other 2 (some .int)] ++ wsX60)
def wsX6_edge : List Cond := .code yX6_edge cX6_edge 3 (some .boolean) :: ([.fieldLink RX6 7 "LoopRegionsModel" "edges" "[I", .fieldLink RX6 98 "LoopRegionsModel" "isWrong" "Z", .methodLink RX6 82 yX6_isEdge, .instanceMethod yX6_isEdge, .selects RX6 yX6_isEdge yX6_isEdge, .initialized RX6, .code yX6_isEdge cX6_isEdge 2 (some .boolean), .fieldLink RX6 69 "LoopRegionsModel" "width" "I", .fieldLink RX6 72 "LoopRegionsModel" "height" "I", .methodLink RX6 78 yX6_all, .instanceMethod yX6_all, .selects RX6 yX6_all yX6_all, .code yX6_all cX6_all 1 (some .int), .methodLink RX6 90 yX6_fails, .instanceMethod yX6_fails, .selects RX6 yX6_fails yX6_fails, .code yX6_fails cX6_fails 3 (some .boolean), .fieldLink RX6 75 "LoopRegionsModel" "thrown" "I"] ++ wsX60)
def wsX6_duty : List Cond := .code yX6_duty cX6_duty 3 (some .boolean) :: ([.fieldLink RX6 13 "LoopRegionsModel" "duties" "[I", .fieldLink RX6 98 "LoopRegionsModel" "isWrong" "Z", .methodLink RX6 102 yX6_isCell, .instanceMethod yX6_isCell, .selects RX6 yX6_isCell yX6_isCell, .initialized RX6, .code yX6_isCell cX6_isCell 2 (some .boolean), .methodLink RX6 78 yX6_all, .instanceMethod yX6_all, .selects RX6 yX6_all yX6_all, .code yX6_all cX6_all 1 (some .int), .fieldLink RX6 69 "LoopRegionsModel" "width" "I", .fieldLink RX6 72 "LoopRegionsModel" "height" "I", .methodLink RX6 90 yX6_fails, .instanceMethod yX6_fails, .selects RX6 yX6_fails yX6_fails, .code yX6_fails cX6_fails 3 (some .boolean), .fieldLink RX6 75 "LoopRegionsModel" "thrown" "I"] ++ wsX60)
def wsX6_shade : List Cond := .code yX6_shade cX6_shade 3 (some .boolean) :: ([.fieldLink RX6 16 "LoopRegionsModel" "shades" "[I", .fieldLink RX6 98 "LoopRegionsModel" "isWrong" "Z", .methodLink RX6 102 yX6_isCell, .instanceMethod yX6_isCell, .selects RX6 yX6_isCell yX6_isCell, .initialized RX6, .code yX6_isCell cX6_isCell 2 (some .boolean), .methodLink RX6 78 yX6_all, .instanceMethod yX6_all, .selects RX6 yX6_all yX6_all, .code yX6_all cX6_all 1 (some .int), .fieldLink RX6 69 "LoopRegionsModel" "width" "I", .fieldLink RX6 72 "LoopRegionsModel" "height" "I", .methodLink RX6 90 yX6_fails, .instanceMethod yX6_fails, .selects RX6 yX6_fails yX6_fails, .code yX6_fails cX6_fails 3 (some .boolean), .fieldLink RX6 75 "LoopRegionsModel" "thrown" "I"] ++ wsX60)
def wsX6_told : List Cond := .code yX6_told cX6_told 2 none :: ([.fieldLink RX6 19 "LoopRegionsModel" "told" "I", .fieldLink RX6 98 "LoopRegionsModel" "isWrong" "Z", .methodLink RX6 90 yX6_fails, .instanceMethod yX6_fails, .selects RX6 yX6_fails yX6_fails, .initialized RX6, .code yX6_fails cX6_fails 3 (some .boolean), .fieldLink RX6 75 "LoopRegionsModel" "thrown" "I"] ++ wsX60)
def wsX6_begin : List Cond := .code yX6_begin cX6_begin 3 none :: ([.fieldLink RX6 29 "LoopRegionsModel" "numbers" "[I", .fieldLink RX6 105 "LoopRegionsModel" "steps" "I", .fieldLink RX6 32 "LoopRegionsModel" "places" "[I", .fieldLink RX6 35 "LoopRegionsModel" "begins" "[I"] ++ wsX60)
def wsX6_change : List Cond := .code yX6_change cX6_change 2 none :: ([.fieldLink RX6 38 "LoopRegionsModel" "changes" "[I", .fieldLink RX6 35 "LoopRegionsModel" "begins" "[I", .fieldLink RX6 105 "LoopRegionsModel" "steps" "I"] ++ wsX60)
def wsX6_isWrongAt : List Cond := .code yX6_isWrongAt cX6_isWrongAt 3 (some .boolean) :: ([.fieldLink RX6 98 "LoopRegionsModel" "isWrong" "Z", .methodLink RX6 108 yX6_begin, .instanceMethod yX6_begin, .selects RX6 yX6_begin yX6_begin, .initialized RX6, .code yX6_begin cX6_begin 3 none, .fieldLink RX6 29 "LoopRegionsModel" "numbers" "[I", .fieldLink RX6 105 "LoopRegionsModel" "steps" "I", .fieldLink RX6 32 "LoopRegionsModel" "places" "[I", .fieldLink RX6 35 "LoopRegionsModel" "begins" "[I"] ++ wsX60)
def wsX6_set : List Cond := .code yX6_set cX6_set 3 none :: ([.fieldLink RX6 7 "LoopRegionsModel" "edges" "[I", .fieldLink RX6 23 "LoopRegionsModel" "edgeBy" "[I", .fieldLink RX6 105 "LoopRegionsModel" "steps" "I", .methodLink RX6 112 yX6_change, .instanceMethod yX6_change, .selects RX6 yX6_change yX6_change, .initialized RX6, .code yX6_change cX6_change 2 none, .fieldLink RX6 38 "LoopRegionsModel" "changes" "[I", .fieldLink RX6 35 "LoopRegionsModel" "begins" "[I"] ++ wsX60)
def wsX6_paint : List Cond := .code yX6_paint cX6_paint 3 none :: ([.fieldLink RX6 16 "LoopRegionsModel" "shades" "[I", .fieldLink RX6 26 "LoopRegionsModel" "shadeBy" "[I", .fieldLink RX6 105 "LoopRegionsModel" "steps" "I", .methodLink RX6 112 yX6_change, .instanceMethod yX6_change, .selects RX6 yX6_change yX6_change, .initialized RX6, .code yX6_change cX6_change 2 none, .fieldLink RX6 38 "LoopRegionsModel" "changes" "[I", .fieldLink RX6 35 "LoopRegionsModel" "begins" "[I"] ++ wsX60)
def wsX6_setAll_r1 : List Cond := [Cond.fieldLink RX6 7 "LoopRegionsModel" "edges" "[I", Cond.methodLink RX6 108 yX6_begin, Cond.instanceMethod yX6_begin, Cond.selects RX6 yX6_begin yX6_begin, Cond.initialized RX6, Cond.code yX6_begin cX6_begin 3 none, Cond.fieldLink RX6 29 "LoopRegionsModel" "numbers" "[I", Cond.fieldLink RX6 105 "LoopRegionsModel" "steps" "I", Cond.fieldLink RX6 32 "LoopRegionsModel" "places" "[I", Cond.fieldLink RX6 35 "LoopRegionsModel" "begins" "[I", Cond.methodLink RX6 86 yX6_edgeOf, Cond.instanceMethod yX6_edgeOf, Cond.selects RX6 yX6_edgeOf yX6_edgeOf, Cond.code yX6_edgeOf cX6_edgeOf 4 (some .int), Cond.fieldLink RX6 69 "LoopRegionsModel" "width" "I", Cond.methodLink RX6 82 yX6_isEdge, Cond.instanceMethod yX6_isEdge, Cond.selects RX6 yX6_isEdge yX6_isEdge, Cond.code yX6_isEdge cX6_isEdge 2 (some .boolean), Cond.fieldLink RX6 72 "LoopRegionsModel" "height" "I", Cond.methodLink RX6 78 yX6_all, Cond.instanceMethod yX6_all, Cond.selects RX6 yX6_all yX6_all, Cond.code yX6_all cX6_all 1 (some .int)]
def wsX6_setAll_r2 : List Cond := [Cond.methodLink RX6 116 yX6_set, Cond.instanceMethod yX6_set, Cond.selects RX6 yX6_set yX6_set, Cond.code yX6_set cX6_set 3 none, Cond.fieldLink RX6 23 "LoopRegionsModel" "edgeBy" "[I", Cond.methodLink RX6 112 yX6_change, Cond.instanceMethod yX6_change, Cond.selects RX6 yX6_change yX6_change, Cond.code yX6_change cX6_change 2 none, Cond.fieldLink RX6 38 "LoopRegionsModel" "changes" "[I"]
def wsX6_setAll : List Cond := .code yX6_setAll cX6_setAll 6 (some .boolean) :: ((wsX6_setAll_r1 ++ wsX6_setAll_r2) ++ wsX60)
def wsX6_setOne : List Cond := .code yX6_setOne cX6_setOne 5 (some .boolean) :: ([.methodLink RX6 108 yX6_begin, .instanceMethod yX6_begin, .selects RX6 yX6_begin yX6_begin, .initialized RX6, .code yX6_begin cX6_begin 3 none, .fieldLink RX6 29 "LoopRegionsModel" "numbers" "[I", .fieldLink RX6 105 "LoopRegionsModel" "steps" "I", .fieldLink RX6 32 "LoopRegionsModel" "places" "[I", .fieldLink RX6 35 "LoopRegionsModel" "begins" "[I", .methodLink RX6 116 yX6_set, .instanceMethod yX6_set, .selects RX6 yX6_set yX6_set, .code yX6_set cX6_set 3 none, .fieldLink RX6 7 "LoopRegionsModel" "edges" "[I", .fieldLink RX6 23 "LoopRegionsModel" "edgeBy" "[I", .methodLink RX6 112 yX6_change, .instanceMethod yX6_change, .selects RX6 yX6_change yX6_change, .code yX6_change cX6_change 2 none, .fieldLink RX6 38 "LoopRegionsModel" "changes" "[I"] ++ wsX60)
def wsX6_cells_r1 : List Cond := [Cond.fieldLink RX6 13 "LoopRegionsModel" "duties" "[I", Cond.methodLink RX6 78 yX6_all, Cond.instanceMethod yX6_all, Cond.selects RX6 yX6_all yX6_all, Cond.initialized RX6, Cond.code yX6_all cX6_all 1 (some .int), Cond.fieldLink RX6 69 "LoopRegionsModel" "width" "I", Cond.fieldLink RX6 72 "LoopRegionsModel" "height" "I", Cond.methodLink RX6 119 yX6_count, Cond.instanceMethod yX6_count, Cond.selects RX6 yX6_count yX6_count, Cond.code yX6_count cX6_count 5 (some .int), Cond.fieldLink RX6 7 "LoopRegionsModel" "edges" "[I", Cond.methodLink RX6 86 yX6_edgeOf, Cond.instanceMethod yX6_edgeOf, Cond.selects RX6 yX6_edgeOf yX6_edgeOf, Cond.code yX6_edgeOf cX6_edgeOf 4 (some .int), Cond.methodLink RX6 82 yX6_isEdge, Cond.instanceMethod yX6_isEdge, Cond.selects RX6 yX6_isEdge yX6_isEdge, Cond.code yX6_isEdge cX6_isEdge 2 (some .boolean), Cond.methodLink RX6 122 yX6_isWrongAt, Cond.instanceMethod yX6_isWrongAt, Cond.selects RX6 yX6_isWrongAt yX6_isWrongAt]
def wsX6_cells_r2 : List Cond := [Cond.code yX6_isWrongAt cX6_isWrongAt 3 (some .boolean), Cond.fieldLink RX6 98 "LoopRegionsModel" "isWrong" "Z", Cond.methodLink RX6 108 yX6_begin, Cond.instanceMethod yX6_begin, Cond.selects RX6 yX6_begin yX6_begin, Cond.code yX6_begin cX6_begin 3 none, Cond.fieldLink RX6 29 "LoopRegionsModel" "numbers" "[I", Cond.fieldLink RX6 105 "LoopRegionsModel" "steps" "I", Cond.fieldLink RX6 32 "LoopRegionsModel" "places" "[I", Cond.fieldLink RX6 35 "LoopRegionsModel" "begins" "[I", Cond.methodLink RX6 126 yX6_setAll, Cond.instanceMethod yX6_setAll, Cond.selects RX6 yX6_setAll yX6_setAll, Cond.code yX6_setAll cX6_setAll 6 (some .boolean), Cond.methodLink RX6 116 yX6_set, Cond.instanceMethod yX6_set, Cond.selects RX6 yX6_set yX6_set, Cond.code yX6_set cX6_set 3 none, Cond.fieldLink RX6 23 "LoopRegionsModel" "edgeBy" "[I", Cond.methodLink RX6 112 yX6_change, Cond.instanceMethod yX6_change, Cond.selects RX6 yX6_change yX6_change, Cond.code yX6_change cX6_change 2 none, Cond.fieldLink RX6 38 "LoopRegionsModel" "changes" "[I"]
def wsX6_cells : List Cond := .code yX6_cells cX6_cells 4 (some .boolean) :: ((wsX6_cells_r1 ++ wsX6_cells_r2) ++ wsX60)
def wsX6_clear : List Cond := .code yX6_clear cX6_clear 2 none :: ([.fieldLink RX6 66 "LoopRegionsModel" "reached" "[Z"] ++ wsX60)
def wsX6_spread : List Cond := .code yX6_spread cX6_spread 6 none :: ([.fieldLink RX6 66 "LoopRegionsModel" "reached" "[Z", .fieldLink RX6 7 "LoopRegionsModel" "edges" "[I", .methodLink RX6 130 yX6_clear, .instanceMethod yX6_clear, .selects RX6 yX6_clear yX6_clear, .initialized RX6, .code yX6_clear cX6_clear 2 none, .methodLink RX6 78 yX6_all, .instanceMethod yX6_all, .selects RX6 yX6_all yX6_all, .code yX6_all cX6_all 1 (some .int), .fieldLink RX6 69 "LoopRegionsModel" "width" "I", .fieldLink RX6 72 "LoopRegionsModel" "height" "I", .methodLink RX6 82 yX6_isEdge, .instanceMethod yX6_isEdge, .selects RX6 yX6_isEdge yX6_isEdge, .code yX6_isEdge cX6_isEdge 2 (some .boolean), .methodLink RX6 94 yX6_other, .instanceMethod yX6_other, .selects RX6 yX6_other yX6_other, .code yX6_other cX6_other 2 (some .int)] ++ wsX60)
def wsX6_isMore : List Cond := .code yX6_isMore cX6_isMore 2 (some .boolean) :: ([.fieldLink RX6 7 "LoopRegionsModel" "edges" "[I", .fieldLink RX6 66 "LoopRegionsModel" "reached" "[Z", .fieldLink RX6 13 "LoopRegionsModel" "duties" "[I", .methodLink RX6 78 yX6_all, .instanceMethod yX6_all, .selects RX6 yX6_all yX6_all, .initialized RX6, .code yX6_all cX6_all 1 (some .int), .fieldLink RX6 69 "LoopRegionsModel" "width" "I", .fieldLink RX6 72 "LoopRegionsModel" "height" "I", .methodLink RX6 82 yX6_isEdge, .instanceMethod yX6_isEdge, .selects RX6 yX6_isEdge yX6_isEdge, .code yX6_isEdge cX6_isEdge 2 (some .boolean)] ++ wsX60)
def wsX6_isClosed : List Cond := .code yX6_isClosed cX6_isClosed 2 (some .boolean) :: ([.fieldLink RX6 66 "LoopRegionsModel" "reached" "[Z", .methodLink RX6 78 yX6_all, .instanceMethod yX6_all, .selects RX6 yX6_all yX6_all, .initialized RX6, .code yX6_all cX6_all 1 (some .int), .fieldLink RX6 69 "LoopRegionsModel" "width" "I", .fieldLink RX6 72 "LoopRegionsModel" "height" "I", .methodLink RX6 119 yX6_count, .instanceMethod yX6_count, .selects RX6 yX6_count yX6_count, .code yX6_count cX6_count 5 (some .int), .fieldLink RX6 7 "LoopRegionsModel" "edges" "[I", .methodLink RX6 86 yX6_edgeOf, .instanceMethod yX6_edgeOf, .selects RX6 yX6_edgeOf yX6_edgeOf, .code yX6_edgeOf cX6_edgeOf 4 (some .int), .methodLink RX6 82 yX6_isEdge, .instanceMethod yX6_isEdge, .selects RX6 yX6_isEdge yX6_isEdge, .code yX6_isEdge cX6_isEdge 2 (some .boolean)] ++ wsX60)
def wsX6_loops_r1 : List Cond := [Cond.fieldLink RX6 7 "LoopRegionsModel" "edges" "[I", Cond.fieldLink RX6 66 "LoopRegionsModel" "reached" "[Z", Cond.methodLink RX6 78 yX6_all, Cond.instanceMethod yX6_all, Cond.selects RX6 yX6_all yX6_all, Cond.initialized RX6, Cond.code yX6_all cX6_all 1 (some .int), Cond.fieldLink RX6 69 "LoopRegionsModel" "width" "I", Cond.fieldLink RX6 72 "LoopRegionsModel" "height" "I", Cond.methodLink RX6 119 yX6_count, Cond.instanceMethod yX6_count, Cond.selects RX6 yX6_count yX6_count, Cond.code yX6_count cX6_count 5 (some .int), Cond.methodLink RX6 86 yX6_edgeOf, Cond.instanceMethod yX6_edgeOf, Cond.selects RX6 yX6_edgeOf yX6_edgeOf, Cond.code yX6_edgeOf cX6_edgeOf 4 (some .int), Cond.methodLink RX6 82 yX6_isEdge, Cond.instanceMethod yX6_isEdge, Cond.selects RX6 yX6_isEdge yX6_isEdge, Cond.code yX6_isEdge cX6_isEdge 2 (some .boolean), Cond.methodLink RX6 133 yX6_spread, Cond.instanceMethod yX6_spread, Cond.selects RX6 yX6_spread yX6_spread]
def wsX6_loops_r2 : List Cond := [Cond.code yX6_spread cX6_spread 6 none, Cond.methodLink RX6 130 yX6_clear, Cond.instanceMethod yX6_clear, Cond.selects RX6 yX6_clear yX6_clear, Cond.code yX6_clear cX6_clear 2 none, Cond.methodLink RX6 94 yX6_other, Cond.instanceMethod yX6_other, Cond.selects RX6 yX6_other yX6_other, Cond.code yX6_other cX6_other 2 (some .int), Cond.methodLink RX6 137 yX6_isClosed, Cond.instanceMethod yX6_isClosed, Cond.selects RX6 yX6_isClosed yX6_isClosed, Cond.code yX6_isClosed cX6_isClosed 2 (some .boolean), Cond.methodLink RX6 141 yX6_isMore, Cond.instanceMethod yX6_isMore, Cond.selects RX6 yX6_isMore yX6_isMore, Cond.code yX6_isMore cX6_isMore 2 (some .boolean), Cond.fieldLink RX6 13 "LoopRegionsModel" "duties" "[I", Cond.methodLink RX6 122 yX6_isWrongAt, Cond.instanceMethod yX6_isWrongAt, Cond.selects RX6 yX6_isWrongAt yX6_isWrongAt, Cond.code yX6_isWrongAt cX6_isWrongAt 3 (some .boolean), Cond.fieldLink RX6 98 "LoopRegionsModel" "isWrong" "Z", Cond.methodLink RX6 108 yX6_begin]
def wsX6_loops_r3 : List Cond := [Cond.instanceMethod yX6_begin, Cond.selects RX6 yX6_begin yX6_begin, Cond.code yX6_begin cX6_begin 3 none, Cond.fieldLink RX6 29 "LoopRegionsModel" "numbers" "[I", Cond.fieldLink RX6 105 "LoopRegionsModel" "steps" "I", Cond.fieldLink RX6 32 "LoopRegionsModel" "places" "[I", Cond.fieldLink RX6 35 "LoopRegionsModel" "begins" "[I", Cond.methodLink RX6 144 yX6_setOne, Cond.instanceMethod yX6_setOne, Cond.selects RX6 yX6_setOne yX6_setOne, Cond.code yX6_setOne cX6_setOne 5 (some .boolean), Cond.methodLink RX6 116 yX6_set, Cond.instanceMethod yX6_set, Cond.selects RX6 yX6_set yX6_set, Cond.code yX6_set cX6_set 3 none, Cond.fieldLink RX6 23 "LoopRegionsModel" "edgeBy" "[I", Cond.methodLink RX6 112 yX6_change, Cond.instanceMethod yX6_change, Cond.selects RX6 yX6_change yX6_change, Cond.code yX6_change cX6_change 2 none, Cond.fieldLink RX6 38 "LoopRegionsModel" "changes" "[I"]
def wsX6_loops : List Cond := .code yX6_loops cX6_loops 2 (some .boolean) :: ((wsX6_loops_r1 ++ (wsX6_loops_r2 ++ wsX6_loops_r3)) ++ wsX60)
def wsX6_borders_r1 : List Cond := [Cond.fieldLink RX6 69 "LoopRegionsModel" "width" "I", Cond.fieldLink RX6 72 "LoopRegionsModel" "height" "I", Cond.fieldLink RX6 7 "LoopRegionsModel" "edges" "[I", Cond.methodLink RX6 78 yX6_all, Cond.instanceMethod yX6_all, Cond.selects RX6 yX6_all yX6_all, Cond.initialized RX6, Cond.code yX6_all cX6_all 1 (some .int), Cond.methodLink RX6 82 yX6_isEdge, Cond.instanceMethod yX6_isEdge, Cond.selects RX6 yX6_isEdge yX6_isEdge, Cond.code yX6_isEdge cX6_isEdge 2 (some .boolean), Cond.methodLink RX6 122 yX6_isWrongAt, Cond.instanceMethod yX6_isWrongAt, Cond.selects RX6 yX6_isWrongAt yX6_isWrongAt, Cond.code yX6_isWrongAt cX6_isWrongAt 3 (some .boolean), Cond.fieldLink RX6 98 "LoopRegionsModel" "isWrong" "Z", Cond.methodLink RX6 108 yX6_begin, Cond.instanceMethod yX6_begin, Cond.selects RX6 yX6_begin yX6_begin, Cond.code yX6_begin cX6_begin 3 none, Cond.fieldLink RX6 29 "LoopRegionsModel" "numbers" "[I", Cond.fieldLink RX6 105 "LoopRegionsModel" "steps" "I", Cond.fieldLink RX6 32 "LoopRegionsModel" "places" "[I"]
def wsX6_borders_r2 : List Cond := [Cond.fieldLink RX6 35 "LoopRegionsModel" "begins" "[I", Cond.methodLink RX6 144 yX6_setOne, Cond.instanceMethod yX6_setOne, Cond.selects RX6 yX6_setOne yX6_setOne, Cond.code yX6_setOne cX6_setOne 5 (some .boolean), Cond.methodLink RX6 116 yX6_set, Cond.instanceMethod yX6_set, Cond.selects RX6 yX6_set yX6_set, Cond.code yX6_set cX6_set 3 none, Cond.fieldLink RX6 23 "LoopRegionsModel" "edgeBy" "[I", Cond.methodLink RX6 112 yX6_change, Cond.instanceMethod yX6_change, Cond.selects RX6 yX6_change yX6_change, Cond.code yX6_change cX6_change 2 none, Cond.fieldLink RX6 38 "LoopRegionsModel" "changes" "[I"]
def wsX6_borders : List Cond := .code yX6_borders cX6_borders 7 (some .boolean) :: ((wsX6_borders_r1 ++ wsX6_borders_r2) ++ wsX60)
def wsX6_bridges_r1 : List Cond := [Cond.fieldLink RX6 7 "LoopRegionsModel" "edges" "[I", Cond.fieldLink RX6 66 "LoopRegionsModel" "reached" "[Z", Cond.methodLink RX6 78 yX6_all, Cond.instanceMethod yX6_all, Cond.selects RX6 yX6_all yX6_all, Cond.initialized RX6, Cond.code yX6_all cX6_all 1 (some .int), Cond.fieldLink RX6 69 "LoopRegionsModel" "width" "I", Cond.fieldLink RX6 72 "LoopRegionsModel" "height" "I", Cond.methodLink RX6 82 yX6_isEdge, Cond.instanceMethod yX6_isEdge, Cond.selects RX6 yX6_isEdge yX6_isEdge, Cond.code yX6_isEdge cX6_isEdge 2 (some .boolean), Cond.methodLink RX6 133 yX6_spread, Cond.instanceMethod yX6_spread, Cond.selects RX6 yX6_spread yX6_spread, Cond.code yX6_spread cX6_spread 6 none, Cond.methodLink RX6 130 yX6_clear, Cond.instanceMethod yX6_clear, Cond.selects RX6 yX6_clear yX6_clear, Cond.code yX6_clear cX6_clear 2 none, Cond.methodLink RX6 94 yX6_other, Cond.instanceMethod yX6_other, Cond.selects RX6 yX6_other yX6_other]
def wsX6_bridges_r2 : List Cond := [Cond.code yX6_other cX6_other 2 (some .int), Cond.methodLink RX6 122 yX6_isWrongAt, Cond.instanceMethod yX6_isWrongAt, Cond.selects RX6 yX6_isWrongAt yX6_isWrongAt, Cond.code yX6_isWrongAt cX6_isWrongAt 3 (some .boolean), Cond.fieldLink RX6 98 "LoopRegionsModel" "isWrong" "Z", Cond.methodLink RX6 108 yX6_begin, Cond.instanceMethod yX6_begin, Cond.selects RX6 yX6_begin yX6_begin, Cond.code yX6_begin cX6_begin 3 none, Cond.fieldLink RX6 29 "LoopRegionsModel" "numbers" "[I", Cond.fieldLink RX6 105 "LoopRegionsModel" "steps" "I", Cond.fieldLink RX6 32 "LoopRegionsModel" "places" "[I", Cond.fieldLink RX6 35 "LoopRegionsModel" "begins" "[I", Cond.methodLink RX6 144 yX6_setOne, Cond.instanceMethod yX6_setOne, Cond.selects RX6 yX6_setOne yX6_setOne, Cond.code yX6_setOne cX6_setOne 5 (some .boolean), Cond.methodLink RX6 116 yX6_set, Cond.instanceMethod yX6_set, Cond.selects RX6 yX6_set yX6_set, Cond.code yX6_set cX6_set 3 none, Cond.fieldLink RX6 23 "LoopRegionsModel" "edgeBy" "[I", Cond.methodLink RX6 112 yX6_change]
def wsX6_bridges_r3 : List Cond := [Cond.instanceMethod yX6_change, Cond.selects RX6 yX6_change yX6_change, Cond.code yX6_change cX6_change 2 none, Cond.fieldLink RX6 38 "LoopRegionsModel" "changes" "[I"]
def wsX6_bridges : List Cond := .code yX6_bridges cX6_bridges 2 (some .boolean) :: ((wsX6_bridges_r1 ++ (wsX6_bridges_r2 ++ wsX6_bridges_r3)) ++ wsX60)
def wsX6_needs : List Cond := .code yX6_needs cX6_needs 2 (some .boolean) :: ([.fieldLink RX6 13 "LoopRegionsModel" "duties" "[I", .methodLink RX6 119 yX6_count, .instanceMethod yX6_count, .selects RX6 yX6_count yX6_count, .initialized RX6, .code yX6_count cX6_count 5 (some .int), .fieldLink RX6 7 "LoopRegionsModel" "edges" "[I", .methodLink RX6 86 yX6_edgeOf, .instanceMethod yX6_edgeOf, .selects RX6 yX6_edgeOf yX6_edgeOf, .code yX6_edgeOf cX6_edgeOf 4 (some .int), .fieldLink RX6 69 "LoopRegionsModel" "width" "I", .methodLink RX6 82 yX6_isEdge, .instanceMethod yX6_isEdge, .selects RX6 yX6_isEdge yX6_isEdge, .code yX6_isEdge cX6_isEdge 2 (some .boolean), .fieldLink RX6 72 "LoopRegionsModel" "height" "I", .methodLink RX6 78 yX6_all, .instanceMethod yX6_all, .selects RX6 yX6_all yX6_all, .code yX6_all cX6_all 1 (some .int)] ++ wsX60)
def wsX6_apart_r1 : List Cond := [Cond.fieldLink RX6 66 "LoopRegionsModel" "reached" "[Z", Cond.fieldLink RX6 7 "LoopRegionsModel" "edges" "[I", Cond.methodLink RX6 78 yX6_all, Cond.instanceMethod yX6_all, Cond.selects RX6 yX6_all yX6_all, Cond.initialized RX6, Cond.code yX6_all cX6_all 1 (some .int), Cond.fieldLink RX6 69 "LoopRegionsModel" "width" "I", Cond.fieldLink RX6 72 "LoopRegionsModel" "height" "I", Cond.methodLink RX6 148 yX6_needs, Cond.instanceMethod yX6_needs, Cond.selects RX6 yX6_needs yX6_needs, Cond.code yX6_needs cX6_needs 2 (some .boolean), Cond.fieldLink RX6 13 "LoopRegionsModel" "duties" "[I", Cond.methodLink RX6 119 yX6_count, Cond.instanceMethod yX6_count, Cond.selects RX6 yX6_count yX6_count, Cond.code yX6_count cX6_count 5 (some .int), Cond.methodLink RX6 86 yX6_edgeOf, Cond.instanceMethod yX6_edgeOf, Cond.selects RX6 yX6_edgeOf yX6_edgeOf, Cond.code yX6_edgeOf cX6_edgeOf 4 (some .int), Cond.methodLink RX6 82 yX6_isEdge, Cond.instanceMethod yX6_isEdge]
def wsX6_apart_r2 : List Cond := [Cond.selects RX6 yX6_isEdge yX6_isEdge, Cond.code yX6_isEdge cX6_isEdge 2 (some .boolean), Cond.methodLink RX6 133 yX6_spread, Cond.instanceMethod yX6_spread, Cond.selects RX6 yX6_spread yX6_spread, Cond.code yX6_spread cX6_spread 6 none, Cond.methodLink RX6 130 yX6_clear, Cond.instanceMethod yX6_clear, Cond.selects RX6 yX6_clear yX6_clear, Cond.code yX6_clear cX6_clear 2 none, Cond.methodLink RX6 94 yX6_other, Cond.instanceMethod yX6_other, Cond.selects RX6 yX6_other yX6_other, Cond.code yX6_other cX6_other 2 (some .int), Cond.methodLink RX6 122 yX6_isWrongAt, Cond.instanceMethod yX6_isWrongAt, Cond.selects RX6 yX6_isWrongAt yX6_isWrongAt, Cond.code yX6_isWrongAt cX6_isWrongAt 3 (some .boolean), Cond.fieldLink RX6 98 "LoopRegionsModel" "isWrong" "Z", Cond.methodLink RX6 108 yX6_begin, Cond.instanceMethod yX6_begin, Cond.selects RX6 yX6_begin yX6_begin, Cond.code yX6_begin cX6_begin 3 none, Cond.fieldLink RX6 29 "LoopRegionsModel" "numbers" "[I"]
def wsX6_apart_r3 : List Cond := [Cond.fieldLink RX6 105 "LoopRegionsModel" "steps" "I", Cond.fieldLink RX6 32 "LoopRegionsModel" "places" "[I", Cond.fieldLink RX6 35 "LoopRegionsModel" "begins" "[I", Cond.methodLink RX6 144 yX6_setOne, Cond.instanceMethod yX6_setOne, Cond.selects RX6 yX6_setOne yX6_setOne, Cond.code yX6_setOne cX6_setOne 5 (some .boolean), Cond.methodLink RX6 116 yX6_set, Cond.instanceMethod yX6_set, Cond.selects RX6 yX6_set yX6_set, Cond.code yX6_set cX6_set 3 none, Cond.fieldLink RX6 23 "LoopRegionsModel" "edgeBy" "[I", Cond.methodLink RX6 112 yX6_change, Cond.instanceMethod yX6_change, Cond.selects RX6 yX6_change yX6_change, Cond.code yX6_change cX6_change 2 none, Cond.fieldLink RX6 38 "LoopRegionsModel" "changes" "[I"]
def wsX6_apart : List Cond := .code yX6_apart cX6_apart 3 (some .boolean) :: ((wsX6_apart_r1 ++ (wsX6_apart_r2 ++ wsX6_apart_r3)) ++ wsX60)
def wsX6_painted : List Cond := .code yX6_painted cX6_painted 4 (some .int) :: ([.fieldLink RX6 16 "LoopRegionsModel" "shades" "[I", .methodLink RX6 78 yX6_all, .instanceMethod yX6_all, .selects RX6 yX6_all yX6_all, .initialized RX6, .code yX6_all cX6_all 1 (some .int), .fieldLink RX6 69 "LoopRegionsModel" "width" "I", .fieldLink RX6 72 "LoopRegionsModel" "height" "I"] ++ wsX60)
def wsX6_many_r1 : List Cond := [Cond.fieldLink RX6 19 "LoopRegionsModel" "told" "I", Cond.fieldLink RX6 16 "LoopRegionsModel" "shades" "[I", Cond.methodLink RX6 151 yX6_painted, Cond.instanceMethod yX6_painted, Cond.selects RX6 yX6_painted yX6_painted, Cond.initialized RX6, Cond.code yX6_painted cX6_painted 4 (some .int), Cond.methodLink RX6 78 yX6_all, Cond.instanceMethod yX6_all, Cond.selects RX6 yX6_all yX6_all, Cond.code yX6_all cX6_all 1 (some .int), Cond.fieldLink RX6 69 "LoopRegionsModel" "width" "I", Cond.fieldLink RX6 72 "LoopRegionsModel" "height" "I", Cond.methodLink RX6 122 yX6_isWrongAt, Cond.instanceMethod yX6_isWrongAt, Cond.selects RX6 yX6_isWrongAt yX6_isWrongAt, Cond.code yX6_isWrongAt cX6_isWrongAt 3 (some .boolean), Cond.fieldLink RX6 98 "LoopRegionsModel" "isWrong" "Z", Cond.methodLink RX6 108 yX6_begin, Cond.instanceMethod yX6_begin, Cond.selects RX6 yX6_begin yX6_begin, Cond.code yX6_begin cX6_begin 3 none, Cond.fieldLink RX6 29 "LoopRegionsModel" "numbers" "[I", Cond.fieldLink RX6 105 "LoopRegionsModel" "steps" "I"]
def wsX6_many_r2 : List Cond := [Cond.fieldLink RX6 32 "LoopRegionsModel" "places" "[I", Cond.fieldLink RX6 35 "LoopRegionsModel" "begins" "[I", Cond.methodLink RX6 154 yX6_paint, Cond.instanceMethod yX6_paint, Cond.selects RX6 yX6_paint yX6_paint, Cond.code yX6_paint cX6_paint 3 none, Cond.fieldLink RX6 26 "LoopRegionsModel" "shadeBy" "[I", Cond.methodLink RX6 112 yX6_change, Cond.instanceMethod yX6_change, Cond.selects RX6 yX6_change yX6_change, Cond.code yX6_change cX6_change 2 none, Cond.fieldLink RX6 38 "LoopRegionsModel" "changes" "[I"]
def wsX6_many : List Cond := .code yX6_many cX6_many 4 (some .boolean) :: ((wsX6_many_r1 ++ wsX6_many_r2) ++ wsX60)
def wsX6_spreadShades : List Cond := .code yX6_spreadShades cX6_spreadShades 6 none :: ([.fieldLink RX6 66 "LoopRegionsModel" "reached" "[Z", .fieldLink RX6 16 "LoopRegionsModel" "shades" "[I", .methodLink RX6 130 yX6_clear, .instanceMethod yX6_clear, .selects RX6 yX6_clear yX6_clear, .initialized RX6, .code yX6_clear cX6_clear 2 none, .methodLink RX6 78 yX6_all, .instanceMethod yX6_all, .selects RX6 yX6_all yX6_all, .code yX6_all cX6_all 1 (some .int), .fieldLink RX6 69 "LoopRegionsModel" "width" "I", .fieldLink RX6 72 "LoopRegionsModel" "height" "I", .methodLink RX6 82 yX6_isEdge, .instanceMethod yX6_isEdge, .selects RX6 yX6_isEdge yX6_isEdge, .code yX6_isEdge cX6_isEdge 2 (some .boolean), .methodLink RX6 94 yX6_other, .instanceMethod yX6_other, .selects RX6 yX6_other yX6_other, .code yX6_other cX6_other 2 (some .int)] ++ wsX60)
def wsX6_firstBlack : List Cond := .code yX6_firstBlack cX6_firstBlack 2 (some .int) :: ([.fieldLink RX6 16 "LoopRegionsModel" "shades" "[I", .methodLink RX6 78 yX6_all, .instanceMethod yX6_all, .selects RX6 yX6_all yX6_all, .initialized RX6, .code yX6_all cX6_all 1 (some .int), .fieldLink RX6 69 "LoopRegionsModel" "width" "I", .fieldLink RX6 72 "LoopRegionsModel" "height" "I"] ++ wsX60)
def wsX6_paintOne : List Cond := .code yX6_paintOne cX6_paintOne 4 (some .boolean) :: ([.methodLink RX6 108 yX6_begin, .instanceMethod yX6_begin, .selects RX6 yX6_begin yX6_begin, .initialized RX6, .code yX6_begin cX6_begin 3 none, .fieldLink RX6 29 "LoopRegionsModel" "numbers" "[I", .fieldLink RX6 105 "LoopRegionsModel" "steps" "I", .fieldLink RX6 32 "LoopRegionsModel" "places" "[I", .fieldLink RX6 35 "LoopRegionsModel" "begins" "[I", .methodLink RX6 154 yX6_paint, .instanceMethod yX6_paint, .selects RX6 yX6_paint yX6_paint, .code yX6_paint cX6_paint 3 none, .fieldLink RX6 16 "LoopRegionsModel" "shades" "[I", .fieldLink RX6 26 "LoopRegionsModel" "shadeBy" "[I", .methodLink RX6 112 yX6_change, .instanceMethod yX6_change, .selects RX6 yX6_change yX6_change, .code yX6_change cX6_change 2 none, .fieldLink RX6 38 "LoopRegionsModel" "changes" "[I"] ++ wsX60)
def wsX6_shadeParts_r1 : List Cond := [Cond.fieldLink RX6 16 "LoopRegionsModel" "shades" "[I", Cond.fieldLink RX6 66 "LoopRegionsModel" "reached" "[Z", Cond.methodLink RX6 157 yX6_firstBlack, Cond.instanceMethod yX6_firstBlack, Cond.selects RX6 yX6_firstBlack yX6_firstBlack, Cond.initialized RX6, Cond.code yX6_firstBlack cX6_firstBlack 2 (some .int), Cond.methodLink RX6 78 yX6_all, Cond.instanceMethod yX6_all, Cond.selects RX6 yX6_all yX6_all, Cond.code yX6_all cX6_all 1 (some .int), Cond.fieldLink RX6 69 "LoopRegionsModel" "width" "I", Cond.fieldLink RX6 72 "LoopRegionsModel" "height" "I", Cond.methodLink RX6 160 yX6_spreadShades, Cond.instanceMethod yX6_spreadShades, Cond.selects RX6 yX6_spreadShades yX6_spreadShades, Cond.code yX6_spreadShades cX6_spreadShades 6 none, Cond.methodLink RX6 130 yX6_clear, Cond.instanceMethod yX6_clear, Cond.selects RX6 yX6_clear yX6_clear, Cond.code yX6_clear cX6_clear 2 none, Cond.methodLink RX6 82 yX6_isEdge, Cond.instanceMethod yX6_isEdge, Cond.selects RX6 yX6_isEdge yX6_isEdge]
def wsX6_shadeParts_r2 : List Cond := [Cond.code yX6_isEdge cX6_isEdge 2 (some .boolean), Cond.methodLink RX6 94 yX6_other, Cond.instanceMethod yX6_other, Cond.selects RX6 yX6_other yX6_other, Cond.code yX6_other cX6_other 2 (some .int), Cond.methodLink RX6 122 yX6_isWrongAt, Cond.instanceMethod yX6_isWrongAt, Cond.selects RX6 yX6_isWrongAt yX6_isWrongAt, Cond.code yX6_isWrongAt cX6_isWrongAt 3 (some .boolean), Cond.fieldLink RX6 98 "LoopRegionsModel" "isWrong" "Z", Cond.methodLink RX6 108 yX6_begin, Cond.instanceMethod yX6_begin, Cond.selects RX6 yX6_begin yX6_begin, Cond.code yX6_begin cX6_begin 3 none, Cond.fieldLink RX6 29 "LoopRegionsModel" "numbers" "[I", Cond.fieldLink RX6 105 "LoopRegionsModel" "steps" "I", Cond.fieldLink RX6 32 "LoopRegionsModel" "places" "[I", Cond.fieldLink RX6 35 "LoopRegionsModel" "begins" "[I", Cond.methodLink RX6 163 yX6_paintOne, Cond.instanceMethod yX6_paintOne, Cond.selects RX6 yX6_paintOne yX6_paintOne, Cond.code yX6_paintOne cX6_paintOne 4 (some .boolean), Cond.methodLink RX6 154 yX6_paint, Cond.instanceMethod yX6_paint]
def wsX6_shadeParts_r3 : List Cond := [Cond.selects RX6 yX6_paint yX6_paint, Cond.code yX6_paint cX6_paint 3 none, Cond.fieldLink RX6 26 "LoopRegionsModel" "shadeBy" "[I", Cond.methodLink RX6 112 yX6_change, Cond.instanceMethod yX6_change, Cond.selects RX6 yX6_change yX6_change, Cond.code yX6_change cX6_change 2 none, Cond.fieldLink RX6 38 "LoopRegionsModel" "changes" "[I"]
def wsX6_shadeParts : List Cond := .code yX6_shadeParts cX6_shadeParts 4 (some .boolean) :: ((wsX6_shadeParts_r1 ++ (wsX6_shadeParts_r2 ++ wsX6_shadeParts_r3)) ++ wsX60)
def wsX6_next_r1 : List Cond := [Cond.methodLink RX6 166 yX6_cells, Cond.instanceMethod yX6_cells, Cond.selects RX6 yX6_cells yX6_cells, Cond.initialized RX6, Cond.code yX6_cells cX6_cells 4 (some .boolean), Cond.fieldLink RX6 13 "LoopRegionsModel" "duties" "[I", Cond.methodLink RX6 78 yX6_all, Cond.instanceMethod yX6_all, Cond.selects RX6 yX6_all yX6_all, Cond.code yX6_all cX6_all 1 (some .int), Cond.fieldLink RX6 69 "LoopRegionsModel" "width" "I", Cond.fieldLink RX6 72 "LoopRegionsModel" "height" "I", Cond.methodLink RX6 119 yX6_count, Cond.instanceMethod yX6_count, Cond.selects RX6 yX6_count yX6_count, Cond.code yX6_count cX6_count 5 (some .int), Cond.fieldLink RX6 7 "LoopRegionsModel" "edges" "[I", Cond.methodLink RX6 86 yX6_edgeOf, Cond.instanceMethod yX6_edgeOf, Cond.selects RX6 yX6_edgeOf yX6_edgeOf, Cond.code yX6_edgeOf cX6_edgeOf 4 (some .int), Cond.methodLink RX6 82 yX6_isEdge, Cond.instanceMethod yX6_isEdge, Cond.selects RX6 yX6_isEdge yX6_isEdge]
def wsX6_next_r2 : List Cond := [Cond.code yX6_isEdge cX6_isEdge 2 (some .boolean), Cond.methodLink RX6 122 yX6_isWrongAt, Cond.instanceMethod yX6_isWrongAt, Cond.selects RX6 yX6_isWrongAt yX6_isWrongAt, Cond.code yX6_isWrongAt cX6_isWrongAt 3 (some .boolean), Cond.fieldLink RX6 98 "LoopRegionsModel" "isWrong" "Z", Cond.methodLink RX6 108 yX6_begin, Cond.instanceMethod yX6_begin, Cond.selects RX6 yX6_begin yX6_begin, Cond.code yX6_begin cX6_begin 3 none, Cond.fieldLink RX6 29 "LoopRegionsModel" "numbers" "[I", Cond.fieldLink RX6 105 "LoopRegionsModel" "steps" "I", Cond.fieldLink RX6 32 "LoopRegionsModel" "places" "[I", Cond.fieldLink RX6 35 "LoopRegionsModel" "begins" "[I", Cond.methodLink RX6 126 yX6_setAll, Cond.instanceMethod yX6_setAll, Cond.selects RX6 yX6_setAll yX6_setAll, Cond.code yX6_setAll cX6_setAll 6 (some .boolean), Cond.methodLink RX6 116 yX6_set, Cond.instanceMethod yX6_set, Cond.selects RX6 yX6_set yX6_set, Cond.code yX6_set cX6_set 3 none, Cond.fieldLink RX6 23 "LoopRegionsModel" "edgeBy" "[I", Cond.methodLink RX6 112 yX6_change]
def wsX6_next_r3 : List Cond := [Cond.instanceMethod yX6_change, Cond.selects RX6 yX6_change yX6_change, Cond.code yX6_change cX6_change 2 none, Cond.fieldLink RX6 38 "LoopRegionsModel" "changes" "[I", Cond.methodLink RX6 169 yX6_loops, Cond.instanceMethod yX6_loops, Cond.selects RX6 yX6_loops yX6_loops, Cond.code yX6_loops cX6_loops 2 (some .boolean), Cond.fieldLink RX6 66 "LoopRegionsModel" "reached" "[Z", Cond.methodLink RX6 133 yX6_spread, Cond.instanceMethod yX6_spread, Cond.selects RX6 yX6_spread yX6_spread, Cond.code yX6_spread cX6_spread 6 none, Cond.methodLink RX6 130 yX6_clear, Cond.instanceMethod yX6_clear, Cond.selects RX6 yX6_clear yX6_clear, Cond.code yX6_clear cX6_clear 2 none, Cond.methodLink RX6 94 yX6_other, Cond.instanceMethod yX6_other, Cond.selects RX6 yX6_other yX6_other, Cond.code yX6_other cX6_other 2 (some .int), Cond.methodLink RX6 137 yX6_isClosed, Cond.instanceMethod yX6_isClosed, Cond.selects RX6 yX6_isClosed yX6_isClosed]
def wsX6_next_r4 : List Cond := [Cond.code yX6_isClosed cX6_isClosed 2 (some .boolean), Cond.methodLink RX6 141 yX6_isMore, Cond.instanceMethod yX6_isMore, Cond.selects RX6 yX6_isMore yX6_isMore, Cond.code yX6_isMore cX6_isMore 2 (some .boolean), Cond.methodLink RX6 144 yX6_setOne, Cond.instanceMethod yX6_setOne, Cond.selects RX6 yX6_setOne yX6_setOne, Cond.code yX6_setOne cX6_setOne 5 (some .boolean), Cond.methodLink RX6 172 yX6_borders, Cond.instanceMethod yX6_borders, Cond.selects RX6 yX6_borders yX6_borders, Cond.code yX6_borders cX6_borders 7 (some .boolean), Cond.methodLink RX6 175 yX6_bridges, Cond.instanceMethod yX6_bridges, Cond.selects RX6 yX6_bridges yX6_bridges, Cond.code yX6_bridges cX6_bridges 2 (some .boolean), Cond.methodLink RX6 178 yX6_apart, Cond.instanceMethod yX6_apart, Cond.selects RX6 yX6_apart yX6_apart, Cond.code yX6_apart cX6_apart 3 (some .boolean), Cond.methodLink RX6 148 yX6_needs, Cond.instanceMethod yX6_needs, Cond.selects RX6 yX6_needs yX6_needs]
def wsX6_next_r5 : List Cond := [Cond.code yX6_needs cX6_needs 2 (some .boolean), Cond.methodLink RX6 181 yX6_many, Cond.instanceMethod yX6_many, Cond.selects RX6 yX6_many yX6_many, Cond.code yX6_many cX6_many 4 (some .boolean), Cond.fieldLink RX6 19 "LoopRegionsModel" "told" "I", Cond.fieldLink RX6 16 "LoopRegionsModel" "shades" "[I", Cond.methodLink RX6 151 yX6_painted, Cond.instanceMethod yX6_painted, Cond.selects RX6 yX6_painted yX6_painted, Cond.code yX6_painted cX6_painted 4 (some .int), Cond.methodLink RX6 154 yX6_paint, Cond.instanceMethod yX6_paint, Cond.selects RX6 yX6_paint yX6_paint, Cond.code yX6_paint cX6_paint 3 none, Cond.fieldLink RX6 26 "LoopRegionsModel" "shadeBy" "[I", Cond.methodLink RX6 184 yX6_shadeParts, Cond.instanceMethod yX6_shadeParts, Cond.selects RX6 yX6_shadeParts yX6_shadeParts, Cond.code yX6_shadeParts cX6_shadeParts 4 (some .boolean), Cond.methodLink RX6 157 yX6_firstBlack, Cond.instanceMethod yX6_firstBlack, Cond.selects RX6 yX6_firstBlack yX6_firstBlack, Cond.code yX6_firstBlack cX6_firstBlack 2 (some .int)]
def wsX6_next_r6 : List Cond := [Cond.methodLink RX6 160 yX6_spreadShades, Cond.instanceMethod yX6_spreadShades, Cond.selects RX6 yX6_spreadShades yX6_spreadShades, Cond.code yX6_spreadShades cX6_spreadShades 6 none, Cond.methodLink RX6 163 yX6_paintOne, Cond.instanceMethod yX6_paintOne, Cond.selects RX6 yX6_paintOne yX6_paintOne, Cond.code yX6_paintOne cX6_paintOne 4 (some .boolean)]
def wsX6_next : List Cond := .code yX6_next cX6_next 1 (some .boolean) :: ((wsX6_next_r1 ++ (wsX6_next_r2 ++ (wsX6_next_r3 ++ (wsX6_next_r4 ++ (wsX6_next_r5 ++ wsX6_next_r6))))) ++ wsX60)
def wsX6_run_r1 : List Cond := [Cond.fieldLink RX6 75 "LoopRegionsModel" "thrown" "I", Cond.fieldLink RX6 105 "LoopRegionsModel" "steps" "I", Cond.fieldLink RX6 98 "LoopRegionsModel" "isWrong" "Z", Cond.methodLink RX6 187 yX6_next, Cond.instanceMethod yX6_next, Cond.selects RX6 yX6_next yX6_next, Cond.initialized RX6, Cond.code yX6_next cX6_next 1 (some .boolean), Cond.methodLink RX6 166 yX6_cells, Cond.instanceMethod yX6_cells, Cond.selects RX6 yX6_cells yX6_cells, Cond.code yX6_cells cX6_cells 4 (some .boolean), Cond.fieldLink RX6 13 "LoopRegionsModel" "duties" "[I", Cond.methodLink RX6 78 yX6_all, Cond.instanceMethod yX6_all, Cond.selects RX6 yX6_all yX6_all, Cond.code yX6_all cX6_all 1 (some .int), Cond.fieldLink RX6 69 "LoopRegionsModel" "width" "I", Cond.fieldLink RX6 72 "LoopRegionsModel" "height" "I", Cond.methodLink RX6 119 yX6_count, Cond.instanceMethod yX6_count, Cond.selects RX6 yX6_count yX6_count, Cond.code yX6_count cX6_count 5 (some .int), Cond.fieldLink RX6 7 "LoopRegionsModel" "edges" "[I"]
def wsX6_run_r2 : List Cond := [Cond.methodLink RX6 86 yX6_edgeOf, Cond.instanceMethod yX6_edgeOf, Cond.selects RX6 yX6_edgeOf yX6_edgeOf, Cond.code yX6_edgeOf cX6_edgeOf 4 (some .int), Cond.methodLink RX6 82 yX6_isEdge, Cond.instanceMethod yX6_isEdge, Cond.selects RX6 yX6_isEdge yX6_isEdge, Cond.code yX6_isEdge cX6_isEdge 2 (some .boolean), Cond.methodLink RX6 122 yX6_isWrongAt, Cond.instanceMethod yX6_isWrongAt, Cond.selects RX6 yX6_isWrongAt yX6_isWrongAt, Cond.code yX6_isWrongAt cX6_isWrongAt 3 (some .boolean), Cond.methodLink RX6 108 yX6_begin, Cond.instanceMethod yX6_begin, Cond.selects RX6 yX6_begin yX6_begin, Cond.code yX6_begin cX6_begin 3 none, Cond.fieldLink RX6 29 "LoopRegionsModel" "numbers" "[I", Cond.fieldLink RX6 32 "LoopRegionsModel" "places" "[I", Cond.fieldLink RX6 35 "LoopRegionsModel" "begins" "[I", Cond.methodLink RX6 126 yX6_setAll, Cond.instanceMethod yX6_setAll, Cond.selects RX6 yX6_setAll yX6_setAll, Cond.code yX6_setAll cX6_setAll 6 (some .boolean), Cond.methodLink RX6 116 yX6_set]
def wsX6_run_r3 : List Cond := [Cond.instanceMethod yX6_set, Cond.selects RX6 yX6_set yX6_set, Cond.code yX6_set cX6_set 3 none, Cond.fieldLink RX6 23 "LoopRegionsModel" "edgeBy" "[I", Cond.methodLink RX6 112 yX6_change, Cond.instanceMethod yX6_change, Cond.selects RX6 yX6_change yX6_change, Cond.code yX6_change cX6_change 2 none, Cond.fieldLink RX6 38 "LoopRegionsModel" "changes" "[I", Cond.methodLink RX6 169 yX6_loops, Cond.instanceMethod yX6_loops, Cond.selects RX6 yX6_loops yX6_loops, Cond.code yX6_loops cX6_loops 2 (some .boolean), Cond.fieldLink RX6 66 "LoopRegionsModel" "reached" "[Z", Cond.methodLink RX6 133 yX6_spread, Cond.instanceMethod yX6_spread, Cond.selects RX6 yX6_spread yX6_spread, Cond.code yX6_spread cX6_spread 6 none, Cond.methodLink RX6 130 yX6_clear, Cond.instanceMethod yX6_clear, Cond.selects RX6 yX6_clear yX6_clear, Cond.code yX6_clear cX6_clear 2 none, Cond.methodLink RX6 94 yX6_other, Cond.instanceMethod yX6_other]
def wsX6_run_r4 : List Cond := [Cond.selects RX6 yX6_other yX6_other, Cond.code yX6_other cX6_other 2 (some .int), Cond.methodLink RX6 137 yX6_isClosed, Cond.instanceMethod yX6_isClosed, Cond.selects RX6 yX6_isClosed yX6_isClosed, Cond.code yX6_isClosed cX6_isClosed 2 (some .boolean), Cond.methodLink RX6 141 yX6_isMore, Cond.instanceMethod yX6_isMore, Cond.selects RX6 yX6_isMore yX6_isMore, Cond.code yX6_isMore cX6_isMore 2 (some .boolean), Cond.methodLink RX6 144 yX6_setOne, Cond.instanceMethod yX6_setOne, Cond.selects RX6 yX6_setOne yX6_setOne, Cond.code yX6_setOne cX6_setOne 5 (some .boolean), Cond.methodLink RX6 172 yX6_borders, Cond.instanceMethod yX6_borders, Cond.selects RX6 yX6_borders yX6_borders, Cond.code yX6_borders cX6_borders 7 (some .boolean), Cond.methodLink RX6 175 yX6_bridges, Cond.instanceMethod yX6_bridges, Cond.selects RX6 yX6_bridges yX6_bridges, Cond.code yX6_bridges cX6_bridges 2 (some .boolean), Cond.methodLink RX6 178 yX6_apart, Cond.instanceMethod yX6_apart]
def wsX6_run_r5 : List Cond := [Cond.selects RX6 yX6_apart yX6_apart, Cond.code yX6_apart cX6_apart 3 (some .boolean), Cond.methodLink RX6 148 yX6_needs, Cond.instanceMethod yX6_needs, Cond.selects RX6 yX6_needs yX6_needs, Cond.code yX6_needs cX6_needs 2 (some .boolean), Cond.methodLink RX6 181 yX6_many, Cond.instanceMethod yX6_many, Cond.selects RX6 yX6_many yX6_many, Cond.code yX6_many cX6_many 4 (some .boolean), Cond.fieldLink RX6 19 "LoopRegionsModel" "told" "I", Cond.fieldLink RX6 16 "LoopRegionsModel" "shades" "[I", Cond.methodLink RX6 151 yX6_painted, Cond.instanceMethod yX6_painted, Cond.selects RX6 yX6_painted yX6_painted, Cond.code yX6_painted cX6_painted 4 (some .int), Cond.methodLink RX6 154 yX6_paint, Cond.instanceMethod yX6_paint, Cond.selects RX6 yX6_paint yX6_paint, Cond.code yX6_paint cX6_paint 3 none, Cond.fieldLink RX6 26 "LoopRegionsModel" "shadeBy" "[I", Cond.methodLink RX6 184 yX6_shadeParts, Cond.instanceMethod yX6_shadeParts, Cond.selects RX6 yX6_shadeParts yX6_shadeParts]
def wsX6_run_r6 : List Cond := [Cond.code yX6_shadeParts cX6_shadeParts 4 (some .boolean), Cond.methodLink RX6 157 yX6_firstBlack, Cond.instanceMethod yX6_firstBlack, Cond.selects RX6 yX6_firstBlack yX6_firstBlack, Cond.code yX6_firstBlack cX6_firstBlack 2 (some .int), Cond.methodLink RX6 160 yX6_spreadShades, Cond.instanceMethod yX6_spreadShades, Cond.selects RX6 yX6_spreadShades yX6_spreadShades, Cond.code yX6_spreadShades cX6_spreadShades 6 none, Cond.methodLink RX6 163 yX6_paintOne, Cond.instanceMethod yX6_paintOne, Cond.selects RX6 yX6_paintOne yX6_paintOne, Cond.code yX6_paintOne cX6_paintOne 4 (some .boolean)]
def wsX6_run : List Cond := .code yX6_run cX6_run 3 (some .int) :: ((wsX6_run_r1 ++ (wsX6_run_r2 ++ (wsX6_run_r3 ++ (wsX6_run_r4 ++ (wsX6_run_r5 ++ wsX6_run_r6))))) ++ wsX60)
def wsX6_wrong : List Cond := .code yX6_wrong cX6_wrong 1 (some .boolean) :: ([.fieldLink RX6 75 "LoopRegionsModel" "thrown" "I", .fieldLink RX6 98 "LoopRegionsModel" "isWrong" "Z"] ++ wsX60)
def wsX6_step : List Cond := .code yX6_step cX6_step 4 (some .int) :: ([.fieldLink RX6 105 "LoopRegionsModel" "steps" "I", .fieldLink RX6 35 "LoopRegionsModel" "begins" "[I", .fieldLink RX6 29 "LoopRegionsModel" "numbers" "[I", .fieldLink RX6 32 "LoopRegionsModel" "places" "[I", .fieldLink RX6 38 "LoopRegionsModel" "changes" "[I", .methodLink RX6 90 yX6_fails, .instanceMethod yX6_fails, .selects RX6 yX6_fails yX6_fails, .initialized RX6, .code yX6_fails cX6_fails 3 (some .boolean), .fieldLink RX6 75 "LoopRegionsModel" "thrown" "I"] ++ wsX60)
def wsX6_steps : List Cond := .code yX6_steps cX6_steps 1 (some .int) :: ([.fieldLink RX6 75 "LoopRegionsModel" "thrown" "I", .fieldLink RX6 105 "LoopRegionsModel" "steps" "I"] ++ wsX60)
def wsX6_is : List Cond := .code yX6_is cX6_is 2 (some .int) :: ([.fieldLink RX6 7 "LoopRegionsModel" "edges" "[I", .methodLink RX6 82 yX6_isEdge, .instanceMethod yX6_isEdge, .selects RX6 yX6_isEdge yX6_isEdge, .initialized RX6, .code yX6_isEdge cX6_isEdge 2 (some .boolean), .fieldLink RX6 69 "LoopRegionsModel" "width" "I", .fieldLink RX6 72 "LoopRegionsModel" "height" "I", .methodLink RX6 78 yX6_all, .instanceMethod yX6_all, .selects RX6 yX6_all yX6_all, .code yX6_all cX6_all 1 (some .int), .methodLink RX6 90 yX6_fails, .instanceMethod yX6_fails, .selects RX6 yX6_fails yX6_fails, .code yX6_fails cX6_fails 3 (some .boolean), .fieldLink RX6 75 "LoopRegionsModel" "thrown" "I"] ++ wsX60)
def wsX6_cell_r1 : List Cond := [Cond.fieldLink RX6 16 "LoopRegionsModel" "shades" "[I", Cond.fieldLink RX6 13 "LoopRegionsModel" "duties" "[I", Cond.fieldLink RX6 26 "LoopRegionsModel" "shadeBy" "[I", Cond.methodLink RX6 102 yX6_isCell, Cond.instanceMethod yX6_isCell, Cond.selects RX6 yX6_isCell yX6_isCell, Cond.initialized RX6, Cond.code yX6_isCell cX6_isCell 2 (some .boolean), Cond.methodLink RX6 78 yX6_all, Cond.instanceMethod yX6_all, Cond.selects RX6 yX6_all yX6_all, Cond.code yX6_all cX6_all 1 (some .int), Cond.fieldLink RX6 69 "LoopRegionsModel" "width" "I", Cond.fieldLink RX6 72 "LoopRegionsModel" "height" "I", Cond.methodLink RX6 90 yX6_fails, Cond.instanceMethod yX6_fails, Cond.selects RX6 yX6_fails yX6_fails, Cond.code yX6_fails cX6_fails 3 (some .boolean), Cond.fieldLink RX6 75 "LoopRegionsModel" "thrown" "I", Cond.methodLink RX6 119 yX6_count, Cond.instanceMethod yX6_count, Cond.selects RX6 yX6_count yX6_count, Cond.code yX6_count cX6_count 5 (some .int), Cond.fieldLink RX6 7 "LoopRegionsModel" "edges" "[I"]
def wsX6_cell_r2 : List Cond := [Cond.methodLink RX6 86 yX6_edgeOf, Cond.instanceMethod yX6_edgeOf, Cond.selects RX6 yX6_edgeOf yX6_edgeOf, Cond.code yX6_edgeOf cX6_edgeOf 4 (some .int), Cond.methodLink RX6 82 yX6_isEdge, Cond.instanceMethod yX6_isEdge, Cond.selects RX6 yX6_isEdge yX6_isEdge, Cond.code yX6_isEdge cX6_isEdge 2 (some .boolean)]
def wsX6_cell : List Cond := .code yX6_cell cX6_cell 3 (some .int) :: ((wsX6_cell_r1 ++ wsX6_cell_r2) ++ wsX60)
def wsX6_reason : List Cond := .code yX6_reason cX6_reason 2 (some .int) :: ([.fieldLink RX6 23 "LoopRegionsModel" "edgeBy" "[I", .methodLink RX6 82 yX6_isEdge, .instanceMethod yX6_isEdge, .selects RX6 yX6_isEdge yX6_isEdge, .initialized RX6, .code yX6_isEdge cX6_isEdge 2 (some .boolean), .fieldLink RX6 69 "LoopRegionsModel" "width" "I", .fieldLink RX6 72 "LoopRegionsModel" "height" "I", .methodLink RX6 78 yX6_all, .instanceMethod yX6_all, .selects RX6 yX6_all yX6_all, .code yX6_all cX6_all 1 (some .int), .methodLink RX6 90 yX6_fails, .instanceMethod yX6_fails, .selects RX6 yX6_fails yX6_fails, .code yX6_fails cX6_fails 3 (some .boolean), .fieldLink RX6 75 "LoopRegionsModel" "thrown" "I"] ++ wsX60)
def wsX6_mark : List Cond := .code yX6_mark cX6_mark 2 (some .int) :: ([.fieldLink RX6 75 "LoopRegionsModel" "thrown" "I", .fieldLink RX6 190 "LoopRegionsModel" "marks" "I", .fieldLink RX6 41 "LoopRegionsModel" "keptEdges" "[I", .fieldLink RX6 7 "LoopRegionsModel" "edges" "[I", .fieldLink RX6 50 "LoopRegionsModel" "keptEdgeBy" "[I", .fieldLink RX6 23 "LoopRegionsModel" "edgeBy" "[I", .fieldLink RX6 44 "LoopRegionsModel" "keptDuties" "[I", .fieldLink RX6 13 "LoopRegionsModel" "duties" "[I", .fieldLink RX6 47 "LoopRegionsModel" "keptShades" "[I", .fieldLink RX6 16 "LoopRegionsModel" "shades" "[I", .fieldLink RX6 53 "LoopRegionsModel" "keptShadeBy" "[I", .fieldLink RX6 26 "LoopRegionsModel" "shadeBy" "[I", .fieldLink RX6 56 "LoopRegionsModel" "keptTold" "[I", .fieldLink RX6 19 "LoopRegionsModel" "told" "I", .fieldLink RX6 59 "LoopRegionsModel" "keptSteps" "[I", .fieldLink RX6 105 "LoopRegionsModel" "steps" "I", .fieldLink RX6 62 "LoopRegionsModel" "keptWrong" "[Z", .fieldLink RX6 98 "LoopRegionsModel" "isWrong" "Z"] ++ wsX60)
def wsX6_back : List Cond := .code yX6_back cX6_back 3 (some .boolean) :: ([.fieldLink RX6 75 "LoopRegionsModel" "thrown" "I", .fieldLink RX6 190 "LoopRegionsModel" "marks" "I", .fieldLink RX6 7 "LoopRegionsModel" "edges" "[I", .fieldLink RX6 41 "LoopRegionsModel" "keptEdges" "[I", .fieldLink RX6 23 "LoopRegionsModel" "edgeBy" "[I", .fieldLink RX6 50 "LoopRegionsModel" "keptEdgeBy" "[I", .fieldLink RX6 13 "LoopRegionsModel" "duties" "[I", .fieldLink RX6 44 "LoopRegionsModel" "keptDuties" "[I", .fieldLink RX6 16 "LoopRegionsModel" "shades" "[I", .fieldLink RX6 47 "LoopRegionsModel" "keptShades" "[I", .fieldLink RX6 26 "LoopRegionsModel" "shadeBy" "[I", .fieldLink RX6 53 "LoopRegionsModel" "keptShadeBy" "[I", .fieldLink RX6 56 "LoopRegionsModel" "keptTold" "[I", .fieldLink RX6 19 "LoopRegionsModel" "told" "I", .fieldLink RX6 59 "LoopRegionsModel" "keptSteps" "[I", .fieldLink RX6 105 "LoopRegionsModel" "steps" "I", .fieldLink RX6 62 "LoopRegionsModel" "keptWrong" "[Z", .fieldLink RX6 98 "LoopRegionsModel" "isWrong" "Z"] ++ wsX60)
theorem dX6_init_0 : decode cX6_init 0 = .ok (.aload_n 0, 1) := by decide +kernel
theorem dX6_init_1 : decode cX6_init 1 = .ok (.invokespecial 1, 3) := by decide +kernel
theorem dX6_init_4 : decode cX6_init 4 = .ok (.aload_n 0, 1) := by decide +kernel
theorem dX6_init_5 : decode cX6_init 5 = .ok (.sipush 128, 3) := by decide +kernel
theorem dX6_init_8 : decode cX6_init 8 = .ok (.newarray .int, 2) := by decide +kernel
theorem dX6_init_10 : decode cX6_init 10 = .ok (.putfield 7, 3) := by decide +kernel
theorem dX6_init_13 : decode cX6_init 13 = .ok (.aload_n 0, 1) := by decide +kernel
theorem dX6_init_14 : decode cX6_init 14 = .ok (.bipush 64, 2) := by decide +kernel
theorem dX6_init_16 : decode cX6_init 16 = .ok (.newarray .int, 2) := by decide +kernel
theorem dX6_init_18 : decode cX6_init 18 = .ok (.putfield 13, 3) := by decide +kernel
theorem dX6_init_21 : decode cX6_init 21 = .ok (.aload_n 0, 1) := by decide +kernel
theorem dX6_init_22 : decode cX6_init 22 = .ok (.bipush 64, 2) := by decide +kernel
theorem dX6_init_24 : decode cX6_init 24 = .ok (.newarray .int, 2) := by decide +kernel
theorem dX6_init_26 : decode cX6_init 26 = .ok (.putfield 16, 3) := by decide +kernel
theorem dX6_init_29 : decode cX6_init 29 = .ok (.aload_n 0, 1) := by decide +kernel
theorem dX6_init_30 : decode cX6_init 30 = .ok (.iconst (-1), 1) := by decide +kernel
theorem dX6_init_31 : decode cX6_init 31 = .ok (.putfield 19, 3) := by decide +kernel
theorem dX6_init_34 : decode cX6_init 34 = .ok (.aload_n 0, 1) := by decide +kernel
theorem dX6_init_35 : decode cX6_init 35 = .ok (.sipush 128, 3) := by decide +kernel
theorem dX6_init_38 : decode cX6_init 38 = .ok (.newarray .int, 2) := by decide +kernel
theorem dX6_init_40 : decode cX6_init 40 = .ok (.putfield 23, 3) := by decide +kernel
theorem dX6_init_43 : decode cX6_init 43 = .ok (.aload_n 0, 1) := by decide +kernel
theorem dX6_init_44 : decode cX6_init 44 = .ok (.bipush 64, 2) := by decide +kernel
theorem dX6_init_46 : decode cX6_init 46 = .ok (.newarray .int, 2) := by decide +kernel
theorem dX6_init_48 : decode cX6_init 48 = .ok (.putfield 26, 3) := by decide +kernel
theorem dX6_init_51 : decode cX6_init 51 = .ok (.aload_n 0, 1) := by decide +kernel
theorem dX6_init_52 : decode cX6_init 52 = .ok (.sipush 900, 3) := by decide +kernel
theorem dX6_init_55 : decode cX6_init 55 = .ok (.newarray .int, 2) := by decide +kernel
theorem dX6_init_57 : decode cX6_init 57 = .ok (.putfield 29, 3) := by decide +kernel
theorem dX6_init_60 : decode cX6_init 60 = .ok (.aload_n 0, 1) := by decide +kernel
theorem dX6_init_61 : decode cX6_init 61 = .ok (.sipush 900, 3) := by decide +kernel
theorem dX6_init_64 : decode cX6_init 64 = .ok (.newarray .int, 2) := by decide +kernel
theorem dX6_init_66 : decode cX6_init 66 = .ok (.putfield 32, 3) := by decide +kernel
theorem dX6_init_69 : decode cX6_init 69 = .ok (.aload_n 0, 1) := by decide +kernel
theorem dX6_init_70 : decode cX6_init 70 = .ok (.sipush 901, 3) := by decide +kernel
theorem dX6_init_73 : decode cX6_init 73 = .ok (.newarray .int, 2) := by decide +kernel
theorem dX6_init_75 : decode cX6_init 75 = .ok (.putfield 35, 3) := by decide +kernel
theorem dX6_init_78 : decode cX6_init 78 = .ok (.aload_n 0, 1) := by decide +kernel
theorem dX6_init_79 : decode cX6_init 79 = .ok (.sipush 4000, 3) := by decide +kernel
theorem dX6_init_82 : decode cX6_init 82 = .ok (.newarray .int, 2) := by decide +kernel
theorem dX6_init_84 : decode cX6_init 84 = .ok (.putfield 38, 3) := by decide +kernel
theorem dX6_init_87 : decode cX6_init 87 = .ok (.aload_n 0, 1) := by decide +kernel
theorem dX6_init_88 : decode cX6_init 88 = .ok (.sipush 1536, 3) := by decide +kernel
theorem dX6_init_91 : decode cX6_init 91 = .ok (.newarray .int, 2) := by decide +kernel
theorem dX6_init_93 : decode cX6_init 93 = .ok (.putfield 41, 3) := by decide +kernel
theorem dX6_init_96 : decode cX6_init 96 = .ok (.aload_n 0, 1) := by decide +kernel
theorem dX6_init_97 : decode cX6_init 97 = .ok (.sipush 768, 3) := by decide +kernel
theorem dX6_init_100 : decode cX6_init 100 = .ok (.newarray .int, 2) := by decide +kernel
theorem dX6_init_102 : decode cX6_init 102 = .ok (.putfield 44, 3) := by decide +kernel
theorem dX6_init_105 : decode cX6_init 105 = .ok (.aload_n 0, 1) := by decide +kernel
theorem dX6_init_106 : decode cX6_init 106 = .ok (.sipush 768, 3) := by decide +kernel
theorem dX6_init_109 : decode cX6_init 109 = .ok (.newarray .int, 2) := by decide +kernel
theorem dX6_init_111 : decode cX6_init 111 = .ok (.putfield 47, 3) := by decide +kernel
theorem dX6_init_114 : decode cX6_init 114 = .ok (.aload_n 0, 1) := by decide +kernel
theorem dX6_init_115 : decode cX6_init 115 = .ok (.sipush 1536, 3) := by decide +kernel
theorem dX6_init_118 : decode cX6_init 118 = .ok (.newarray .int, 2) := by decide +kernel
theorem dX6_init_120 : decode cX6_init 120 = .ok (.putfield 50, 3) := by decide +kernel
theorem dX6_init_123 : decode cX6_init 123 = .ok (.aload_n 0, 1) := by decide +kernel
theorem dX6_init_124 : decode cX6_init 124 = .ok (.sipush 768, 3) := by decide +kernel
theorem dX6_init_127 : decode cX6_init 127 = .ok (.newarray .int, 2) := by decide +kernel
theorem dX6_init_129 : decode cX6_init 129 = .ok (.putfield 53, 3) := by decide +kernel
theorem dX6_init_132 : decode cX6_init 132 = .ok (.aload_n 0, 1) := by decide +kernel
theorem dX6_init_133 : decode cX6_init 133 = .ok (.bipush 12, 2) := by decide +kernel
theorem dX6_init_135 : decode cX6_init 135 = .ok (.newarray .int, 2) := by decide +kernel
theorem dX6_init_137 : decode cX6_init 137 = .ok (.putfield 56, 3) := by decide +kernel
theorem dX6_init_140 : decode cX6_init 140 = .ok (.aload_n 0, 1) := by decide +kernel
theorem dX6_init_141 : decode cX6_init 141 = .ok (.bipush 12, 2) := by decide +kernel
theorem dX6_init_143 : decode cX6_init 143 = .ok (.newarray .int, 2) := by decide +kernel
theorem dX6_init_145 : decode cX6_init 145 = .ok (.putfield 59, 3) := by decide +kernel
theorem dX6_init_148 : decode cX6_init 148 = .ok (.aload_n 0, 1) := by decide +kernel
theorem dX6_init_149 : decode cX6_init 149 = .ok (.bipush 12, 2) := by decide +kernel
theorem dX6_init_151 : decode cX6_init 151 = .ok (.newarray .boolean, 2) := by decide +kernel
theorem dX6_init_153 : decode cX6_init 153 = .ok (.putfield 62, 3) := by decide +kernel
theorem dX6_init_156 : decode cX6_init 156 = .ok (.aload_n 0, 1) := by decide +kernel
theorem dX6_init_157 : decode cX6_init 157 = .ok (.bipush 64, 2) := by decide +kernel
theorem dX6_init_159 : decode cX6_init 159 = .ok (.newarray .boolean, 2) := by decide +kernel
theorem dX6_init_161 : decode cX6_init 161 = .ok (.putfield 66, 3) := by decide +kernel
theorem dX6_init_164 : decode cX6_init 164 = .ok (.aload_n 0, 1) := by decide +kernel
theorem dX6_init_165 : decode cX6_init 165 = .ok (.iload_n 1, 1) := by decide +kernel
theorem dX6_init_166 : decode cX6_init 166 = .ok (.iconst 1, 1) := by decide +kernel
theorem dX6_init_167 : decode cX6_init 167 = .ok (.if_icmp .ge 7, 3) := by decide +kernel
theorem dX6_init_170 : decode cX6_init 170 = .ok (.iconst 1, 1) := by decide +kernel
theorem dX6_init_171 : decode cX6_init 171 = .ok (.goto 15, 3) := by decide +kernel
theorem dX6_init_174 : decode cX6_init 174 = .ok (.iload_n 1, 1) := by decide +kernel
theorem dX6_init_175 : decode cX6_init 175 = .ok (.bipush 8, 2) := by decide +kernel
theorem dX6_init_177 : decode cX6_init 177 = .ok (.if_icmp .le 8, 3) := by decide +kernel
theorem dX6_init_180 : decode cX6_init 180 = .ok (.bipush 8, 2) := by decide +kernel
theorem dX6_init_182 : decode cX6_init 182 = .ok (.goto 4, 3) := by decide +kernel
theorem dX6_init_185 : decode cX6_init 185 = .ok (.iload_n 1, 1) := by decide +kernel
theorem dX6_init_186 : decode cX6_init 186 = .ok (.putfield 69, 3) := by decide +kernel
theorem dX6_init_189 : decode cX6_init 189 = .ok (.aload_n 0, 1) := by decide +kernel
theorem dX6_init_190 : decode cX6_init 190 = .ok (.iload_n 2, 1) := by decide +kernel
theorem dX6_init_191 : decode cX6_init 191 = .ok (.iconst 1, 1) := by decide +kernel
theorem dX6_init_192 : decode cX6_init 192 = .ok (.if_icmp .ge 7, 3) := by decide +kernel
theorem dX6_init_195 : decode cX6_init 195 = .ok (.iconst 1, 1) := by decide +kernel
theorem dX6_init_196 : decode cX6_init 196 = .ok (.goto 15, 3) := by decide +kernel
theorem dX6_init_199 : decode cX6_init 199 = .ok (.iload_n 2, 1) := by decide +kernel
theorem dX6_init_200 : decode cX6_init 200 = .ok (.bipush 8, 2) := by decide +kernel
theorem dX6_init_202 : decode cX6_init 202 = .ok (.if_icmp .le 8, 3) := by decide +kernel
theorem dX6_init_205 : decode cX6_init 205 = .ok (.bipush 8, 2) := by decide +kernel
theorem dX6_init_207 : decode cX6_init 207 = .ok (.goto 4, 3) := by decide +kernel
theorem dX6_init_210 : decode cX6_init 210 = .ok (.iload_n 2, 1) := by decide +kernel
theorem dX6_init_211 : decode cX6_init 211 = .ok (.putfield 72, 3) := by decide +kernel
theorem dX6_init_214 : decode cX6_init 214 = .ok (.iconst 0, 1) := by decide +kernel
theorem dX6_init_215 : decode cX6_init 215 = .ok (.istore_n 3, 1) := by decide +kernel
theorem dX6_init_216 : decode cX6_init 216 = .ok (.iload_n 3, 1) := by decide +kernel
theorem dX6_init_217 : decode cX6_init 217 = .ok (.sipush 128, 3) := by decide +kernel
theorem dX6_init_220 : decode cX6_init 220 = .ok (.if_icmp .ge 16, 3) := by decide +kernel
theorem dX6_init_223 : decode cX6_init 223 = .ok (.aload_n 0, 1) := by decide +kernel
theorem dX6_init_224 : decode cX6_init 224 = .ok (.getfield 23, 3) := by decide +kernel
theorem dX6_init_227 : decode cX6_init 227 = .ok (.iload_n 3, 1) := by decide +kernel
theorem dX6_init_228 : decode cX6_init 228 = .ok (.iconst (-1), 1) := by decide +kernel
theorem dX6_init_229 : decode cX6_init 229 = .ok (.iastore, 1) := by decide +kernel
theorem dX6_init_230 : decode cX6_init 230 = .ok (.iinc 3 1, 3) := by decide +kernel
theorem dX6_init_233 : decode cX6_init 233 = .ok (.goto (-17), 3) := by decide +kernel
theorem dX6_init_236 : decode cX6_init 236 = .ok (.iconst 0, 1) := by decide +kernel
theorem dX6_init_237 : decode cX6_init 237 = .ok (.istore_n 3, 1) := by decide +kernel
theorem dX6_init_238 : decode cX6_init 238 = .ok (.iload_n 3, 1) := by decide +kernel
theorem dX6_init_239 : decode cX6_init 239 = .ok (.bipush 64, 2) := by decide +kernel
theorem dX6_init_241 : decode cX6_init 241 = .ok (.if_icmp .ge 16, 3) := by decide +kernel
theorem dX6_init_244 : decode cX6_init 244 = .ok (.aload_n 0, 1) := by decide +kernel
theorem dX6_init_245 : decode cX6_init 245 = .ok (.getfield 26, 3) := by decide +kernel
theorem dX6_init_248 : decode cX6_init 248 = .ok (.iload_n 3, 1) := by decide +kernel
theorem dX6_init_249 : decode cX6_init 249 = .ok (.iconst (-1), 1) := by decide +kernel
theorem dX6_init_250 : decode cX6_init 250 = .ok (.iastore, 1) := by decide +kernel
theorem dX6_init_251 : decode cX6_init 251 = .ok (.iinc 3 1, 3) := by decide +kernel
theorem dX6_init_254 : decode cX6_init 254 = .ok (.goto (-16), 3) := by decide +kernel
theorem dX6_init_257 : decode cX6_init 257 = .ok (.return_, 1) := by decide +kernel
theorem dX6_thrown_0 : decode cX6_thrown 0 = .ok (.aload_n 0, 1) := by decide +kernel
theorem dX6_thrown_1 : decode cX6_thrown 1 = .ok (.getfield 75, 3) := by decide +kernel
theorem dX6_thrown_4 : decode cX6_thrown 4 = .ok (.ireturn, 1) := by decide +kernel
theorem dX6_fails_0 : decode cX6_fails 0 = .ok (.aload_n 0, 1) := by decide +kernel
theorem dX6_fails_1 : decode cX6_fails 1 = .ok (.iload_n 2, 1) := by decide +kernel
theorem dX6_fails_2 : decode cX6_fails 2 = .ok (.ifCond .eq 7, 3) := by decide +kernel
theorem dX6_fails_5 : decode cX6_fails 5 = .ok (.iload_n 1, 1) := by decide +kernel
theorem dX6_fails_6 : decode cX6_fails 6 = .ok (.goto 4, 3) := by decide +kernel
theorem dX6_fails_9 : decode cX6_fails 9 = .ok (.iconst 0, 1) := by decide +kernel
theorem dX6_fails_10 : decode cX6_fails 10 = .ok (.putfield 75, 3) := by decide +kernel
theorem dX6_fails_13 : decode cX6_fails 13 = .ok (.iload_n 2, 1) := by decide +kernel
theorem dX6_fails_14 : decode cX6_fails 14 = .ok (.ireturn, 1) := by decide +kernel
theorem dX6_all_0 : decode cX6_all 0 = .ok (.aload_n 0, 1) := by decide +kernel
theorem dX6_all_1 : decode cX6_all 1 = .ok (.getfield 69, 3) := by decide +kernel
theorem dX6_all_4 : decode cX6_all 4 = .ok (.aload_n 0, 1) := by decide +kernel
theorem dX6_all_5 : decode cX6_all 5 = .ok (.getfield 72, 3) := by decide +kernel
theorem dX6_all_8 : decode cX6_all 8 = .ok (.imul, 1) := by decide +kernel
theorem dX6_all_9 : decode cX6_all 9 = .ok (.ireturn, 1) := by decide +kernel
set_option maxRecDepth 20000 in
theorem ggX6_isCell_X6_all : GoodIn wsX6_isCell wsX6_all := goodIn_r _ [5, 6, 7, 8, 9, 10, 11, 12, 13, 14, 15, 16, 17, 18, 19, 20, 21, 22, 23, 24, 25, 26, 27, 28, 29, 30, 31, 32] (by decide +kernel) (by decide +kernel)
set_option maxRecDepth 20000 in
theorem gX6_isCell_X6_all : GoodIn wsX6_isCell (wsV RX6 78 RX6 yX6_all wsX6_all) := goodIn_app (goodIn_of _ (by decide +kernel)) ggX6_isCell_X6_all
theorem dX6_isCell_0 : decode cX6_isCell 0 = .ok (.iload_n 1, 1) := by decide +kernel
theorem dX6_isCell_1 : decode cX6_isCell 1 = .ok (.ifCond .lt 15, 3) := by decide +kernel
theorem dX6_isCell_4 : decode cX6_isCell 4 = .ok (.iload_n 1, 1) := by decide +kernel
theorem dX6_isCell_5 : decode cX6_isCell 5 = .ok (.aload_n 0, 1) := by decide +kernel
theorem dX6_isCell_6 : decode cX6_isCell 6 = .ok (.invokevirtual 78, 3) := by decide +kernel
theorem dX6_isCell_9 : decode cX6_isCell 9 = .ok (.if_icmp .ge 7, 3) := by decide +kernel
theorem dX6_isCell_12 : decode cX6_isCell 12 = .ok (.iconst 1, 1) := by decide +kernel
theorem dX6_isCell_13 : decode cX6_isCell 13 = .ok (.goto 4, 3) := by decide +kernel
theorem dX6_isCell_16 : decode cX6_isCell 16 = .ok (.iconst 0, 1) := by decide +kernel
theorem dX6_isCell_17 : decode cX6_isCell 17 = .ok (.ireturn, 1) := by decide +kernel
set_option maxRecDepth 20000 in
theorem ggX6_isEdge_X6_all : GoodIn wsX6_isEdge wsX6_all := goodIn_r _ [7, 1, 2, 8, 9, 10, 11, 12, 13, 14, 15, 16, 17, 18, 19, 20, 21, 22, 23, 24, 25, 26, 27, 28, 29, 30, 31, 32] (by decide +kernel) (by decide +kernel)
set_option maxRecDepth 20000 in
theorem gX6_isEdge_X6_all : GoodIn wsX6_isEdge (wsV RX6 78 RX6 yX6_all wsX6_all) := goodIn_app (goodIn_of _ (by decide +kernel)) ggX6_isEdge_X6_all
theorem dX6_isEdge_0 : decode cX6_isEdge 0 = .ok (.iload_n 1, 1) := by decide +kernel
theorem dX6_isEdge_1 : decode cX6_isEdge 1 = .ok (.ifCond .lt 60, 3) := by decide +kernel
theorem dX6_isEdge_4 : decode cX6_isEdge 4 = .ok (.iload_n 1, 1) := by decide +kernel
theorem dX6_isEdge_5 : decode cX6_isEdge 5 = .ok (.iconst 2, 1) := by decide +kernel
theorem dX6_isEdge_6 : decode cX6_isEdge 6 = .ok (.aload_n 0, 1) := by decide +kernel
theorem dX6_isEdge_7 : decode cX6_isEdge 7 = .ok (.invokevirtual 78, 3) := by decide +kernel
theorem dX6_isEdge_10 : decode cX6_isEdge 10 = .ok (.imul, 1) := by decide +kernel
theorem dX6_isEdge_11 : decode cX6_isEdge 11 = .ok (.if_icmp .ge 50, 3) := by decide +kernel
theorem dX6_isEdge_14 : decode cX6_isEdge 14 = .ok (.iload_n 1, 1) := by decide +kernel
theorem dX6_isEdge_15 : decode cX6_isEdge 15 = .ok (.iconst 2, 1) := by decide +kernel
theorem dX6_isEdge_16 : decode cX6_isEdge 16 = .ok (.irem, 1) := by decide +kernel
theorem dX6_isEdge_17 : decode cX6_isEdge 17 = .ok (.ifCond .ne 23, 3) := by decide +kernel
theorem dX6_isEdge_20 : decode cX6_isEdge 20 = .ok (.iload_n 1, 1) := by decide +kernel
theorem dX6_isEdge_21 : decode cX6_isEdge 21 = .ok (.iconst 2, 1) := by decide +kernel
theorem dX6_isEdge_22 : decode cX6_isEdge 22 = .ok (.idiv, 1) := by decide +kernel
theorem dX6_isEdge_23 : decode cX6_isEdge 23 = .ok (.aload_n 0, 1) := by decide +kernel
theorem dX6_isEdge_24 : decode cX6_isEdge 24 = .ok (.getfield 69, 3) := by decide +kernel
theorem dX6_isEdge_27 : decode cX6_isEdge 27 = .ok (.irem, 1) := by decide +kernel
theorem dX6_isEdge_28 : decode cX6_isEdge 28 = .ok (.aload_n 0, 1) := by decide +kernel
theorem dX6_isEdge_29 : decode cX6_isEdge 29 = .ok (.getfield 69, 3) := by decide +kernel
theorem dX6_isEdge_32 : decode cX6_isEdge 32 = .ok (.iconst 1, 1) := by decide +kernel
theorem dX6_isEdge_33 : decode cX6_isEdge 33 = .ok (.isub, 1) := by decide +kernel
theorem dX6_isEdge_34 : decode cX6_isEdge 34 = .ok (.if_icmp .ge 27, 3) := by decide +kernel
theorem dX6_isEdge_37 : decode cX6_isEdge 37 = .ok (.goto 20, 3) := by decide +kernel
theorem dX6_isEdge_40 : decode cX6_isEdge 40 = .ok (.iload_n 1, 1) := by decide +kernel
theorem dX6_isEdge_41 : decode cX6_isEdge 41 = .ok (.iconst 2, 1) := by decide +kernel
theorem dX6_isEdge_42 : decode cX6_isEdge 42 = .ok (.idiv, 1) := by decide +kernel
theorem dX6_isEdge_43 : decode cX6_isEdge 43 = .ok (.aload_n 0, 1) := by decide +kernel
theorem dX6_isEdge_44 : decode cX6_isEdge 44 = .ok (.getfield 69, 3) := by decide +kernel
theorem dX6_isEdge_47 : decode cX6_isEdge 47 = .ok (.idiv, 1) := by decide +kernel
theorem dX6_isEdge_48 : decode cX6_isEdge 48 = .ok (.aload_n 0, 1) := by decide +kernel
theorem dX6_isEdge_49 : decode cX6_isEdge 49 = .ok (.getfield 72, 3) := by decide +kernel
theorem dX6_isEdge_52 : decode cX6_isEdge 52 = .ok (.iconst 1, 1) := by decide +kernel
theorem dX6_isEdge_53 : decode cX6_isEdge 53 = .ok (.isub, 1) := by decide +kernel
theorem dX6_isEdge_54 : decode cX6_isEdge 54 = .ok (.if_icmp .ge 7, 3) := by decide +kernel
theorem dX6_isEdge_57 : decode cX6_isEdge 57 = .ok (.iconst 1, 1) := by decide +kernel
theorem dX6_isEdge_58 : decode cX6_isEdge 58 = .ok (.goto 4, 3) := by decide +kernel
theorem dX6_isEdge_61 : decode cX6_isEdge 61 = .ok (.iconst 0, 1) := by decide +kernel
theorem dX6_isEdge_62 : decode cX6_isEdge 62 = .ok (.ireturn, 1) := by decide +kernel
theorem dX6_other_0 : decode cX6_other 0 = .ok (.iload_n 1, 1) := by decide +kernel
theorem dX6_other_1 : decode cX6_other 1 = .ok (.iconst 2, 1) := by decide +kernel
theorem dX6_other_2 : decode cX6_other 2 = .ok (.irem, 1) := by decide +kernel
theorem dX6_other_3 : decode cX6_other 3 = .ok (.ifCond .ne 11, 3) := by decide +kernel
theorem dX6_other_6 : decode cX6_other 6 = .ok (.iload_n 1, 1) := by decide +kernel
theorem dX6_other_7 : decode cX6_other 7 = .ok (.iconst 2, 1) := by decide +kernel
theorem dX6_other_8 : decode cX6_other 8 = .ok (.idiv, 1) := by decide +kernel
theorem dX6_other_9 : decode cX6_other 9 = .ok (.iconst 1, 1) := by decide +kernel
theorem dX6_other_10 : decode cX6_other 10 = .ok (.iadd, 1) := by decide +kernel
theorem dX6_other_11 : decode cX6_other 11 = .ok (.goto 11, 3) := by decide +kernel
theorem dX6_other_14 : decode cX6_other 14 = .ok (.iload_n 1, 1) := by decide +kernel
theorem dX6_other_15 : decode cX6_other 15 = .ok (.iconst 2, 1) := by decide +kernel
theorem dX6_other_16 : decode cX6_other 16 = .ok (.idiv, 1) := by decide +kernel
theorem dX6_other_17 : decode cX6_other 17 = .ok (.aload_n 0, 1) := by decide +kernel
theorem dX6_other_18 : decode cX6_other 18 = .ok (.getfield 69, 3) := by decide +kernel
theorem dX6_other_21 : decode cX6_other 21 = .ok (.iadd, 1) := by decide +kernel
theorem dX6_other_22 : decode cX6_other 22 = .ok (.ireturn, 1) := by decide +kernel
set_option maxRecDepth 20000 in
theorem ggX6_edgeOf_X6_isEdge : GoodIn wsX6_edgeOf wsX6_isEdge := goodIn_r _ [6, 1, 7, 8, 9, 10, 5, 11, 12, 13, 14, 15, 16, 17, 18, 19, 20, 21, 22, 23, 24, 25, 26, 27, 28, 29, 30, 31, 32, 33, 34, 35, 36] (by decide +kernel) (by decide +kernel)
set_option maxRecDepth 20000 in
theorem gX6_edgeOf_X6_isEdge : GoodIn wsX6_edgeOf (wsV RX6 82 RX6 yX6_isEdge wsX6_isEdge) := goodIn_app (goodIn_of _ (by decide +kernel)) ggX6_edgeOf_X6_isEdge
theorem dX6_edgeOf_0 : decode cX6_edgeOf 0 = .ok (.iload_n 2, 1) := by decide +kernel
theorem dX6_edgeOf_1 : decode cX6_edgeOf 1 = .ok (.ifCond .ne 16, 3) := by decide +kernel
theorem dX6_edgeOf_4 : decode cX6_edgeOf 4 = .ok (.iconst 2, 1) := by decide +kernel
theorem dX6_edgeOf_5 : decode cX6_edgeOf 5 = .ok (.iload_n 1, 1) := by decide +kernel
theorem dX6_edgeOf_6 : decode cX6_edgeOf 6 = .ok (.aload_n 0, 1) := by decide +kernel
theorem dX6_edgeOf_7 : decode cX6_edgeOf 7 = .ok (.getfield 69, 3) := by decide +kernel
theorem dX6_edgeOf_10 : decode cX6_edgeOf 10 = .ok (.isub, 1) := by decide +kernel
theorem dX6_edgeOf_11 : decode cX6_edgeOf 11 = .ok (.imul, 1) := by decide +kernel
theorem dX6_edgeOf_12 : decode cX6_edgeOf 12 = .ok (.iconst 1, 1) := by decide +kernel
theorem dX6_edgeOf_13 : decode cX6_edgeOf 13 = .ok (.iadd, 1) := by decide +kernel
theorem dX6_edgeOf_14 : decode cX6_edgeOf 14 = .ok (.goto 45, 3) := by decide +kernel
theorem dX6_edgeOf_17 : decode cX6_edgeOf 17 = .ok (.iload_n 2, 1) := by decide +kernel
theorem dX6_edgeOf_18 : decode cX6_edgeOf 18 = .ok (.iconst 1, 1) := by decide +kernel
theorem dX6_edgeOf_19 : decode cX6_edgeOf 19 = .ok (.if_icmp .ne 9, 3) := by decide +kernel
theorem dX6_edgeOf_22 : decode cX6_edgeOf 22 = .ok (.iconst 2, 1) := by decide +kernel
theorem dX6_edgeOf_23 : decode cX6_edgeOf 23 = .ok (.iload_n 1, 1) := by decide +kernel
theorem dX6_edgeOf_24 : decode cX6_edgeOf 24 = .ok (.imul, 1) := by decide +kernel
theorem dX6_edgeOf_25 : decode cX6_edgeOf 25 = .ok (.goto 34, 3) := by decide +kernel
theorem dX6_edgeOf_28 : decode cX6_edgeOf 28 = .ok (.iload_n 2, 1) := by decide +kernel
theorem dX6_edgeOf_29 : decode cX6_edgeOf 29 = .ok (.iconst 2, 1) := by decide +kernel
theorem dX6_edgeOf_30 : decode cX6_edgeOf 30 = .ok (.if_icmp .ne 11, 3) := by decide +kernel
theorem dX6_edgeOf_33 : decode cX6_edgeOf 33 = .ok (.iconst 2, 1) := by decide +kernel
theorem dX6_edgeOf_34 : decode cX6_edgeOf 34 = .ok (.iload_n 1, 1) := by decide +kernel
theorem dX6_edgeOf_35 : decode cX6_edgeOf 35 = .ok (.imul, 1) := by decide +kernel
theorem dX6_edgeOf_36 : decode cX6_edgeOf 36 = .ok (.iconst 1, 1) := by decide +kernel
theorem dX6_edgeOf_37 : decode cX6_edgeOf 37 = .ok (.iadd, 1) := by decide +kernel
theorem dX6_edgeOf_38 : decode cX6_edgeOf 38 = .ok (.goto 21, 3) := by decide +kernel
theorem dX6_edgeOf_41 : decode cX6_edgeOf 41 = .ok (.iload_n 1, 1) := by decide +kernel
theorem dX6_edgeOf_42 : decode cX6_edgeOf 42 = .ok (.aload_n 0, 1) := by decide +kernel
theorem dX6_edgeOf_43 : decode cX6_edgeOf 43 = .ok (.getfield 69, 3) := by decide +kernel
theorem dX6_edgeOf_46 : decode cX6_edgeOf 46 = .ok (.irem, 1) := by decide +kernel
theorem dX6_edgeOf_47 : decode cX6_edgeOf 47 = .ok (.ifCond .le 11, 3) := by decide +kernel
theorem dX6_edgeOf_50 : decode cX6_edgeOf 50 = .ok (.iconst 2, 1) := by decide +kernel
theorem dX6_edgeOf_51 : decode cX6_edgeOf 51 = .ok (.iload_n 1, 1) := by decide +kernel
theorem dX6_edgeOf_52 : decode cX6_edgeOf 52 = .ok (.iconst 1, 1) := by decide +kernel
theorem dX6_edgeOf_53 : decode cX6_edgeOf 53 = .ok (.isub, 1) := by decide +kernel
theorem dX6_edgeOf_54 : decode cX6_edgeOf 54 = .ok (.imul, 1) := by decide +kernel
theorem dX6_edgeOf_55 : decode cX6_edgeOf 55 = .ok (.goto 4, 3) := by decide +kernel
theorem dX6_edgeOf_58 : decode cX6_edgeOf 58 = .ok (.iconst (-1), 1) := by decide +kernel
theorem dX6_edgeOf_59 : decode cX6_edgeOf 59 = .ok (.istore_n 3, 1) := by decide +kernel
theorem dX6_edgeOf_60 : decode cX6_edgeOf 60 = .ok (.aload_n 0, 1) := by decide +kernel
theorem dX6_edgeOf_61 : decode cX6_edgeOf 61 = .ok (.iload_n 3, 1) := by decide +kernel
theorem dX6_edgeOf_62 : decode cX6_edgeOf 62 = .ok (.invokevirtual 82, 3) := by decide +kernel
theorem dX6_edgeOf_65 : decode cX6_edgeOf 65 = .ok (.ifCond .eq 7, 3) := by decide +kernel
theorem dX6_edgeOf_68 : decode cX6_edgeOf 68 = .ok (.iload_n 3, 1) := by decide +kernel
theorem dX6_edgeOf_69 : decode cX6_edgeOf 69 = .ok (.goto 4, 3) := by decide +kernel
theorem dX6_edgeOf_72 : decode cX6_edgeOf 72 = .ok (.iconst (-1), 1) := by decide +kernel
theorem dX6_edgeOf_73 : decode cX6_edgeOf 73 = .ok (.ireturn, 1) := by decide +kernel
set_option maxRecDepth 20000 in
theorem ggX6_count_X6_edgeOf : GoodIn wsX6_count wsX6_edgeOf := goodIn_r _ [6, 7, 8, 9, 10, 5, 11, 12, 13, 14, 15, 16, 17, 18, 19, 20, 21, 22, 23, 24, 25, 26, 27, 28, 29, 30, 31, 32, 33, 34, 35, 36, 37, 38, 39, 40, 41] (by decide +kernel) (by decide +kernel)
set_option maxRecDepth 20000 in
theorem gX6_count_X6_edgeOf : GoodIn wsX6_count (wsV RX6 86 RX6 yX6_edgeOf wsX6_edgeOf) := goodIn_app (goodIn_of _ (by decide +kernel)) ggX6_count_X6_edgeOf
theorem dX6_count_0 : decode cX6_count 0 = .ok (.iconst 0, 1) := by decide +kernel
theorem dX6_count_1 : decode cX6_count 1 = .ok (.istore_n 3, 1) := by decide +kernel
theorem dX6_count_2 : decode cX6_count 2 = .ok (.iconst 0, 1) := by decide +kernel
theorem dX6_count_3 : decode cX6_count 3 = .ok (.istore 4, 2) := by decide +kernel
theorem dX6_count_5 : decode cX6_count 5 = .ok (.iload 4, 2) := by decide +kernel
theorem dX6_count_7 : decode cX6_count 7 = .ok (.iconst 4, 1) := by decide +kernel
theorem dX6_count_8 : decode cX6_count 8 = .ok (.if_icmp .ge 43, 3) := by decide +kernel
theorem dX6_count_11 : decode cX6_count 11 = .ok (.iload_n 3, 1) := by decide +kernel
theorem dX6_count_12 : decode cX6_count 12 = .ok (.aload_n 0, 1) := by decide +kernel
theorem dX6_count_13 : decode cX6_count 13 = .ok (.iload_n 1, 1) := by decide +kernel
theorem dX6_count_14 : decode cX6_count 14 = .ok (.iload 4, 2) := by decide +kernel
theorem dX6_count_16 : decode cX6_count 16 = .ok (.invokevirtual 86, 3) := by decide +kernel
theorem dX6_count_19 : decode cX6_count 19 = .ok (.ifCond .lt 23, 3) := by decide +kernel
theorem dX6_count_22 : decode cX6_count 22 = .ok (.aload_n 0, 1) := by decide +kernel
theorem dX6_count_23 : decode cX6_count 23 = .ok (.getfield 7, 3) := by decide +kernel
theorem dX6_count_26 : decode cX6_count 26 = .ok (.aload_n 0, 1) := by decide +kernel
theorem dX6_count_27 : decode cX6_count 27 = .ok (.iload_n 1, 1) := by decide +kernel
theorem dX6_count_28 : decode cX6_count 28 = .ok (.iload 4, 2) := by decide +kernel
theorem dX6_count_30 : decode cX6_count 30 = .ok (.invokevirtual 86, 3) := by decide +kernel
theorem dX6_count_33 : decode cX6_count 33 = .ok (.iaload, 1) := by decide +kernel
theorem dX6_count_34 : decode cX6_count 34 = .ok (.iload_n 2, 1) := by decide +kernel
theorem dX6_count_35 : decode cX6_count 35 = .ok (.if_icmp .ne 7, 3) := by decide +kernel
theorem dX6_count_38 : decode cX6_count 38 = .ok (.iconst 1, 1) := by decide +kernel
theorem dX6_count_39 : decode cX6_count 39 = .ok (.goto 4, 3) := by decide +kernel
theorem dX6_count_42 : decode cX6_count 42 = .ok (.iconst 0, 1) := by decide +kernel
theorem dX6_count_43 : decode cX6_count 43 = .ok (.iadd, 1) := by decide +kernel
theorem dX6_count_44 : decode cX6_count 44 = .ok (.istore_n 3, 1) := by decide +kernel
theorem dX6_count_45 : decode cX6_count 45 = .ok (.iinc 4 1, 3) := by decide +kernel
theorem dX6_count_48 : decode cX6_count 48 = .ok (.goto (-43), 3) := by decide +kernel
theorem dX6_count_51 : decode cX6_count 51 = .ok (.iload_n 3, 1) := by decide +kernel
theorem dX6_count_52 : decode cX6_count 52 = .ok (.ireturn, 1) := by decide +kernel
set_option maxRecDepth 20000 in
theorem ggX6_size_X6_all : GoodIn wsX6_size wsX6_all := goodIn_r _ [6, 7, 8, 9, 10, 11, 12, 13, 14, 15, 16, 17, 18, 19, 20, 21, 22, 23, 24, 25, 26, 27, 28, 29, 30, 31, 32, 33] (by decide +kernel) (by decide +kernel)
set_option maxRecDepth 20000 in
theorem gX6_size_X6_all : GoodIn wsX6_size (wsV RX6 78 RX6 yX6_all wsX6_all) := goodIn_app (goodIn_of _ (by decide +kernel)) ggX6_size_X6_all
theorem dX6_size_0 : decode cX6_size 0 = .ok (.aload_n 0, 1) := by decide +kernel
theorem dX6_size_1 : decode cX6_size 1 = .ok (.iconst 0, 1) := by decide +kernel
theorem dX6_size_2 : decode cX6_size 2 = .ok (.putfield 75, 3) := by decide +kernel
theorem dX6_size_5 : decode cX6_size 5 = .ok (.aload_n 0, 1) := by decide +kernel
theorem dX6_size_6 : decode cX6_size 6 = .ok (.invokevirtual 78, 3) := by decide +kernel
theorem dX6_size_9 : decode cX6_size 9 = .ok (.ireturn, 1) := by decide +kernel
set_option maxRecDepth 20000 in
theorem ggX6_end_X6_isEdge : GoodIn wsX6_end wsX6_isEdge := goodIn_r _ [5, 6, 7, 8, 9, 10, 4, 11, 21, 22, 23, 24, 25, 26, 27, 28, 29, 30, 31, 32, 33, 34, 35, 36, 37, 38, 39, 40, 41, 42, 43, 44, 45] (by decide +kernel) (by decide +kernel)
set_option maxRecDepth 20000 in
theorem gX6_end_X6_isEdge : GoodIn wsX6_end (wsV RX6 82 RX6 yX6_isEdge wsX6_isEdge) := goodIn_app (goodIn_of _ (by decide +kernel)) ggX6_end_X6_isEdge
set_option maxRecDepth 20000 in
theorem ggX6_end_X6_fails : GoodIn wsX6_end wsX6_fails := goodIn_r _ [15, 16, 21, 22, 23, 24, 25, 26, 27, 28, 29, 30, 31, 32, 33, 34, 35, 36, 37, 38, 39, 40, 41, 42, 43, 44, 45] (by decide +kernel) (by decide +kernel)
set_option maxRecDepth 20000 in
theorem gX6_end_X6_fails : GoodIn wsX6_end (wsV RX6 90 RX6 yX6_fails wsX6_fails) := goodIn_app (goodIn_of _ (by decide +kernel)) ggX6_end_X6_fails
set_option maxRecDepth 20000 in
theorem ggX6_end_X6_other : GoodIn wsX6_end wsX6_other := goodIn_r _ [20, 6, 21, 22, 23, 24, 25, 26, 27, 28, 29, 30, 31, 32, 33, 34, 35, 36, 37, 38, 39, 40, 41, 42, 43, 44, 45] (by decide +kernel) (by decide +kernel)
set_option maxRecDepth 20000 in
theorem gX6_end_X6_other : GoodIn wsX6_end (wsV RX6 94 RX6 yX6_other wsX6_other) := goodIn_app (goodIn_of _ (by decide +kernel)) ggX6_end_X6_other
theorem dX6_end_0 : decode cX6_end 0 = .ok (.aload_n 0, 1) := by decide +kernel
theorem dX6_end_1 : decode cX6_end 1 = .ok (.iconst 1, 1) := by decide +kernel
theorem dX6_end_2 : decode cX6_end 2 = .ok (.aload_n 0, 1) := by decide +kernel
theorem dX6_end_3 : decode cX6_end 3 = .ok (.iload_n 1, 1) := by decide +kernel
theorem dX6_end_4 : decode cX6_end 4 = .ok (.invokevirtual 82, 3) := by decide +kernel
theorem dX6_end_7 : decode cX6_end 7 = .ok (.ifCond .ne 7, 3) := by decide +kernel
theorem dX6_end_10 : decode cX6_end 10 = .ok (.iconst 1, 1) := by decide +kernel
theorem dX6_end_11 : decode cX6_end 11 = .ok (.goto 4, 3) := by decide +kernel
theorem dX6_end_14 : decode cX6_end 14 = .ok (.iconst 0, 1) := by decide +kernel
theorem dX6_end_15 : decode cX6_end 15 = .ok (.invokevirtual 90, 3) := by decide +kernel
theorem dX6_end_18 : decode cX6_end 18 = .ok (.ifCond .eq 5, 3) := by decide +kernel
theorem dX6_end_21 : decode cX6_end 21 = .ok (.iconst 0, 1) := by decide +kernel
theorem dX6_end_22 : decode cX6_end 22 = .ok (.ireturn, 1) := by decide +kernel
theorem dX6_end_23 : decode cX6_end 23 = .ok (.iload_n 2, 1) := by decide +kernel
theorem dX6_end_24 : decode cX6_end 24 = .ok (.ifCond .eq 11, 3) := by decide +kernel
theorem dX6_end_27 : decode cX6_end 27 = .ok (.aload_n 0, 1) := by decide +kernel
theorem dX6_end_28 : decode cX6_end 28 = .ok (.iload_n 1, 1) := by decide +kernel
theorem dX6_end_29 : decode cX6_end 29 = .ok (.invokevirtual 94, 3) := by decide +kernel
theorem dX6_end_32 : decode cX6_end 32 = .ok (.goto 6, 3) := by decide +kernel
theorem dX6_end_35 : decode cX6_end 35 = .ok (.iload_n 1, 1) := by decide +kernel
theorem dX6_end_36 : decode cX6_end 36 = .ok (.iconst 2, 1) := by decide +kernel
theorem dX6_end_37 : decode cX6_end 37 = .ok (.idiv, 1) := by decide +kernel
theorem dX6_end_38 : decode cX6_end 38 = .ok (.ireturn, 1) := by decide +kernel
set_option maxRecDepth 20000 in
theorem ggX6_edge_X6_isEdge : GoodIn wsX6_edge wsX6_isEdge := goodIn_r _ [7, 8, 9, 10, 11, 12, 6, 13, 19, 20, 21, 22, 23, 24, 25, 26, 27, 28, 29, 30, 31, 32, 33, 34, 35, 36, 37, 38, 39, 40, 41, 42, 43] (by decide +kernel) (by decide +kernel)
set_option maxRecDepth 20000 in
theorem gX6_edge_X6_isEdge : GoodIn wsX6_edge (wsV RX6 82 RX6 yX6_isEdge wsX6_isEdge) := goodIn_app (goodIn_of _ (by decide +kernel)) ggX6_edge_X6_isEdge
set_option maxRecDepth 20000 in
theorem ggX6_edge_X6_fails : GoodIn wsX6_edge wsX6_fails := goodIn_r _ [17, 18, 19, 20, 21, 22, 23, 24, 25, 26, 27, 28, 29, 30, 31, 32, 33, 34, 35, 36, 37, 38, 39, 40, 41, 42, 43] (by decide +kernel) (by decide +kernel)
set_option maxRecDepth 20000 in
theorem gX6_edge_X6_fails : GoodIn wsX6_edge (wsV RX6 90 RX6 yX6_fails wsX6_fails) := goodIn_app (goodIn_of _ (by decide +kernel)) ggX6_edge_X6_fails
theorem dX6_edge_0 : decode cX6_edge 0 = .ok (.aload_n 0, 1) := by decide +kernel
theorem dX6_edge_1 : decode cX6_edge 1 = .ok (.iconst 1, 1) := by decide +kernel
theorem dX6_edge_2 : decode cX6_edge 2 = .ok (.aload_n 0, 1) := by decide +kernel
theorem dX6_edge_3 : decode cX6_edge 3 = .ok (.iload_n 1, 1) := by decide +kernel
theorem dX6_edge_4 : decode cX6_edge 4 = .ok (.invokevirtual 82, 3) := by decide +kernel
theorem dX6_edge_7 : decode cX6_edge 7 = .ok (.ifCond .ne 7, 3) := by decide +kernel
theorem dX6_edge_10 : decode cX6_edge 10 = .ok (.iconst 1, 1) := by decide +kernel
theorem dX6_edge_11 : decode cX6_edge 11 = .ok (.goto 4, 3) := by decide +kernel
theorem dX6_edge_14 : decode cX6_edge 14 = .ok (.iconst 0, 1) := by decide +kernel
theorem dX6_edge_15 : decode cX6_edge 15 = .ok (.invokevirtual 90, 3) := by decide +kernel
theorem dX6_edge_18 : decode cX6_edge 18 = .ok (.ifCond .ne 12, 3) := by decide +kernel
theorem dX6_edge_21 : decode cX6_edge 21 = .ok (.aload_n 0, 1) := by decide +kernel
theorem dX6_edge_22 : decode cX6_edge 22 = .ok (.getfield 7, 3) := by decide +kernel
theorem dX6_edge_25 : decode cX6_edge 25 = .ok (.iload_n 1, 1) := by decide +kernel
theorem dX6_edge_26 : decode cX6_edge 26 = .ok (.iaload, 1) := by decide +kernel
theorem dX6_edge_27 : decode cX6_edge 27 = .ok (.ifCond .eq 5, 3) := by decide +kernel
theorem dX6_edge_30 : decode cX6_edge 30 = .ok (.iconst 0, 1) := by decide +kernel
theorem dX6_edge_31 : decode cX6_edge 31 = .ok (.ireturn, 1) := by decide +kernel
theorem dX6_edge_32 : decode cX6_edge 32 = .ok (.aload_n 0, 1) := by decide +kernel
theorem dX6_edge_33 : decode cX6_edge 33 = .ok (.getfield 7, 3) := by decide +kernel
theorem dX6_edge_36 : decode cX6_edge 36 = .ok (.iload_n 1, 1) := by decide +kernel
theorem dX6_edge_37 : decode cX6_edge 37 = .ok (.iload_n 2, 1) := by decide +kernel
theorem dX6_edge_38 : decode cX6_edge 38 = .ok (.ifCond .eq 7, 3) := by decide +kernel
theorem dX6_edge_41 : decode cX6_edge 41 = .ok (.iconst 1, 1) := by decide +kernel
theorem dX6_edge_42 : decode cX6_edge 42 = .ok (.goto 4, 3) := by decide +kernel
theorem dX6_edge_45 : decode cX6_edge 45 = .ok (.iconst 2, 1) := by decide +kernel
theorem dX6_edge_46 : decode cX6_edge 46 = .ok (.iastore, 1) := by decide +kernel
theorem dX6_edge_47 : decode cX6_edge 47 = .ok (.aload_n 0, 1) := by decide +kernel
theorem dX6_edge_48 : decode cX6_edge 48 = .ok (.iconst 0, 1) := by decide +kernel
theorem dX6_edge_49 : decode cX6_edge 49 = .ok (.putfield 98, 3) := by decide +kernel
theorem dX6_edge_52 : decode cX6_edge 52 = .ok (.iconst 1, 1) := by decide +kernel
theorem dX6_edge_53 : decode cX6_edge 53 = .ok (.ireturn, 1) := by decide +kernel
set_option maxRecDepth 20000 in
theorem ggX6_duty_X6_isCell : GoodIn wsX6_duty wsX6_isCell := goodIn_r _ [7, 8, 9, 10, 6, 11, 12, 13, 19, 20, 21, 22, 23, 24, 25, 26, 27, 28, 29, 30, 31, 32, 33, 34, 35, 36, 37, 38, 39, 40, 41, 42, 43] (by decide +kernel) (by decide +kernel)
set_option maxRecDepth 20000 in
theorem gX6_duty_X6_isCell : GoodIn wsX6_duty (wsV RX6 102 RX6 yX6_isCell wsX6_isCell) := goodIn_app (goodIn_of _ (by decide +kernel)) ggX6_duty_X6_isCell
set_option maxRecDepth 20000 in
theorem ggX6_duty_X6_fails : GoodIn wsX6_duty wsX6_fails := goodIn_r _ [17, 18, 19, 20, 21, 22, 23, 24, 25, 26, 27, 28, 29, 30, 31, 32, 33, 34, 35, 36, 37, 38, 39, 40, 41, 42, 43] (by decide +kernel) (by decide +kernel)
set_option maxRecDepth 20000 in
theorem gX6_duty_X6_fails : GoodIn wsX6_duty (wsV RX6 90 RX6 yX6_fails wsX6_fails) := goodIn_app (goodIn_of _ (by decide +kernel)) ggX6_duty_X6_fails
theorem dX6_duty_0 : decode cX6_duty 0 = .ok (.aload_n 0, 1) := by decide +kernel
theorem dX6_duty_1 : decode cX6_duty 1 = .ok (.iconst 1, 1) := by decide +kernel
theorem dX6_duty_2 : decode cX6_duty 2 = .ok (.aload_n 0, 1) := by decide +kernel
theorem dX6_duty_3 : decode cX6_duty 3 = .ok (.iload_n 1, 1) := by decide +kernel
theorem dX6_duty_4 : decode cX6_duty 4 = .ok (.invokevirtual 102, 3) := by decide +kernel
theorem dX6_duty_7 : decode cX6_duty 7 = .ok (.ifCond .ne 7, 3) := by decide +kernel
theorem dX6_duty_10 : decode cX6_duty 10 = .ok (.iconst 1, 1) := by decide +kernel
theorem dX6_duty_11 : decode cX6_duty 11 = .ok (.goto 4, 3) := by decide +kernel
theorem dX6_duty_14 : decode cX6_duty 14 = .ok (.iconst 0, 1) := by decide +kernel
theorem dX6_duty_15 : decode cX6_duty 15 = .ok (.invokevirtual 90, 3) := by decide +kernel
theorem dX6_duty_18 : decode cX6_duty 18 = .ok (.ifCond .ne 35, 3) := by decide +kernel
theorem dX6_duty_21 : decode cX6_duty 21 = .ok (.aload_n 0, 1) := by decide +kernel
theorem dX6_duty_22 : decode cX6_duty 22 = .ok (.iconst 2, 1) := by decide +kernel
theorem dX6_duty_23 : decode cX6_duty 23 = .ok (.iload_n 2, 1) := by decide +kernel
theorem dX6_duty_24 : decode cX6_duty 24 = .ok (.ifCond .lt 8, 3) := by decide +kernel
theorem dX6_duty_27 : decode cX6_duty 27 = .ok (.iload_n 2, 1) := by decide +kernel
theorem dX6_duty_28 : decode cX6_duty 28 = .ok (.iconst 2, 1) := by decide +kernel
theorem dX6_duty_29 : decode cX6_duty 29 = .ok (.if_icmp .le 7, 3) := by decide +kernel
theorem dX6_duty_32 : decode cX6_duty 32 = .ok (.iconst 1, 1) := by decide +kernel
theorem dX6_duty_33 : decode cX6_duty 33 = .ok (.goto 4, 3) := by decide +kernel
theorem dX6_duty_36 : decode cX6_duty 36 = .ok (.iconst 0, 1) := by decide +kernel
theorem dX6_duty_37 : decode cX6_duty 37 = .ok (.invokevirtual 90, 3) := by decide +kernel
theorem dX6_duty_40 : decode cX6_duty 40 = .ok (.ifCond .ne 13, 3) := by decide +kernel
theorem dX6_duty_43 : decode cX6_duty 43 = .ok (.aload_n 0, 1) := by decide +kernel
theorem dX6_duty_44 : decode cX6_duty 44 = .ok (.getfield 13, 3) := by decide +kernel
theorem dX6_duty_47 : decode cX6_duty 47 = .ok (.iload_n 1, 1) := by decide +kernel
theorem dX6_duty_48 : decode cX6_duty 48 = .ok (.iaload, 1) := by decide +kernel
theorem dX6_duty_49 : decode cX6_duty 49 = .ok (.iload_n 2, 1) := by decide +kernel
theorem dX6_duty_50 : decode cX6_duty 50 = .ok (.if_icmp .ne 5, 3) := by decide +kernel
theorem dX6_duty_53 : decode cX6_duty 53 = .ok (.iconst 0, 1) := by decide +kernel
