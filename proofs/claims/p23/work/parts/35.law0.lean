abbrev wsJ90 : List Cond := u_ws RJ9 TJ9 0
abbrev wsJ00 : List Cond := u_ws RJ0 TJ0 0
abbrev cL_below : ByteArray := method_2_code
def yL_below : MethodName := ⟨RL, "below", "(II)I"⟩
abbrev cL_cell : ByteArray := method_3_code
def yL_cell : MethodName := ⟨RL, "cell", "([II)I"⟩
abbrev cL_act : ByteArray := method_4_code
def yL_act : MethodName := ⟨RL, "act", "(LKnotRugs;LKnotRugsLaw$Sim;I)Z"⟩
abbrev cL_build : ByteArray := method_5_code
def yL_build : MethodName := ⟨RL, "build", "(LKnotRugs;[I)LKnotRugsLaw$Sim;"⟩
abbrev cL_law : ByteArray := code
def yL_law : MethodName := ⟨RL, "law", "([I)Z"⟩
def wsJ9_min_7cf53 : List Cond := .code yJ9_min_7cf53 cJ9_min_7cf53 2 (some .int) :: ([])
def wsL_below : List Cond := .code yL_below cL_below 2 (some .int) :: ([.constant RL 7 (2147483647)])
def wsL_cell : List Cond := .code yL_cell cL_cell 2 (some .int) :: ([.constant RL 8 (790386105)])
def wsL_act_r1 : List Cond := [Cond.fieldLink RL 15 "KnotRugsLaw$Sim" "runs" "[[[I", Cond.fieldLink RL 30 "KnotRugsLaw$Sim" "plan" "[[I", Cond.fieldLink RL 37 "KnotRugsLaw$Sim" "wool" "[I", Cond.methodLink RL 41 Lib.Math.min.name, Cond.static Lib.Math.min.name, Cond.initialized "java/lang/Math", Cond.code Lib.Math.min.name Lib.Math.min.code 2 (some .int), Cond.fieldLink RL 49 "KnotRugsLaw$Sim" "speed" "[I", Cond.classLink RL 59 "[I", Cond.methodLink RL 9 yL_below, Cond.static yL_below, Cond.initialized RL, Cond.code yL_below cL_below 2 (some .int), Cond.constant RL 7 (2147483647), Cond.methodLink RL 21 yX4_tell, Cond.instanceMethod yX4_tell, Cond.selects RX4 yX4_tell yX4_tell, Cond.initialized RX4, Cond.code yX4_tell cX4_tell 6 none, Cond.fieldLink RX4 19 "KnotRugsLaw$Sim" "runs" "[[[I", Cond.classLink RX4 33 "[I", Cond.arrayClass .int, Cond.methodLink RL 25 yX3_tell, Cond.instanceMethod yX3_tell]
def wsL_act_r2 : List Cond := [Cond.selects RX3 yX3_tell yX3_tell, Cond.initialized RX3, Cond.code yX3_tell cX3_tell 5 (some .int), Cond.classLink RX3 67 "java/lang/IllegalStateException", Cond.initialized "java/lang/IllegalStateException", Cond.fieldLink RX3 10 "KnotRugs" "rug" "LKnotRugs$Rug;", Cond.methodLink RX3 54 yX3_checkWeaver, Cond.static yX3_checkWeaver, Cond.code yX3_checkWeaver cX3_checkWeaver 1 none, Cond.methodLink RX3 93 yX3_checkIndex, Cond.static yX3_checkIndex, Cond.code yX3_checkIndex cX3_checkIndex 2 none, Cond.classLink RX3 172 "java/lang/IndexOutOfBoundsException", Cond.initialized "java/lang/IndexOutOfBoundsException", Cond.methodLink RX3 27 yX3_checkColour, Cond.static yX3_checkColour, Cond.code yX3_checkColour cX3_checkColour 1 none, Cond.methodLink RX3 23 yX3_checkRange, Cond.static yX3_checkRange, Cond.code yX3_checkRange cX3_checkRange 3 none, Cond.classLink RX3 177 "java/lang/IllegalArgumentException", Cond.initialized "java/lang/IllegalArgumentException", Cond.methodLink RX3 57 yX1_weaverAt, Cond.instanceMethod yX1_weaverAt]
def wsL_act_r3 : List Cond := [Cond.selects RX1 yX1_weaverAt yX1_weaverAt, Cond.initialized RX1, Cond.code yX1_weaverAt cX1_weaverAt 2 (some (.object "KnotRugs$Weaver")), Cond.fieldLink RX1 14 "KnotRugs$Rug" "leftWeaver" "LKnotRugs$Weaver;", Cond.fieldLink RX1 20 "KnotRugs$Rug" "rightWeaver" "LKnotRugs$Weaver;", Cond.methodLink RX3 74 yX2_addRun, Cond.instanceMethod yX2_addRun, Cond.selects RX2 yX2_addRun yX2_addRun, Cond.initialized RX2, Cond.code yX2_addRun cX2_addRun 3 none, Cond.fieldLink RX2 18 "KnotRugs$Weaver" "toldColours" "[I", Cond.fieldLink RX2 28 "KnotRugs$Weaver" "told" "I", Cond.fieldLink RX2 21 "KnotRugs$Weaver" "toldKnots" "[I", Cond.static yX3_put, Cond.code yX3_put cX3_put 3 none, Cond.methodLink RL 34 yX3_plan, Cond.instanceMethod yX3_plan, Cond.selects RX3 yX3_plan yX3_plan, Cond.code yX3_plan cX3_plan 9 (some .int), Cond.methodLink RX3 19 yX3_checkCell, Cond.static yX3_checkCell, Cond.code yX3_checkCell cX3_checkCell 2 none, Cond.methodLink RX3 31 yX1_ownerOf, Cond.instanceMethod yX1_ownerOf]
def wsL_act_r4 : List Cond := [Cond.selects RX1 yX1_ownerOf yX1_ownerOf, Cond.code yX1_ownerOf cX1_ownerOf 2 (some (.object "KnotRugs$Weaver")), Cond.static yX3_sideOf, Cond.code yX3_sideOf cX3_sideOf 1 (some .int), Cond.methodLink RX1 41 yX1_weaverAt, Cond.methodLink RX3 35 yX3_placeOf, Cond.static yX3_placeOf, Cond.code yX3_placeOf cX3_placeOf 2 (some .int), Cond.methodLink RX3 39 yX2_planCell, Cond.instanceMethod yX2_planCell, Cond.selects RX2 yX2_planCell yX2_planCell, Cond.code yX2_planCell cX2_planCell 4 (some .boolean), Cond.fieldLink RX2 9 "KnotRugs$Weaver" "planned" "[I", Cond.static yX3_at, Cond.code yX3_at cX3_at 2 (some .int), Cond.methodLink RL 46 yX3_bring, Cond.instanceMethod yX3_bring, Cond.selects RX3 yX3_bring yX3_bring, Cond.code yX3_bring cX3_bring 3 (some .int), Cond.methodLink RX3 49 yX0_fill, Cond.instanceMethod yX0_fill, Cond.selects RX0 yX0_fill yX0_fill, Cond.initialized RX0, Cond.code yX0_fill cX0_fill 4 (some .int)]
def wsL_act_r5 : List Cond := [Cond.fieldLink RX0 9 "KnotRugs$Baskets" "left" "[I", Cond.methodLink RX0 19 Lib.Math.min.name, Cond.methodLink RL 52 yX3_setSpeed, Cond.instanceMethod yX3_setSpeed, Cond.selects RX3 yX3_setSpeed yX3_setSpeed, Cond.code yX3_setSpeed cX3_setSpeed 5 (some .int), Cond.methodLink RL 55 yX4_told, Cond.instanceMethod yX4_told, Cond.selects RX4 yX4_told yX4_told, Cond.code yX4_told cX4_told 7 (some .int), Cond.methodLink RL 60 yX3_hush, Cond.instanceMethod yX3_hush, Cond.selects RX3 yX3_hush yX3_hush, Cond.code yX3_hush cX3_hush 4 (some .int), Cond.methodLink RX3 77 yX2_toldInAll, Cond.instanceMethod yX2_toldInAll, Cond.selects RX2 yX2_toldInAll yX2_toldInAll, Cond.code yX2_toldInAll cX2_toldInAll 3 (some .int), Cond.methodLink RL 63 yX4_knots, Cond.instanceMethod yX4_knots, Cond.selects RX4 yX4_knots yX4_knots, Cond.code yX4_knots cX4_knots 3 (some .int), Cond.fieldLink RX4 9 "KnotRugsLaw$Sim" "rug" "[[I", Cond.methodLink RX4 45 yX4_x]
def wsL_act_r6 : List Cond := [Cond.static yX4_x, Cond.code yX4_x cX4_x 2 (some .int), Cond.methodLink RL 66 yX3_unpick, Cond.instanceMethod yX3_unpick, Cond.selects RX3 yX3_unpick yX3_unpick, Cond.code yX3_unpick cX3_unpick 4 (some .int), Cond.methodLink RX3 86 yX2_undo, Cond.instanceMethod yX2_undo, Cond.selects RX2 yX2_undo yX2_undo, Cond.code yX2_undo cX2_undo 4 none, Cond.fieldLink RX2 31 "KnotRugs$Weaver" "made" "I", Cond.fieldLink RX2 15 "KnotRugs$Weaver" "knotted" "[I", Cond.methodLink RX2 72 yX0_fill, Cond.methodLink RL 69 yX4_unpick, Cond.instanceMethod yX4_unpick, Cond.selects RX4 yX4_unpick yX4_unpick, Cond.code yX4_unpick cX4_unpick 6 (some .int), Cond.fieldLink RX4 29 "KnotRugsLaw$Sim" "wool" "[I", Cond.fieldLink RX4 42 "KnotRugsLaw$Sim" "unpicked" "I", Cond.methodLink RX4 49 yX4_knots]
def wsL_act : List Cond := .code yL_act cL_act 15 (some .boolean) :: ((wsL_act_r1 ++ (wsL_act_r2 ++ (wsL_act_r3 ++ (wsL_act_r4 ++ (wsL_act_r5 ++ wsL_act_r6))))) ++ wsX40 ++ wsX30 ++ wsX20 ++ wsX10 ++ wsX00 ++ (vx_atS RX3 71 "java/lang/IllegalStateException" ["java/lang/RuntimeException", "java/lang/Exception"]).filter goodWord ++ (vx_atS RX3 176 "java/lang/IndexOutOfBoundsException" ["java/lang/RuntimeException", "java/lang/Exception"]).filter goodWord ++ (vx_atS RX3 181 "java/lang/IllegalArgumentException" ["java/lang/RuntimeException", "java/lang/Exception"]).filter goodWord)
def wsL_build_r1 : List Cond := [Cond.classLink RL 16 RX4, Cond.instantiable RX4 8, Cond.initialized RX4, Cond.methodLink RL 70 yX4_init, Cond.instanceMethod yX4_init, Cond.code yX4_init cX4_init 3 none, Cond.methodLink RX4 1 objectInit, Cond.instanceMethod objectInit, Cond.code objectInit ⟨#[0xb1]⟩ 1 none, Cond.classLink RX4 7 "[[I", Cond.arrayClass .int, Cond.fieldLink RX4 9 "KnotRugsLaw$Sim" "rug" "[[I", Cond.fieldLink RX4 14 "KnotRugsLaw$Sim" "plan" "[[I", Cond.fieldLink RX4 19 "KnotRugsLaw$Sim" "runs" "[[[I", Cond.fieldLink RX4 22 "KnotRugsLaw$Sim" "speed" "[I", Cond.fieldLink RX4 26 "KnotRugsLaw$Sim" "others" "[I", Cond.fieldLink RX4 29 "KnotRugsLaw$Sim" "wool" "[I", Cond.methodLink RL 71 yL_cell, Cond.static yL_cell, Cond.initialized RL, Cond.code yL_cell cL_cell 2 (some .int), Cond.constant RL 8 (790386105), Cond.methodLink RL 75 yL_act, Cond.static yL_act]
def wsL_build_r2 : List Cond := [Cond.code yL_act cL_act 15 (some .boolean), Cond.fieldLink RL 15 "KnotRugsLaw$Sim" "runs" "[[[I", Cond.fieldLink RL 30 "KnotRugsLaw$Sim" "plan" "[[I", Cond.fieldLink RL 37 "KnotRugsLaw$Sim" "wool" "[I", Cond.methodLink RL 41 Lib.Math.min.name, Cond.static Lib.Math.min.name, Cond.initialized "java/lang/Math", Cond.code Lib.Math.min.name Lib.Math.min.code 2 (some .int), Cond.fieldLink RL 49 "KnotRugsLaw$Sim" "speed" "[I", Cond.classLink RL 59 "[I", Cond.methodLink RL 9 yL_below, Cond.static yL_below, Cond.code yL_below cL_below 2 (some .int), Cond.constant RL 7 (2147483647), Cond.methodLink RL 21 yX4_tell, Cond.instanceMethod yX4_tell, Cond.selects RX4 yX4_tell yX4_tell, Cond.code yX4_tell cX4_tell 6 none, Cond.classLink RX4 33 "[I", Cond.methodLink RL 25 yX3_tell, Cond.instanceMethod yX3_tell, Cond.selects RX3 yX3_tell yX3_tell, Cond.initialized RX3, Cond.code yX3_tell cX3_tell 5 (some .int)]
def wsL_build_r3 : List Cond := [Cond.classLink RX3 67 "java/lang/IllegalStateException", Cond.initialized "java/lang/IllegalStateException", Cond.fieldLink RX3 10 "KnotRugs" "rug" "LKnotRugs$Rug;", Cond.methodLink RX3 54 yX3_checkWeaver, Cond.static yX3_checkWeaver, Cond.code yX3_checkWeaver cX3_checkWeaver 1 none, Cond.methodLink RX3 93 yX3_checkIndex, Cond.static yX3_checkIndex, Cond.code yX3_checkIndex cX3_checkIndex 2 none, Cond.classLink RX3 172 "java/lang/IndexOutOfBoundsException", Cond.initialized "java/lang/IndexOutOfBoundsException", Cond.methodLink RX3 27 yX3_checkColour, Cond.static yX3_checkColour, Cond.code yX3_checkColour cX3_checkColour 1 none, Cond.methodLink RX3 23 yX3_checkRange, Cond.static yX3_checkRange, Cond.code yX3_checkRange cX3_checkRange 3 none, Cond.classLink RX3 177 "java/lang/IllegalArgumentException", Cond.initialized "java/lang/IllegalArgumentException", Cond.methodLink RX3 57 yX1_weaverAt, Cond.instanceMethod yX1_weaverAt, Cond.selects RX1 yX1_weaverAt yX1_weaverAt, Cond.initialized RX1, Cond.code yX1_weaverAt cX1_weaverAt 2 (some (.object "KnotRugs$Weaver"))]
def wsL_build_r4 : List Cond := [Cond.fieldLink RX1 14 "KnotRugs$Rug" "leftWeaver" "LKnotRugs$Weaver;", Cond.fieldLink RX1 20 "KnotRugs$Rug" "rightWeaver" "LKnotRugs$Weaver;", Cond.methodLink RX3 74 yX2_addRun, Cond.instanceMethod yX2_addRun, Cond.selects RX2 yX2_addRun yX2_addRun, Cond.initialized RX2, Cond.code yX2_addRun cX2_addRun 3 none, Cond.fieldLink RX2 18 "KnotRugs$Weaver" "toldColours" "[I", Cond.fieldLink RX2 28 "KnotRugs$Weaver" "told" "I", Cond.fieldLink RX2 21 "KnotRugs$Weaver" "toldKnots" "[I", Cond.static yX3_put, Cond.code yX3_put cX3_put 3 none, Cond.methodLink RL 34 yX3_plan, Cond.instanceMethod yX3_plan, Cond.selects RX3 yX3_plan yX3_plan, Cond.code yX3_plan cX3_plan 9 (some .int), Cond.methodLink RX3 19 yX3_checkCell, Cond.static yX3_checkCell, Cond.code yX3_checkCell cX3_checkCell 2 none, Cond.methodLink RX3 31 yX1_ownerOf, Cond.instanceMethod yX1_ownerOf, Cond.selects RX1 yX1_ownerOf yX1_ownerOf, Cond.code yX1_ownerOf cX1_ownerOf 2 (some (.object "KnotRugs$Weaver")), Cond.static yX3_sideOf]
def wsL_build_r5 : List Cond := [Cond.code yX3_sideOf cX3_sideOf 1 (some .int), Cond.methodLink RX1 41 yX1_weaverAt, Cond.methodLink RX3 35 yX3_placeOf, Cond.static yX3_placeOf, Cond.code yX3_placeOf cX3_placeOf 2 (some .int), Cond.methodLink RX3 39 yX2_planCell, Cond.instanceMethod yX2_planCell, Cond.selects RX2 yX2_planCell yX2_planCell, Cond.code yX2_planCell cX2_planCell 4 (some .boolean), Cond.fieldLink RX2 9 "KnotRugs$Weaver" "planned" "[I", Cond.static yX3_at, Cond.code yX3_at cX3_at 2 (some .int), Cond.methodLink RL 46 yX3_bring, Cond.instanceMethod yX3_bring, Cond.selects RX3 yX3_bring yX3_bring, Cond.code yX3_bring cX3_bring 3 (some .int), Cond.methodLink RX3 49 yX0_fill, Cond.instanceMethod yX0_fill, Cond.selects RX0 yX0_fill yX0_fill, Cond.initialized RX0, Cond.code yX0_fill cX0_fill 4 (some .int), Cond.fieldLink RX0 9 "KnotRugs$Baskets" "left" "[I", Cond.methodLink RX0 19 Lib.Math.min.name, Cond.methodLink RL 52 yX3_setSpeed]
def wsL_build_r6 : List Cond := [Cond.instanceMethod yX3_setSpeed, Cond.selects RX3 yX3_setSpeed yX3_setSpeed, Cond.code yX3_setSpeed cX3_setSpeed 5 (some .int), Cond.methodLink RL 55 yX4_told, Cond.instanceMethod yX4_told, Cond.selects RX4 yX4_told yX4_told, Cond.code yX4_told cX4_told 7 (some .int), Cond.methodLink RL 60 yX3_hush, Cond.instanceMethod yX3_hush, Cond.selects RX3 yX3_hush yX3_hush, Cond.code yX3_hush cX3_hush 4 (some .int), Cond.methodLink RX3 77 yX2_toldInAll, Cond.instanceMethod yX2_toldInAll, Cond.selects RX2 yX2_toldInAll yX2_toldInAll, Cond.code yX2_toldInAll cX2_toldInAll 3 (some .int), Cond.methodLink RL 63 yX4_knots, Cond.instanceMethod yX4_knots, Cond.selects RX4 yX4_knots yX4_knots, Cond.code yX4_knots cX4_knots 3 (some .int), Cond.methodLink RX4 45 yX4_x, Cond.static yX4_x, Cond.code yX4_x cX4_x 2 (some .int), Cond.methodLink RL 66 yX3_unpick, Cond.instanceMethod yX3_unpick]
def wsL_build_r7 : List Cond := [Cond.selects RX3 yX3_unpick yX3_unpick, Cond.code yX3_unpick cX3_unpick 4 (some .int), Cond.methodLink RX3 86 yX2_undo, Cond.instanceMethod yX2_undo, Cond.selects RX2 yX2_undo yX2_undo, Cond.code yX2_undo cX2_undo 4 none, Cond.fieldLink RX2 31 "KnotRugs$Weaver" "made" "I", Cond.fieldLink RX2 15 "KnotRugs$Weaver" "knotted" "[I", Cond.methodLink RX2 72 yX0_fill, Cond.methodLink RL 69 yX4_unpick, Cond.instanceMethod yX4_unpick, Cond.selects RX4 yX4_unpick yX4_unpick, Cond.code yX4_unpick cX4_unpick 6 (some .int), Cond.fieldLink RX4 42 "KnotRugsLaw$Sim" "unpicked" "I", Cond.methodLink RX4 49 yX4_knots]
def wsL_build : List Cond := .code yL_build cL_build 4 (some (.object "KnotRugsLaw$Sim")) :: ((wsL_build_r1 ++ (wsL_build_r2 ++ (wsL_build_r3 ++ (wsL_build_r4 ++ (wsL_build_r5 ++ (wsL_build_r6 ++ wsL_build_r7)))))) ++ wsX40 ++ wsX30 ++ wsX20 ++ wsX10 ++ wsX00 ++ (vx_atS RX3 71 "java/lang/IllegalStateException" ["java/lang/RuntimeException", "java/lang/Exception"]).filter goodWord ++ (vx_atS RX3 176 "java/lang/IndexOutOfBoundsException" ["java/lang/RuntimeException", "java/lang/Exception"]).filter goodWord ++ (vx_atS RX3 181 "java/lang/IllegalArgumentException" ["java/lang/RuntimeException", "java/lang/Exception"]).filter goodWord)
def wsL_law0_r1 : List Cond := [Cond.classLink RL 26 RX3, Cond.instantiable RX3 2, Cond.initialized RX3, Cond.arrayClass .int, Cond.methodLink RL 41 Lib.Math.min.name, Cond.static Lib.Math.min.name, Cond.initialized "java/lang/Math", Cond.code Lib.Math.min.name Lib.Math.min.code 2 (some .int), Cond.methodLink RL 79 yX3_init, Cond.instanceMethod yX3_init, Cond.code yX3_init cX3_init 1 none, Cond.methodLink RX3 1 objectInit, Cond.instanceMethod objectInit, Cond.code objectInit ⟨#[0xb1]⟩ 1 none, Cond.classLink RX3 7 RX1, Cond.instantiable RX1 5, Cond.initialized RX1, Cond.fieldLink RX3 10 "KnotRugs" "rug" "LKnotRugs$Rug;", Cond.fieldLink RX3 16 "KnotRugs" "trial" "LKnotRugs$Rug;", Cond.instanceMethod yX1_init, Cond.code yX1_init cX1_init 1 none, Cond.methodLink RX1 3 objectInit, Cond.classLink RX1 9 RX2, Cond.instantiable RX2 9]
def wsL_law0_r2 : List Cond := [Cond.initialized RX2, Cond.fieldLink RX1 14 "KnotRugs$Rug" "leftWeaver" "LKnotRugs$Weaver;", Cond.fieldLink RX1 20 "KnotRugs$Rug" "rightWeaver" "LKnotRugs$Weaver;", Cond.classLink RX1 23 RX0, Cond.instantiable RX0 1, Cond.initialized RX0, Cond.fieldLink RX1 26 "KnotRugs$Rug" "baskets" "LKnotRugs$Baskets;", Cond.fieldLink RX1 30 "KnotRugs$Rug" "hour" "I", Cond.fieldLink RX1 34 "KnotRugs$Rug" "unpicked" "I", Cond.methodLink RX1 11 yX2_init, Cond.instanceMethod yX2_init, Cond.code yX2_init cX2_init 2 none, Cond.methodLink RX2 3 objectInit, Cond.fieldLink RX2 9 "KnotRugs$Weaver" "planned" "[I", Cond.fieldLink RX2 15 "KnotRugs$Weaver" "knotted" "[I", Cond.fieldLink RX2 18 "KnotRugs$Weaver" "toldColours" "[I", Cond.fieldLink RX2 21 "KnotRugs$Weaver" "toldKnots" "[I", Cond.fieldLink RX2 24 "KnotRugs$Weaver" "speed" "I", Cond.fieldLink RX2 28 "KnotRugs$Weaver" "told" "I", Cond.fieldLink RX2 31 "KnotRugs$Weaver" "made" "I", Cond.fieldLink RX2 34 "KnotRugs$Weaver" "inAnotherColour" "I", Cond.fieldLink RX2 37 "KnotRugs$Weaver" "side" "I", Cond.methodLink RX1 25 yX0_init, Cond.instanceMethod yX0_init]
def wsL_law0_r3 : List Cond := [Cond.code yX0_init cX0_init 2 none, Cond.methodLink RX0 3 objectInit, Cond.fieldLink RX0 9 "KnotRugs$Baskets" "left" "[I", Cond.methodLink RL 80 yL_build, Cond.static yL_build, Cond.initialized RL, Cond.code yL_build cL_build 4 (some (.object "KnotRugsLaw$Sim")), Cond.classLink RL 16 RX4, Cond.instantiable RX4 8, Cond.initialized RX4, Cond.methodLink RL 70 yX4_init, Cond.instanceMethod yX4_init, Cond.code yX4_init cX4_init 3 none, Cond.methodLink RX4 1 objectInit, Cond.classLink RX4 7 "[[I", Cond.fieldLink RX4 9 "KnotRugsLaw$Sim" "rug" "[[I", Cond.fieldLink RX4 14 "KnotRugsLaw$Sim" "plan" "[[I", Cond.fieldLink RX4 19 "KnotRugsLaw$Sim" "runs" "[[[I", Cond.fieldLink RX4 22 "KnotRugsLaw$Sim" "speed" "[I", Cond.fieldLink RX4 26 "KnotRugsLaw$Sim" "others" "[I", Cond.fieldLink RX4 29 "KnotRugsLaw$Sim" "wool" "[I", Cond.methodLink RL 71 yL_cell, Cond.static yL_cell, Cond.code yL_cell cL_cell 2 (some .int)]
def wsL_law0_r4 : List Cond := [Cond.constant RL 8 (790386105), Cond.methodLink RL 75 yL_act, Cond.static yL_act, Cond.code yL_act cL_act 15 (some .boolean), Cond.fieldLink RL 15 "KnotRugsLaw$Sim" "runs" "[[[I", Cond.fieldLink RL 30 "KnotRugsLaw$Sim" "plan" "[[I", Cond.fieldLink RL 37 "KnotRugsLaw$Sim" "wool" "[I", Cond.fieldLink RL 49 "KnotRugsLaw$Sim" "speed" "[I", Cond.classLink RL 59 "[I", Cond.methodLink RL 9 yL_below, Cond.static yL_below, Cond.code yL_below cL_below 2 (some .int), Cond.constant RL 7 (2147483647), Cond.methodLink RL 21 yX4_tell, Cond.instanceMethod yX4_tell, Cond.selects RX4 yX4_tell yX4_tell, Cond.code yX4_tell cX4_tell 6 none, Cond.classLink RX4 33 "[I", Cond.methodLink RL 25 yX3_tell, Cond.instanceMethod yX3_tell, Cond.selects RX3 yX3_tell yX3_tell, Cond.code yX3_tell cX3_tell 5 (some .int), Cond.classLink RX3 67 "java/lang/IllegalStateException", Cond.initialized "java/lang/IllegalStateException"]
def wsL_law0_r5 : List Cond := [Cond.methodLink RX3 54 yX3_checkWeaver, Cond.static yX3_checkWeaver, Cond.code yX3_checkWeaver cX3_checkWeaver 1 none, Cond.methodLink RX3 93 yX3_checkIndex, Cond.static yX3_checkIndex, Cond.code yX3_checkIndex cX3_checkIndex 2 none, Cond.classLink RX3 172 "java/lang/IndexOutOfBoundsException", Cond.initialized "java/lang/IndexOutOfBoundsException", Cond.methodLink RX3 27 yX3_checkColour, Cond.static yX3_checkColour, Cond.code yX3_checkColour cX3_checkColour 1 none, Cond.methodLink RX3 23 yX3_checkRange, Cond.static yX3_checkRange, Cond.code yX3_checkRange cX3_checkRange 3 none, Cond.classLink RX3 177 "java/lang/IllegalArgumentException", Cond.initialized "java/lang/IllegalArgumentException", Cond.methodLink RX3 57 yX1_weaverAt, Cond.instanceMethod yX1_weaverAt, Cond.selects RX1 yX1_weaverAt yX1_weaverAt, Cond.code yX1_weaverAt cX1_weaverAt 2 (some (.object "KnotRugs$Weaver")), Cond.methodLink RX3 74 yX2_addRun, Cond.instanceMethod yX2_addRun, Cond.selects RX2 yX2_addRun yX2_addRun, Cond.code yX2_addRun cX2_addRun 3 none]
def wsL_law0_r6 : List Cond := [Cond.static yX3_put, Cond.code yX3_put cX3_put 3 none, Cond.methodLink RL 34 yX3_plan, Cond.instanceMethod yX3_plan, Cond.selects RX3 yX3_plan yX3_plan, Cond.code yX3_plan cX3_plan 9 (some .int), Cond.methodLink RX3 19 yX3_checkCell, Cond.static yX3_checkCell, Cond.code yX3_checkCell cX3_checkCell 2 none, Cond.methodLink RX3 31 yX1_ownerOf, Cond.instanceMethod yX1_ownerOf, Cond.selects RX1 yX1_ownerOf yX1_ownerOf, Cond.code yX1_ownerOf cX1_ownerOf 2 (some (.object "KnotRugs$Weaver")), Cond.static yX3_sideOf, Cond.code yX3_sideOf cX3_sideOf 1 (some .int), Cond.methodLink RX1 41 yX1_weaverAt, Cond.methodLink RX3 35 yX3_placeOf, Cond.static yX3_placeOf, Cond.code yX3_placeOf cX3_placeOf 2 (some .int), Cond.methodLink RX3 39 yX2_planCell, Cond.instanceMethod yX2_planCell, Cond.selects RX2 yX2_planCell yX2_planCell, Cond.code yX2_planCell cX2_planCell 4 (some .boolean), Cond.static yX3_at]
def wsL_law0_r7 : List Cond := [Cond.code yX3_at cX3_at 2 (some .int), Cond.methodLink RL 46 yX3_bring, Cond.instanceMethod yX3_bring, Cond.selects RX3 yX3_bring yX3_bring, Cond.code yX3_bring cX3_bring 3 (some .int), Cond.methodLink RX3 49 yX0_fill, Cond.instanceMethod yX0_fill, Cond.selects RX0 yX0_fill yX0_fill, Cond.code yX0_fill cX0_fill 4 (some .int), Cond.methodLink RX0 19 Lib.Math.min.name, Cond.methodLink RL 52 yX3_setSpeed, Cond.instanceMethod yX3_setSpeed, Cond.selects RX3 yX3_setSpeed yX3_setSpeed, Cond.code yX3_setSpeed cX3_setSpeed 5 (some .int), Cond.methodLink RL 55 yX4_told, Cond.instanceMethod yX4_told, Cond.selects RX4 yX4_told yX4_told, Cond.code yX4_told cX4_told 7 (some .int), Cond.methodLink RL 60 yX3_hush, Cond.instanceMethod yX3_hush, Cond.selects RX3 yX3_hush yX3_hush, Cond.code yX3_hush cX3_hush 4 (some .int), Cond.methodLink RX3 77 yX2_toldInAll, Cond.instanceMethod yX2_toldInAll]
def wsL_law0_r8 : List Cond := [Cond.selects RX2 yX2_toldInAll yX2_toldInAll, Cond.code yX2_toldInAll cX2_toldInAll 3 (some .int), Cond.methodLink RL 63 yX4_knots, Cond.instanceMethod yX4_knots, Cond.selects RX4 yX4_knots yX4_knots, Cond.code yX4_knots cX4_knots 3 (some .int), Cond.methodLink RX4 45 yX4_x, Cond.static yX4_x, Cond.code yX4_x cX4_x 2 (some .int), Cond.methodLink RL 66 yX3_unpick, Cond.instanceMethod yX3_unpick, Cond.selects RX3 yX3_unpick yX3_unpick, Cond.code yX3_unpick cX3_unpick 4 (some .int), Cond.methodLink RX3 86 yX2_undo, Cond.instanceMethod yX2_undo, Cond.selects RX2 yX2_undo yX2_undo, Cond.code yX2_undo cX2_undo 4 none, Cond.methodLink RX2 72 yX0_fill, Cond.methodLink RL 69 yX4_unpick, Cond.instanceMethod yX4_unpick, Cond.selects RX4 yX4_unpick yX4_unpick, Cond.code yX4_unpick cX4_unpick 6 (some .int), Cond.fieldLink RX4 42 "KnotRugsLaw$Sim" "unpicked" "I", Cond.methodLink RX4 49 yX4_knots]
def wsL_law0_r9 : List Cond := [Cond.methodLink RL 84 yX3_count, Cond.instanceMethod yX3_count, Cond.selects RX3 yX3_count yX3_count, Cond.code yX3_count cX3_count 2 (some .int), Cond.methodLink RX3 123 yX1_number, Cond.instanceMethod yX1_number, Cond.selects RX1 yX1_number yX1_number, Cond.code yX1_number cX1_number 2 (some .int), Cond.methodLink RX1 78 yX1_knots, Cond.instanceMethod yX1_knots, Cond.selects RX1 yX1_knots yX1_knots, Cond.code yX1_knots cX1_knots 1 (some .int), Cond.methodLink RX1 82 yX1_offPlan, Cond.instanceMethod yX1_offPlan, Cond.selects RX1 yX1_offPlan yX1_offPlan, Cond.code yX1_offPlan cX1_offPlan 1 (some .int), Cond.methodLink RX1 100 yX2_offPlan, Cond.instanceMethod yX2_offPlan, Cond.selects RX2 yX2_offPlan yX2_offPlan, Cond.code yX2_offPlan cX2_offPlan 3 (some .int), Cond.methodLink RX1 85 yX1_rowsDone, Cond.instanceMethod yX1_rowsDone, Cond.selects RX1 yX1_rowsDone yX1_rowsDone, Cond.code yX1_rowsDone cX1_rowsDone 1 (some .int)]
def wsL_law0_r10 : List Cond := [Cond.methodLink RX1 102 Lib.Math.min.name, Cond.methodLink RX1 101 yX2_rowsDone, Cond.instanceMethod yX2_rowsDone, Cond.selects RX2 yX2_rowsDone yX2_rowsDone, Cond.code yX2_rowsDone cX2_rowsDone 1 (some .int), Cond.methodLink RX1 88 yX1_tornRows, Cond.instanceMethod yX1_tornRows, Cond.selects RX1 yX1_tornRows yX1_tornRows, Cond.code yX1_tornRows cX1_tornRows 7 (some .int), Cond.methodLink RX1 91 yX0_inAll, Cond.instanceMethod yX0_inAll, Cond.selects RX0 yX0_inAll yX0_inAll, Cond.code yX0_inAll cX0_inAll 3 (some .int), Cond.methodLink RX1 94 yX0_empty, Cond.instanceMethod yX0_empty, Cond.selects RX0 yX0_empty yX0_empty, Cond.code yX0_empty cX0_empty 3 (some .int), Cond.methodLink RL 87 yX3_weaver, Cond.instanceMethod yX3_weaver, Cond.selects RX3 yX3_weaver yX3_weaver, Cond.code yX3_weaver cX3_weaver 3 (some .int), Cond.methodLink RX3 109 yX2_number, Cond.instanceMethod yX2_number, Cond.selects RX2 yX2_number yX2_number]
def wsL_law0_r11 : List Cond := [Cond.code yX2_number cX2_number 2 (some .int), Cond.methodLink RX2 76 yX2_toldInAll, Cond.methodLink RX2 80 yX2_nextX, Cond.instanceMethod yX2_nextX, Cond.selects RX2 yX2_nextX yX2_nextX, Cond.code yX2_nextX cX2_nextX 2 (some .int), Cond.methodLink RX2 52 yX2_isHalfDone, Cond.instanceMethod yX2_isHalfDone, Cond.selects RX2 yX2_isHalfDone yX2_isHalfDone, Cond.code yX2_isHalfDone cX2_isHalfDone 1 (some .boolean), Cond.methodLink RL 90 yX3_done, Cond.instanceMethod yX3_done, Cond.selects RX3 yX3_done yX3_done, Cond.code yX3_done cX3_done 4 (some .int), Cond.methodLink RX3 146 yX1_becomeLike, Cond.instanceMethod yX1_becomeLike, Cond.selects RX1 yX1_becomeLike yX1_becomeLike, Cond.code yX1_becomeLike cX1_becomeLike 2 none, Cond.methodLink RX1 63 yX2_becomeLike, Cond.instanceMethod yX2_becomeLike, Cond.selects RX2 yX2_becomeLike yX2_becomeLike, Cond.code yX2_becomeLike cX2_becomeLike 2 none, Cond.static yX3_copyRow, Cond.code yX3_copyRow cX3_copyRow 3 none]
def wsL_law0_r12 : List Cond := [Cond.methodLink RX3 150 yX2_hasWork, Cond.instanceMethod yX2_hasWork, Cond.selects RX2 yX2_hasWork yX2_hasWork, Cond.code yX2_hasWork cX2_hasWork 1 (some .boolean), Cond.methodLink RX3 143 yX1_letGoBy, Cond.instanceMethod yX1_letGoBy, Cond.selects RX1 yX1_letGoBy yX1_letGoBy, Cond.code yX1_letGoBy cX1_letGoBy 4 (some .int), Cond.methodLink RX1 74 yX2_workAnHour, Cond.instanceMethod yX2_workAnHour, Cond.selects RX2 yX2_workAnHour yX2_workAnHour, Cond.code yX2_workAnHour cX2_workAnHour 3 (some .int), Cond.methodLink RX2 56 yX2_hasWork, Cond.methodLink RX2 59 yX2_knotNext, Cond.instanceMethod yX2_knotNext, Cond.selects RX2 yX2_knotNext yX2_knotNext, Cond.code yX2_knotNext cX2_knotNext 4 (some .boolean), Cond.methodLink RX2 63 yX0_take, Cond.instanceMethod yX0_take, Cond.selects RX0 yX0_take yX0_take, Cond.code yX0_take cX0_take 5 (some .int), Cond.methodLink RX2 69 yX2_shortenFirstRun, Cond.instanceMethod yX2_shortenFirstRun, Cond.selects RX2 yX2_shortenFirstRun yX2_shortenFirstRun]
def wsL_law0_r13 : List Cond := [Cond.code yX2_shortenFirstRun cX2_shortenFirstRun 3 none, Cond.methodLink RL 93 yX3_foresee, Cond.instanceMethod yX3_foresee, Cond.selects RX3 yX3_foresee yX3_foresee, Cond.code yX3_foresee cX3_foresee 3 (some .int), Cond.methodLink RX3 153 yX1_knots, Cond.methodLink RX3 156 yX1_offPlan, Cond.methodLink RX3 159 yX1_tornRows, Cond.methodLink RL 96 yX3_pass, Cond.instanceMethod yX3_pass, Cond.selects RX3 yX3_pass yX3_pass, Cond.code yX3_pass cX3_pass 2 (some .int), Cond.methodLink RL 99 yX4_pass, Cond.instanceMethod yX4_pass, Cond.selects RX4 yX4_pass yX4_pass, Cond.code yX4_pass cX4_pass 4 (some .int), Cond.fieldLink RX4 38 "KnotRugsLaw$Sim" "hour" "I", Cond.methodLink RX4 53 yX4_isDone, Cond.instanceMethod yX4_isDone, Cond.selects RX4 yX4_isDone yX4_isDone, Cond.code yX4_isDone cX4_isDone 2 (some .boolean), Cond.methodLink RX4 57 yX4_knot, Cond.instanceMethod yX4_knot, Cond.selects RX4 yX4_knot yX4_knot]
def wsL_law0_r14 : List Cond := [Cond.code yX4_knot cX4_knot 7 (some .boolean), Cond.methodLink RL 102 yX3_cell, Cond.instanceMethod yX3_cell, Cond.selects RX3 yX3_cell yX3_cell, Cond.code yX3_cell cX3_cell 4 (some .int), Cond.methodLink RX3 96 yX1_knotAt, Cond.instanceMethod yX1_knotAt, Cond.selects RX1 yX1_knotAt yX1_knotAt, Cond.code yX1_knotAt cX1_knotAt 3 (some .int), Cond.methodLink RX1 45 yX1_ownerOf, Cond.methodLink RX1 52 yX2_knotAtPlace, Cond.instanceMethod yX2_knotAtPlace, Cond.selects RX2 yX2_knotAtPlace yX2_knotAtPlace, Cond.code yX2_knotAtPlace cX2_knotAtPlace 2 (some .int), Cond.methodLink RX3 99 yX1_planAt, Cond.instanceMethod yX1_planAt, Cond.selects RX1 yX1_planAt yX1_planAt, Cond.code yX1_planAt cX1_planAt 3 (some .int), Cond.methodLink RL 104 yX3_sees, Cond.instanceMethod yX3_sees, Cond.selects RX3 yX3_sees yX3_sees, Cond.code yX3_sees cX3_sees 6 (some .int), Cond.methodLink RX3 102 yX3_sideOf, Cond.methodLink RX3 106 yX2_rowsDone]
def wsL_law0_r15 : List Cond := [Cond.methodLink RL 107 yX3_runs, Cond.instanceMethod yX3_runs, Cond.selects RX3 yX3_runs yX3_runs, Cond.code yX3_runs cX3_runs 2 (some .int), Cond.methodLink RX3 137 yX2_fewestRuns, Cond.instanceMethod yX2_fewestRuns, Cond.selects RX2 yX2_fewestRuns yX2_fewestRuns, Cond.code yX2_fewestRuns cX2_fewestRuns 3 (some .int), Cond.methodLink RL 109 yX3_advise, Cond.instanceMethod yX3_advise, Cond.selects RX3 yX3_advise yX3_advise, Cond.code yX3_advise cX3_advise 3 (some .int), Cond.methodLink RX3 127 yX2_isHalfDone, Cond.methodLink RX3 116 yX3_at, Cond.methodLink RX3 134 yX2_alikeAhead, Cond.instanceMethod yX2_alikeAhead, Cond.selects RX2 yX2_alikeAhead yX2_alikeAhead, Cond.code yX2_alikeAhead cX2_alikeAhead 2 (some .int), Cond.methodLink RL 112 yX3_run, Cond.instanceMethod yX3_run, Cond.selects RX3 yX3_run yX3_run, Cond.code yX3_run cX3_run 5 (some .int), Cond.methodLink RL 115 yX3_mends, Cond.instanceMethod yX3_mends]
def wsL_law0_r16 : List Cond := [Cond.selects RX3 yX3_mends yX3_mends, Cond.code yX3_mends cX3_mends 3 (some .int), Cond.methodLink RX3 140 yX2_firstOffPlan, Cond.instanceMethod yX2_firstOffPlan, Cond.selects RX2 yX2_firstOffPlan yX2_firstOffPlan, Cond.code yX2_firstOffPlan cX2_firstOffPlan 2 (some .int), Cond.methodLink RL 118 yX4_isSame, Cond.instanceMethod yX4_isSame, Cond.selects RX4 yX4_isSame yX4_isSame, Cond.code yX4_isSame cX4_isSame 9 (some .boolean), Cond.methodLink RX4 64 yX3_wool, Cond.instanceMethod yX3_wool, Cond.selects RX3 yX3_wool yX3_wool, Cond.code yX3_wool cX3_wool 2 (some .int), Cond.methodLink RX4 68 yX3_cell, Cond.methodLink RX4 60 yX4_isRow, Cond.instanceMethod yX4_isRow, Cond.selects RX4 yX4_isRow yX4_isRow, Cond.code yX4_isRow cX4_isRow 4 (some .boolean), Cond.methodLink RX4 72 yX3_sees, Cond.methodLink RX4 75 yX4_told, Cond.methodLink RX4 78 yX3_weaver, Cond.methodLink RX4 81 yX3_run, Cond.methodLink RX4 84 yX4_differ]
def wsL_law0_r17 : List Cond := [Cond.instanceMethod yX4_differ, Cond.selects RX4 yX4_differ yX4_differ, Cond.code yX4_differ cX4_differ 4 (some .int), Cond.methodLink RX4 88 yX4_rows, Cond.instanceMethod yX4_rows, Cond.selects RX4 yX4_rows yX4_rows, Cond.code yX4_rows cX4_rows 6 (some .int), Cond.methodLink RX4 92 yX3_count, Cond.methodLink RX4 95 yX3_share, Cond.instanceMethod yX3_share, Cond.selects RX3 yX3_share yX3_share, Cond.code yX3_share cX3_share 2 (some .double)]
def wsL_law0 : List Cond := (wsL_law0_r1 ++ (wsL_law0_r2 ++ (wsL_law0_r3 ++ (wsL_law0_r4 ++ (wsL_law0_r5 ++ (wsL_law0_r6 ++ (wsL_law0_r7 ++ (wsL_law0_r8 ++ (wsL_law0_r9 ++ (wsL_law0_r10 ++ (wsL_law0_r11 ++ (wsL_law0_r12 ++ (wsL_law0_r13 ++ (wsL_law0_r14 ++ (wsL_law0_r15 ++ (wsL_law0_r16 ++ wsL_law0_r17)))))))))))))))) ++ wsX30 ++ wsX10 ++ wsX20 ++ wsX00 ++ wsX40 ++ ([] : List Cond)
def wsL_law : List Cond := wsL_law0 ++ (vx_atS RX3 71 "java/lang/IllegalStateException" ["java/lang/RuntimeException", "java/lang/Exception"]).filter goodWord ++ (vx_atS RX3 176 "java/lang/IndexOutOfBoundsException" ["java/lang/RuntimeException", "java/lang/Exception"]).filter goodWord ++ (vx_atS RX3 181 "java/lang/IllegalArgumentException" ["java/lang/RuntimeException", "java/lang/Exception"]).filter goodWord
set_option maxRecDepth 20000 in
theorem dL_below_0 : decode cL_below 0 = .ok (.iload_n 0, 1) := by decide +kernel
theorem dL_below_1 : decode cL_below 1 = .ok (.ldc 7, 2) := by decide +kernel
theorem dL_below_3 : decode cL_below 3 = .ok (.iand, 1) := by decide +kernel
theorem dL_below_4 : decode cL_below 4 = .ok (.iload_n 1, 1) := by decide +kernel
theorem dL_below_5 : decode cL_below 5 = .ok (.irem, 1) := by decide +kernel
theorem dL_below_6 : decode cL_below 6 = .ok (.ireturn, 1) := by decide +kernel
theorem dL_cell_0 : decode cL_cell 0 = .ok (.iload_n 1, 1) := by decide +kernel
theorem dL_cell_1 : decode cL_cell 1 = .ok (.aload_n 0, 1) := by decide +kernel
theorem dL_cell_2 : decode cL_cell 2 = .ok (.arraylength, 1) := by decide +kernel
theorem dL_cell_3 : decode cL_cell 3 = .ok (.if_icmp .ge 9, 3) := by decide +kernel
theorem dL_cell_6 : decode cL_cell 6 = .ok (.aload_n 0, 1) := by decide +kernel
theorem dL_cell_7 : decode cL_cell 7 = .ok (.iload_n 1, 1) := by decide +kernel
theorem dL_cell_8 : decode cL_cell 8 = .ok (.iaload, 1) := by decide +kernel
theorem dL_cell_9 : decode cL_cell 9 = .ok (.goto 9, 3) := by decide +kernel
theorem dL_cell_12 : decode cL_cell 12 = .ok (.ldc 8, 2) := by decide +kernel
theorem dL_cell_14 : decode cL_cell 14 = .ok (.iload_n 1, 1) := by decide +kernel
theorem dL_cell_15 : decode cL_cell 15 = .ok (.iconst 3, 1) := by decide +kernel
theorem dL_cell_16 : decode cL_cell 16 = .ok (.iadd, 1) := by decide +kernel
theorem dL_cell_17 : decode cL_cell 17 = .ok (.imul, 1) := by decide +kernel
theorem dL_cell_18 : decode cL_cell 18 = .ok (.ireturn, 1) := by decide +kernel
set_option maxRecDepth 20000 in
theorem ggL_act_L_below : GoodIn wsL_act wsL_below := goodIn_r _ [13, 14] (by decide +kernel) (by decide +kernel)
set_option maxRecDepth 20000 in
theorem gL_act_L_below : GoodIn wsL_act (va_wsS RL 9 yL_below wsL_below) := goodIn_app (goodIn_of _ (by decide +kernel)) ggL_act_L_below
set_option maxRecDepth 20000 in
theorem ggL_act_X4_tell : GoodIn wsL_act wsX4_tell := goodIn_r _ [19, 20, 21, 22, 141, 142, 143, 144, 145, 146, 147, 148] (by decide +kernel) (by decide +kernel)
set_option maxRecDepth 20000 in
theorem gL_act_X4_tell : GoodIn wsL_act (wsV RL 21 RX4 yX4_tell wsX4_tell) := goodIn_app (goodIn_of _ (by decide +kernel)) ggL_act_X4_tell
set_option maxRecDepth 20000 in
theorem ggL_act_X3_tell : GoodIn wsL_act wsX3_tell := goodIn_ca (goodIn_ca (goodIn_ca (goodIn_r _ [27, 28, 29, 30, 31, 32, 26, 33, 34, 35, 36, 37, 38, 39, 40, 41, 42, 43, 44, 45, 46, 47, 48, 49, 50, 51, 52, 53, 54, 55, 56, 57, 58, 59, 60, 61, 62, 63, 149, 150, 151, 152, 153, 154, 155, 156, 157, 158, 159, 160, 161, 162, 163, 164] (by decide +kernel) (by decide +kernel)) (goodIn_sub (fun _ h => List.mem_cons_of_mem _ (List.mem_append_left _ (List.mem_append_left _ (List.mem_append_right _ h)))) (by decide +kernel))) (goodIn_sub (fun _ h => List.mem_cons_of_mem _ (List.mem_append_left _ (List.mem_append_right _ h))) (by decide +kernel))) (goodIn_sub (fun _ h => List.mem_cons_of_mem _ (List.mem_append_right _ h)) (by decide +kernel))
set_option maxRecDepth 20000 in
theorem gL_act_X3_tell : GoodIn wsL_act (wsV RL 25 RX3 yX3_tell wsX3_tell) := goodIn_app (goodIn_of _ (by decide +kernel)) ggL_act_X3_tell
set_option maxRecDepth 20000 in
theorem ggL_act_X3_plan : GoodIn wsL_act wsX3_plan := goodIn_ca (goodIn_ca (goodIn_r _ [67, 30, 68, 69, 26, 70, 34, 35, 36, 37, 38, 42, 43, 44, 45, 46, 39, 40, 41, 71, 72, 73, 50, 74, 75, 76, 77, 48, 49, 51, 52, 53, 78, 79, 80, 81, 82, 83, 57, 84, 85, 86, 87, 62, 63, 149, 150, 160, 161, 162, 163, 164, 151, 152, 153, 154, 155, 156, 157, 158, 159] (by decide +kernel) (by decide +kernel)) (goodIn_sub (fun _ h => List.mem_cons_of_mem _ (List.mem_append_left _ (List.mem_append_right _ h))) (by decide +kernel))) (goodIn_sub (fun _ h => List.mem_cons_of_mem _ (List.mem_append_right _ h)) (by decide +kernel))
set_option maxRecDepth 20000 in
theorem gL_act_X3_plan : GoodIn wsL_act (wsV RL 34 RX3 yX3_plan wsX3_plan) := goodIn_app (goodIn_of _ (by decide +kernel)) ggL_act_X3_plan
set_option maxRecDepth 20000 in
theorem ggL_act_X3_bring : GoodIn wsL_act wsX3_bring := goodIn_ca (goodIn_r _ [91, 30, 39, 40, 26, 41, 42, 43, 44, 45, 46, 92, 93, 94, 95, 96, 97, 98, 5, 6, 7, 86, 87, 62, 63, 149, 150, 160, 161, 162, 163, 164, 165] (by decide +kernel) (by decide +kernel)) (goodIn_sub (fun _ h => List.mem_cons_of_mem _ (List.mem_append_right _ h)) (by decide +kernel))
set_option maxRecDepth 20000 in
theorem gL_act_X3_bring : GoodIn wsL_act (wsV RL 46 RX3 yX3_bring wsX3_bring) := goodIn_app (goodIn_of _ (by decide +kernel)) ggL_act_X3_bring
set_option maxRecDepth 20000 in
theorem ggL_act_X3_setSpeed : GoodIn wsL_act wsX3_setSpeed := goodIn_ca (goodIn_ca (goodIn_r _ [102, 30, 31, 32, 26, 33, 34, 35, 36, 37, 38, 42, 43, 44, 45, 46, 47, 48, 49, 50, 51, 52, 53, 149, 150, 151, 152, 153, 154, 155, 156, 157, 158, 159, 160, 161, 162, 163, 164] (by decide +kernel) (by decide +kernel)) (goodIn_sub (fun _ h => List.mem_cons_of_mem _ (List.mem_append_left _ (List.mem_append_right _ h))) (by decide +kernel))) (goodIn_sub (fun _ h => List.mem_cons_of_mem _ (List.mem_append_right _ h)) (by decide +kernel))
set_option maxRecDepth 20000 in
theorem gL_act_X3_setSpeed : GoodIn wsL_act (wsV RL 52 RX3 yX3_setSpeed wsX3_setSpeed) := goodIn_app (goodIn_of _ (by decide +kernel)) ggL_act_X3_setSpeed
set_option maxRecDepth 20000 in
theorem ggL_act_X4_told : GoodIn wsL_act wsX4_told := goodIn_r _ [106, 20, 141, 142, 143, 144, 145, 146, 147, 148] (by decide +kernel) (by decide +kernel)
set_option maxRecDepth 20000 in
theorem gL_act_X4_told : GoodIn wsL_act (wsV RL 55 RX4 yX4_told wsX4_told) := goodIn_app (goodIn_of _ (by decide +kernel)) ggL_act_X4_told
set_option maxRecDepth 20000 in
theorem ggL_act_X3_hush : GoodIn wsL_act wsX3_hush := goodIn_ca (goodIn_r _ [110, 30, 31, 32, 26, 33, 34, 35, 36, 37, 38, 47, 48, 49, 50, 51, 52, 53, 111, 112, 113, 57, 114, 60, 61, 86, 87, 149, 150, 151, 152, 153, 154, 155, 156, 157, 158, 159, 160, 161, 162, 163, 164] (by decide +kernel) (by decide +kernel)) (goodIn_sub (fun _ h => List.mem_cons_of_mem _ (List.mem_append_left _ (List.mem_append_right _ h))) (by decide +kernel))
set_option maxRecDepth 20000 in
theorem gL_act_X3_hush : GoodIn wsL_act (wsV RL 60 RX3 yX3_hush wsX3_hush) := goodIn_app (goodIn_of _ (by decide +kernel)) ggL_act_X3_hush
set_option maxRecDepth 20000 in
theorem ggL_act_X4_knots : GoodIn wsL_act wsX4_knots := goodIn_r _ [118, 119, 120, 121, 18, 122, 141, 142, 143, 144, 145, 146, 147, 148] (by decide +kernel) (by decide +kernel)
set_option maxRecDepth 20000 in
theorem gL_act_X4_knots : GoodIn wsL_act (wsV RL 63 RX4 yX4_knots wsX4_knots) := goodIn_app (goodIn_of _ (by decide +kernel)) ggL_act_X4_knots
set_option maxRecDepth 20000 in
theorem ggL_act_X3_unpick : GoodIn wsL_act wsX3_unpick := goodIn_ca (goodIn_ca (goodIn_ca (goodIn_r _ [126, 28, 29, 30, 31, 32, 26, 33, 34, 35, 36, 37, 38, 42, 43, 44, 45, 46, 47, 48, 49, 50, 51, 52, 53, 127, 128, 129, 57, 130, 131, 132, 86, 87, 133, 93, 94, 95, 96, 97, 98, 5, 6, 7, 62, 63, 149, 150, 151, 152, 153, 154, 155, 156, 157, 158, 159, 160, 161, 162, 163, 164, 165] (by decide +kernel) (by decide +kernel)) (goodIn_sub (fun _ h => List.mem_cons_of_mem _ (List.mem_append_left _ (List.mem_append_left _ (List.mem_append_right _ h)))) (by decide +kernel))) (goodIn_sub (fun _ h => List.mem_cons_of_mem _ (List.mem_append_left _ (List.mem_append_right _ h))) (by decide +kernel))) (goodIn_sub (fun _ h => List.mem_cons_of_mem _ (List.mem_append_right _ h)) (by decide +kernel))
set_option maxRecDepth 20000 in
theorem gL_act_X3_unpick : GoodIn wsL_act (wsV RL 66 RX3 yX3_unpick wsX3_unpick) := goodIn_app (goodIn_of _ (by decide +kernel)) ggL_act_X3_unpick
set_option maxRecDepth 20000 in
theorem ggL_act_X4_unpick : GoodIn wsL_act wsX4_unpick := goodIn_r _ [137, 119, 138, 139, 140, 116, 117, 18, 118, 120, 121, 122, 141, 142, 143, 144, 145, 146, 147, 148] (by decide +kernel) (by decide +kernel)
set_option maxRecDepth 20000 in
theorem gL_act_X4_unpick : GoodIn wsL_act (wsV RL 69 RX4 yX4_unpick wsX4_unpick) := goodIn_app (goodIn_of _ (by decide +kernel)) ggL_act_X4_unpick
theorem dL_act_0 : decode cL_act 0 = .ok (.iload_n 2, 1) := by decide +kernel
theorem dL_act_1 : decode cL_act 1 = .ok (.iconst 2, 1) := by decide +kernel
theorem dL_act_2 : decode cL_act 2 = .ok (.invokestatic 9, 3) := by decide +kernel
theorem dL_act_5 : decode cL_act 5 = .ok (.istore_n 3, 1) := by decide +kernel
theorem dL_act_6 : decode cL_act 6 = .ok (.iload_n 2, 1) := by decide +kernel
theorem dL_act_7 : decode cL_act 7 = .ok (.iconst 2, 1) := by decide +kernel
theorem dL_act_8 : decode cL_act 8 = .ok (.ishr, 1) := by decide +kernel
theorem dL_act_9 : decode cL_act 9 = .ok (.bipush 8, 2) := by decide +kernel
theorem dL_act_11 : decode cL_act 11 = .ok (.invokestatic 9, 3) := by decide +kernel
theorem dL_act_14 : decode cL_act 14 = .ok (.istore 4, 2) := by decide +kernel
theorem dL_act_16 : decode cL_act 16 = .ok (.iload_n 2, 1) := by decide +kernel
theorem dL_act_17 : decode cL_act 17 = .ok (.bipush 9, 2) := by decide +kernel
theorem dL_act_19 : decode cL_act 19 = .ok (.ishr, 1) := by decide +kernel
theorem dL_act_20 : decode cL_act 20 = .ok (.bipush 9, 2) := by decide +kernel
theorem dL_act_22 : decode cL_act 22 = .ok (.invokestatic 9, 3) := by decide +kernel
theorem dL_act_25 : decode cL_act 25 = .ok (.tableswitch 439 0 6 #[43, 43, 43, 118, 273, 348, 394], 43) := by decide +kernel
theorem dL_act_68 : decode cL_act 68 = .ok (.aload_n 1, 1) := by decide +kernel
theorem dL_act_69 : decode cL_act 69 = .ok (.getfield 15, 3) := by decide +kernel
theorem dL_act_72 : decode cL_act 72 = .ok (.iload_n 3, 1) := by decide +kernel
theorem dL_act_73 : decode cL_act 73 = .ok (.aaload, 1) := by decide +kernel
theorem dL_act_74 : decode cL_act 74 = .ok (.arraylength, 1) := by decide +kernel
theorem dL_act_75 : decode cL_act 75 = .ok (.bipush 20, 2) := by decide +kernel
theorem dL_act_77 : decode cL_act 77 = .ok (.if_icmp .ne 5, 3) := by decide +kernel
theorem dL_act_80 : decode cL_act 80 = .ok (.iconst 1, 1) := by decide +kernel
theorem dL_act_81 : decode cL_act 81 = .ok (.ireturn, 1) := by decide +kernel
theorem dL_act_82 : decode cL_act 82 = .ok (.iconst 1, 1) := by decide +kernel
theorem dL_act_83 : decode cL_act 83 = .ok (.iload_n 2, 1) := by decide +kernel
theorem dL_act_84 : decode cL_act 84 = .ok (.iconst 4, 1) := by decide +kernel
theorem dL_act_85 : decode cL_act 85 = .ok (.ishr, 1) := by decide +kernel
theorem dL_act_86 : decode cL_act 86 = .ok (.iload_n 2, 1) := by decide +kernel
theorem dL_act_87 : decode cL_act 87 = .ok (.iconst 3, 1) := by decide +kernel
theorem dL_act_88 : decode cL_act 88 = .ok (.ishr, 1) := by decide +kernel
theorem dL_act_89 : decode cL_act 89 = .ok (.iconst 3, 1) := by decide +kernel
theorem dL_act_90 : decode cL_act 90 = .ok (.invokestatic 9, 3) := by decide +kernel
theorem dL_act_93 : decode cL_act 93 = .ok (.ifCond .ne 8, 3) := by decide +kernel
theorem dL_act_96 : decode cL_act 96 = .ok (.bipush 60, 2) := by decide +kernel
theorem dL_act_98 : decode cL_act 98 = .ok (.goto 5, 3) := by decide +kernel
theorem dL_act_101 : decode cL_act 101 = .ok (.bipush 9, 2) := by decide +kernel
theorem dL_act_103 : decode cL_act 103 = .ok (.invokestatic 9, 3) := by decide +kernel
theorem dL_act_106 : decode cL_act 106 = .ok (.iadd, 1) := by decide +kernel
theorem dL_act_107 : decode cL_act 107 = .ok (.istore 5, 2) := by decide +kernel
theorem dL_act_109 : decode cL_act 109 = .ok (.aload_n 1, 1) := by decide +kernel
theorem dL_act_110 : decode cL_act 110 = .ok (.iload_n 3, 1) := by decide +kernel
theorem dL_act_111 : decode cL_act 111 = .ok (.iload 4, 2) := by decide +kernel
theorem dL_act_113 : decode cL_act 113 = .ok (.iload 5, 2) := by decide +kernel
theorem dL_act_115 : decode cL_act 115 = .ok (.invokevirtual 21, 3) := by decide +kernel
theorem dL_act_118 : decode cL_act 118 = .ok (.aload_n 0, 1) := by decide +kernel
theorem dL_act_119 : decode cL_act 119 = .ok (.iload_n 3, 1) := by decide +kernel
theorem dL_act_120 : decode cL_act 120 = .ok (.iload 4, 2) := by decide +kernel
theorem dL_act_122 : decode cL_act 122 = .ok (.iload 5, 2) := by decide +kernel
theorem dL_act_124 : decode cL_act 124 = .ok (.invokevirtual 25, 3) := by decide +kernel
theorem dL_act_127 : decode cL_act 127 = .ok (.aload_n 1, 1) := by decide +kernel
theorem dL_act_128 : decode cL_act 128 = .ok (.getfield 15, 3) := by decide +kernel
theorem dL_act_131 : decode cL_act 131 = .ok (.iload_n 3, 1) := by decide +kernel
theorem dL_act_132 : decode cL_act 132 = .ok (.aaload, 1) := by decide +kernel
theorem dL_act_133 : decode cL_act 133 = .ok (.arraylength, 1) := by decide +kernel
theorem dL_act_134 : decode cL_act 134 = .ok (.if_icmp .ne 7, 3) := by decide +kernel
theorem dL_act_137 : decode cL_act 137 = .ok (.iconst 1, 1) := by decide +kernel
theorem dL_act_138 : decode cL_act 138 = .ok (.goto 4, 3) := by decide +kernel
theorem dL_act_141 : decode cL_act 141 = .ok (.iconst 0, 1) := by decide +kernel
theorem dL_act_142 : decode cL_act 142 = .ok (.ireturn, 1) := by decide +kernel
theorem dL_act_143 : decode cL_act 143 = .ok (.iload_n 2, 1) := by decide +kernel
theorem dL_act_144 : decode cL_act 144 = .ok (.iconst 1, 1) := by decide +kernel
theorem dL_act_145 : decode cL_act 145 = .ok (.ishr, 1) := by decide +kernel
theorem dL_act_146 : decode cL_act 146 = .ok (.bipush 12, 2) := by decide +kernel
theorem dL_act_148 : decode cL_act 148 = .ok (.invokestatic 9, 3) := by decide +kernel
theorem dL_act_151 : decode cL_act 151 = .ok (.istore 6, 2) := by decide +kernel
theorem dL_act_153 : decode cL_act 153 = .ok (.iload_n 2, 1) := by decide +kernel
theorem dL_act_154 : decode cL_act 154 = .ok (.iconst 4, 1) := by decide +kernel
theorem dL_act_155 : decode cL_act 155 = .ok (.ishr, 1) := by decide +kernel
theorem dL_act_156 : decode cL_act 156 = .ok (.bipush 10, 2) := by decide +kernel
theorem dL_act_158 : decode cL_act 158 = .ok (.invokestatic 9, 3) := by decide +kernel
theorem dL_act_161 : decode cL_act 161 = .ok (.istore 7, 2) := by decide +kernel
theorem dL_act_163 : decode cL_act 163 = .ok (.iconst 1, 1) := by decide +kernel
theorem dL_act_164 : decode cL_act 164 = .ok (.iload_n 2, 1) := by decide +kernel
theorem dL_act_165 : decode cL_act 165 = .ok (.iconst 3, 1) := by decide +kernel
theorem dL_act_166 : decode cL_act 166 = .ok (.ishr, 1) := by decide +kernel
theorem dL_act_167 : decode cL_act 167 = .ok (.bipush 12, 2) := by decide +kernel
theorem dL_act_169 : decode cL_act 169 = .ok (.iload 6, 2) := by decide +kernel
theorem dL_act_171 : decode cL_act 171 = .ok (.isub, 1) := by decide +kernel
theorem dL_act_172 : decode cL_act 172 = .ok (.invokestatic 9, 3) := by decide +kernel
theorem dL_act_175 : decode cL_act 175 = .ok (.iadd, 1) := by decide +kernel
theorem dL_act_176 : decode cL_act 176 = .ok (.istore 8, 2) := by decide +kernel
theorem dL_act_178 : decode cL_act 178 = .ok (.iconst 1, 1) := by decide +kernel
theorem dL_act_179 : decode cL_act 179 = .ok (.iload_n 2, 1) := by decide +kernel
theorem dL_act_180 : decode cL_act 180 = .ok (.iconst 5, 1) := by decide +kernel
theorem dL_act_181 : decode cL_act 181 = .ok (.ishr, 1) := by decide +kernel
theorem dL_act_182 : decode cL_act 182 = .ok (.bipush 10, 2) := by decide +kernel
theorem dL_act_184 : decode cL_act 184 = .ok (.iload 7, 2) := by decide +kernel
theorem dL_act_186 : decode cL_act 186 = .ok (.isub, 1) := by decide +kernel
theorem dL_act_187 : decode cL_act 187 = .ok (.invokestatic 9, 3) := by decide +kernel
theorem dL_act_190 : decode cL_act 190 = .ok (.iadd, 1) := by decide +kernel
theorem dL_act_191 : decode cL_act 191 = .ok (.istore 9, 2) := by decide +kernel
theorem dL_act_193 : decode cL_act 193 = .ok (.iconst 0, 1) := by decide +kernel
theorem dL_act_194 : decode cL_act 194 = .ok (.istore 10, 2) := by decide +kernel
theorem dL_act_196 : decode cL_act 196 = .ok (.iload 6, 2) := by decide +kernel
theorem dL_act_198 : decode cL_act 198 = .ok (.istore 11, 2) := by decide +kernel
theorem dL_act_200 : decode cL_act 200 = .ok (.iload 11, 2) := by decide +kernel
theorem dL_act_202 : decode cL_act 202 = .ok (.iload 6, 2) := by decide +kernel
theorem dL_act_204 : decode cL_act 204 = .ok (.iload 8, 2) := by decide +kernel
theorem dL_act_206 : decode cL_act 206 = .ok (.iadd, 1) := by decide +kernel
theorem dL_act_207 : decode cL_act 207 = .ok (.if_icmp .ge 66, 3) := by decide +kernel
theorem dL_act_210 : decode cL_act 210 = .ok (.iload 7, 2) := by decide +kernel
theorem dL_act_212 : decode cL_act 212 = .ok (.istore 12, 2) := by decide +kernel
theorem dL_act_214 : decode cL_act 214 = .ok (.iload 12, 2) := by decide +kernel
theorem dL_act_216 : decode cL_act 216 = .ok (.iload 7, 2) := by decide +kernel
theorem dL_act_218 : decode cL_act 218 = .ok (.iload 9, 2) := by decide +kernel
theorem dL_act_220 : decode cL_act 220 = .ok (.iadd, 1) := by decide +kernel
theorem dL_act_221 : decode cL_act 221 = .ok (.if_icmp .ge 46, 3) := by decide +kernel
theorem dL_act_224 : decode cL_act 224 = .ok (.iload 10, 2) := by decide +kernel
theorem dL_act_226 : decode cL_act 226 = .ok (.aload_n 1, 1) := by decide +kernel
theorem dL_act_227 : decode cL_act 227 = .ok (.getfield 30, 3) := by decide +kernel
theorem dL_act_230 : decode cL_act 230 = .ok (.iload 11, 2) := by decide +kernel
theorem dL_act_232 : decode cL_act 232 = .ok (.aaload, 1) := by decide +kernel
theorem dL_act_233 : decode cL_act 233 = .ok (.iload 12, 2) := by decide +kernel
theorem dL_act_235 : decode cL_act 235 = .ok (.iaload, 1) := by decide +kernel
theorem dL_act_236 : decode cL_act 236 = .ok (.iload 4, 2) := by decide +kernel
theorem dL_act_238 : decode cL_act 238 = .ok (.if_icmp .ne 7, 3) := by decide +kernel
theorem dL_act_241 : decode cL_act 241 = .ok (.iconst 0, 1) := by decide +kernel
theorem dL_act_242 : decode cL_act 242 = .ok (.goto 4, 3) := by decide +kernel
theorem dL_act_245 : decode cL_act 245 = .ok (.iconst 1, 1) := by decide +kernel
theorem dL_act_246 : decode cL_act 246 = .ok (.iadd, 1) := by decide +kernel
theorem dL_act_247 : decode cL_act 247 = .ok (.istore 10, 2) := by decide +kernel
theorem dL_act_249 : decode cL_act 249 = .ok (.aload_n 1, 1) := by decide +kernel
theorem dL_act_250 : decode cL_act 250 = .ok (.getfield 30, 3) := by decide +kernel
theorem dL_act_253 : decode cL_act 253 = .ok (.iload 11, 2) := by decide +kernel
theorem dL_act_255 : decode cL_act 255 = .ok (.aaload, 1) := by decide +kernel
theorem dL_act_256 : decode cL_act 256 = .ok (.iload 12, 2) := by decide +kernel
theorem dL_act_258 : decode cL_act 258 = .ok (.iload 4, 2) := by decide +kernel
theorem dL_act_260 : decode cL_act 260 = .ok (.iastore, 1) := by decide +kernel
theorem dL_act_261 : decode cL_act 261 = .ok (.iinc 12 1, 3) := by decide +kernel
theorem dL_act_264 : decode cL_act 264 = .ok (.goto (-50), 3) := by decide +kernel
theorem dL_act_267 : decode cL_act 267 = .ok (.iinc 11 1, 3) := by decide +kernel
theorem dL_act_270 : decode cL_act 270 = .ok (.goto (-70), 3) := by decide +kernel
theorem dL_act_273 : decode cL_act 273 = .ok (.aload_n 0, 1) := by decide +kernel
theorem dL_act_274 : decode cL_act 274 = .ok (.iload 6, 2) := by decide +kernel
theorem dL_act_276 : decode cL_act 276 = .ok (.iload 7, 2) := by decide +kernel
theorem dL_act_278 : decode cL_act 278 = .ok (.iload 8, 2) := by decide +kernel
theorem dL_act_280 : decode cL_act 280 = .ok (.iload 9, 2) := by decide +kernel
theorem dL_act_282 : decode cL_act 282 = .ok (.iload 4, 2) := by decide +kernel
theorem dL_act_284 : decode cL_act 284 = .ok (.invokevirtual 34, 3) := by decide +kernel
theorem dL_act_287 : decode cL_act 287 = .ok (.iload 10, 2) := by decide +kernel
theorem dL_act_289 : decode cL_act 289 = .ok (.if_icmp .ne 7, 3) := by decide +kernel
theorem dL_act_292 : decode cL_act 292 = .ok (.iconst 1, 1) := by decide +kernel
theorem dL_act_293 : decode cL_act 293 = .ok (.goto 4, 3) := by decide +kernel
theorem dL_act_296 : decode cL_act 296 = .ok (.iconst 0, 1) := by decide +kernel
theorem dL_act_297 : decode cL_act 297 = .ok (.ireturn, 1) := by decide +kernel
theorem dL_act_298 : decode cL_act 298 = .ok (.iconst 1, 1) := by decide +kernel
theorem dL_act_299 : decode cL_act 299 = .ok (.iload_n 2, 1) := by decide +kernel
theorem dL_act_300 : decode cL_act 300 = .ok (.iconst 5, 1) := by decide +kernel
theorem dL_act_301 : decode cL_act 301 = .ok (.ishr, 1) := by decide +kernel
theorem dL_act_302 : decode cL_act 302 = .ok (.iload_n 2, 1) := by decide +kernel
theorem dL_act_303 : decode cL_act 303 = .ok (.iconst 4, 1) := by decide +kernel
theorem dL_act_304 : decode cL_act 304 = .ok (.ishr, 1) := by decide +kernel
theorem dL_act_305 : decode cL_act 305 = .ok (.iconst 2, 1) := by decide +kernel
theorem dL_act_306 : decode cL_act 306 = .ok (.invokestatic 9, 3) := by decide +kernel
theorem dL_act_309 : decode cL_act 309 = .ok (.ifCond .ne 9, 3) := by decide +kernel
theorem dL_act_312 : decode cL_act 312 = .ok (.sipush 200, 3) := by decide +kernel
theorem dL_act_315 : decode cL_act 315 = .ok (.goto 5, 3) := by decide +kernel
theorem dL_act_318 : decode cL_act 318 = .ok (.bipush 12, 2) := by decide +kernel
theorem dL_act_320 : decode cL_act 320 = .ok (.invokestatic 9, 3) := by decide +kernel
theorem dL_act_323 : decode cL_act 323 = .ok (.iadd, 1) := by decide +kernel
theorem dL_act_324 : decode cL_act 324 = .ok (.istore 11, 2) := by decide +kernel
theorem dL_act_326 : decode cL_act 326 = .ok (.aload_n 1, 1) := by decide +kernel
theorem dL_act_327 : decode cL_act 327 = .ok (.getfield 37, 3) := by decide +kernel
theorem dL_act_330 : decode cL_act 330 = .ok (.iload 4, 2) := by decide +kernel
theorem dL_act_332 : decode cL_act 332 = .ok (.sipush 200, 3) := by decide +kernel
theorem dL_act_335 : decode cL_act 335 = .ok (.aload_n 1, 1) := by decide +kernel
theorem dL_act_336 : decode cL_act 336 = .ok (.getfield 37, 3) := by decide +kernel
theorem dL_act_339 : decode cL_act 339 = .ok (.iload 4, 2) := by decide +kernel
theorem dL_act_341 : decode cL_act 341 = .ok (.iaload, 1) := by decide +kernel
theorem dL_act_342 : decode cL_act 342 = .ok (.iload 11, 2) := by decide +kernel
theorem dL_act_344 : decode cL_act 344 = .ok (.iadd, 1) := by decide +kernel
theorem dL_act_345 : decode cL_act 345 = .ok (.invokestatic 41, 3) := by decide +kernel
theorem dL_act_348 : decode cL_act 348 = .ok (.iastore, 1) := by decide +kernel
theorem dL_act_349 : decode cL_act 349 = .ok (.aload_n 0, 1) := by decide +kernel
theorem dL_act_350 : decode cL_act 350 = .ok (.iload 4, 2) := by decide +kernel
theorem dL_act_352 : decode cL_act 352 = .ok (.iload 11, 2) := by decide +kernel
theorem dL_act_354 : decode cL_act 354 = .ok (.invokevirtual 46, 3) := by decide +kernel
theorem dL_act_357 : decode cL_act 357 = .ok (.aload_n 1, 1) := by decide +kernel
theorem dL_act_358 : decode cL_act 358 = .ok (.getfield 37, 3) := by decide +kernel
theorem dL_act_361 : decode cL_act 361 = .ok (.iload 4, 2) := by decide +kernel
theorem dL_act_363 : decode cL_act 363 = .ok (.iaload, 1) := by decide +kernel
theorem dL_act_364 : decode cL_act 364 = .ok (.if_icmp .ne 7, 3) := by decide +kernel
theorem dL_act_367 : decode cL_act 367 = .ok (.iconst 1, 1) := by decide +kernel
theorem dL_act_368 : decode cL_act 368 = .ok (.goto 4, 3) := by decide +kernel
theorem dL_act_371 : decode cL_act 371 = .ok (.iconst 0, 1) := by decide +kernel
theorem dL_act_372 : decode cL_act 372 = .ok (.ireturn, 1) := by decide +kernel
theorem dL_act_373 : decode cL_act 373 = .ok (.aload_n 1, 1) := by decide +kernel
theorem dL_act_374 : decode cL_act 374 = .ok (.getfield 49, 3) := by decide +kernel
theorem dL_act_377 : decode cL_act 377 = .ok (.iload_n 3, 1) := by decide +kernel
theorem dL_act_378 : decode cL_act 378 = .ok (.iaload, 1) := by decide +kernel
theorem dL_act_379 : decode cL_act 379 = .ok (.istore 12, 2) := by decide +kernel
theorem dL_act_381 : decode cL_act 381 = .ok (.aload_n 1, 1) := by decide +kernel
theorem dL_act_382 : decode cL_act 382 = .ok (.getfield 49, 3) := by decide +kernel
theorem dL_act_385 : decode cL_act 385 = .ok (.iload_n 3, 1) := by decide +kernel
theorem dL_act_386 : decode cL_act 386 = .ok (.iconst 1, 1) := by decide +kernel
theorem dL_act_387 : decode cL_act 387 = .ok (.iload_n 2, 1) := by decide +kernel
theorem dL_act_388 : decode cL_act 388 = .ok (.iconst 3, 1) := by decide +kernel
theorem dL_act_389 : decode cL_act 389 = .ok (.ishr, 1) := by decide +kernel
theorem dL_act_390 : decode cL_act 390 = .ok (.bipush 6, 2) := by decide +kernel
theorem dL_act_392 : decode cL_act 392 = .ok (.invokestatic 9, 3) := by decide +kernel
theorem dL_act_395 : decode cL_act 395 = .ok (.iadd, 1) := by decide +kernel
theorem dL_act_396 : decode cL_act 396 = .ok (.iastore, 1) := by decide +kernel
theorem dL_act_397 : decode cL_act 397 = .ok (.aload_n 0, 1) := by decide +kernel
theorem dL_act_398 : decode cL_act 398 = .ok (.iload_n 3, 1) := by decide +kernel
theorem dL_act_399 : decode cL_act 399 = .ok (.aload_n 1, 1) := by decide +kernel
theorem dL_act_400 : decode cL_act 400 = .ok (.getfield 49, 3) := by decide +kernel
theorem dL_act_403 : decode cL_act 403 = .ok (.iload_n 3, 1) := by decide +kernel
theorem dL_act_404 : decode cL_act 404 = .ok (.iaload, 1) := by decide +kernel
theorem dL_act_405 : decode cL_act 405 = .ok (.invokevirtual 52, 3) := by decide +kernel
theorem dL_act_408 : decode cL_act 408 = .ok (.iload 12, 2) := by decide +kernel
theorem dL_act_410 : decode cL_act 410 = .ok (.if_icmp .ne 7, 3) := by decide +kernel
theorem dL_act_413 : decode cL_act 413 = .ok (.iconst 1, 1) := by decide +kernel
theorem dL_act_414 : decode cL_act 414 = .ok (.goto 4, 3) := by decide +kernel
theorem dL_act_417 : decode cL_act 417 = .ok (.iconst 0, 1) := by decide +kernel
theorem dL_act_418 : decode cL_act 418 = .ok (.ireturn, 1) := by decide +kernel
theorem dL_act_419 : decode cL_act 419 = .ok (.iload_n 2, 1) := by decide +kernel
theorem dL_act_420 : decode cL_act 420 = .ok (.iconst 3, 1) := by decide +kernel
theorem dL_act_421 : decode cL_act 421 = .ok (.ishr, 1) := by decide +kernel
theorem dL_act_422 : decode cL_act 422 = .ok (.iconst 3, 1) := by decide +kernel
theorem dL_act_423 : decode cL_act 423 = .ok (.invokestatic 9, 3) := by decide +kernel
theorem dL_act_426 : decode cL_act 426 = .ok (.ifCond .le 5, 3) := by decide +kernel
theorem dL_act_429 : decode cL_act 429 = .ok (.iconst 1, 1) := by decide +kernel
theorem dL_act_430 : decode cL_act 430 = .ok (.ireturn, 1) := by decide +kernel
theorem dL_act_431 : decode cL_act 431 = .ok (.aload_n 1, 1) := by decide +kernel
theorem dL_act_432 : decode cL_act 432 = .ok (.iload_n 3, 1) := by decide +kernel
theorem dL_act_433 : decode cL_act 433 = .ok (.invokevirtual 55, 3) := by decide +kernel
theorem dL_act_436 : decode cL_act 436 = .ok (.istore 13, 2) := by decide +kernel
theorem dL_act_438 : decode cL_act 438 = .ok (.aload_n 1, 1) := by decide +kernel
theorem dL_act_439 : decode cL_act 439 = .ok (.getfield 15, 3) := by decide +kernel
theorem dL_act_442 : decode cL_act 442 = .ok (.iload_n 3, 1) := by decide +kernel
theorem dL_act_443 : decode cL_act 443 = .ok (.iconst 0, 1) := by decide +kernel
theorem dL_act_444 : decode cL_act 444 = .ok (.anewarray 59, 3) := by decide +kernel
theorem dL_act_447 : decode cL_act 447 = .ok (.aastore, 1) := by decide +kernel
theorem dL_act_448 : decode cL_act 448 = .ok (.aload_n 0, 1) := by decide +kernel
theorem dL_act_449 : decode cL_act 449 = .ok (.iload_n 3, 1) := by decide +kernel
theorem dL_act_450 : decode cL_act 450 = .ok (.invokevirtual 60, 3) := by decide +kernel
theorem dL_act_453 : decode cL_act 453 = .ok (.iload 13, 2) := by decide +kernel
theorem dL_act_455 : decode cL_act 455 = .ok (.if_icmp .ne 7, 3) := by decide +kernel
theorem dL_act_458 : decode cL_act 458 = .ok (.iconst 1, 1) := by decide +kernel
theorem dL_act_459 : decode cL_act 459 = .ok (.goto 4, 3) := by decide +kernel
theorem dL_act_462 : decode cL_act 462 = .ok (.iconst 0, 1) := by decide +kernel
theorem dL_act_463 : decode cL_act 463 = .ok (.ireturn, 1) := by decide +kernel
theorem dL_act_464 : decode cL_act 464 = .ok (.iconst 1, 1) := by decide +kernel
theorem dL_act_465 : decode cL_act 465 = .ok (.iload_n 2, 1) := by decide +kernel
theorem dL_act_466 : decode cL_act 466 = .ok (.iconst 4, 1) := by decide +kernel
theorem dL_act_467 : decode cL_act 467 = .ok (.ishr, 1) := by decide +kernel
theorem dL_act_468 : decode cL_act 468 = .ok (.bipush 15, 2) := by decide +kernel
theorem dL_act_470 : decode cL_act 470 = .ok (.invokestatic 9, 3) := by decide +kernel
theorem dL_act_473 : decode cL_act 473 = .ok (.iadd, 1) := by decide +kernel
theorem dL_act_474 : decode cL_act 474 = .ok (.istore 14, 2) := by decide +kernel
theorem dL_act_476 : decode cL_act 476 = .ok (.iload 14, 2) := by decide +kernel
theorem dL_act_478 : decode cL_act 478 = .ok (.aload_n 1, 1) := by decide +kernel
theorem dL_act_479 : decode cL_act 479 = .ok (.iload_n 3, 1) := by decide +kernel
theorem dL_act_480 : decode cL_act 480 = .ok (.invokevirtual 63, 3) := by decide +kernel
theorem dL_act_483 : decode cL_act 483 = .ok (.if_icmp .le 5, 3) := by decide +kernel
theorem dL_act_486 : decode cL_act 486 = .ok (.iconst 1, 1) := by decide +kernel
theorem dL_act_487 : decode cL_act 487 = .ok (.ireturn, 1) := by decide +kernel
theorem dL_act_488 : decode cL_act 488 = .ok (.aload_n 0, 1) := by decide +kernel
theorem dL_act_489 : decode cL_act 489 = .ok (.iload_n 3, 1) := by decide +kernel
theorem dL_act_490 : decode cL_act 490 = .ok (.iload 14, 2) := by decide +kernel
theorem dL_act_492 : decode cL_act 492 = .ok (.invokevirtual 66, 3) := by decide +kernel
theorem dL_act_495 : decode cL_act 495 = .ok (.aload_n 1, 1) := by decide +kernel
theorem dL_act_496 : decode cL_act 496 = .ok (.iload_n 3, 1) := by decide +kernel
theorem dL_act_497 : decode cL_act 497 = .ok (.iload 14, 2) := by decide +kernel
theorem dL_act_499 : decode cL_act 499 = .ok (.invokevirtual 69, 3) := by decide +kernel
theorem dL_act_502 : decode cL_act 502 = .ok (.if_icmp .ne 7, 3) := by decide +kernel
theorem dL_act_505 : decode cL_act 505 = .ok (.iconst 1, 1) := by decide +kernel
theorem dL_act_506 : decode cL_act 506 = .ok (.goto 4, 3) := by decide +kernel
theorem dL_act_509 : decode cL_act 509 = .ok (.iconst 0, 1) := by decide +kernel
theorem dL_act_510 : decode cL_act 510 = .ok (.ireturn, 1) := by decide +kernel
set_option maxRecDepth 20000 in
theorem ggL_build_X4_init : GoodIn wsL_build wsX4_init := goodIn_r _ [6, 7, 8, 9, 10, 11, 12, 13, 14, 15, 16, 17, 160, 161, 162, 163, 164, 165, 166, 167] (by decide +kernel) (by decide +kernel)
set_option maxRecDepth 20000 in
theorem gL_build_X4_init : GoodIn wsL_build (wsX4_init) := ggL_build_X4_init
set_option maxRecDepth 20000 in
theorem ggL_build_L_cell : GoodIn wsL_build wsL_cell := goodIn_r _ [21, 22] (by decide +kernel) (by decide +kernel)
set_option maxRecDepth 20000 in
theorem gL_build_L_cell : GoodIn wsL_build (va_wsS RL 71 yL_cell wsL_cell) := goodIn_app (goodIn_of _ (by decide +kernel)) ggL_build_L_cell
set_option maxRecDepth 20000 in
theorem ggL_build_L_act : GoodIn wsL_build wsL_act := goodIn_ca (goodIn_ca (goodIn_ca (goodIn_r _ [25, 26, 27, 28, 29, 30, 31, 32, 33, 34, 35, 36, 20, 37, 38, 39, 40, 41, 3, 42, 14, 43, 11, 44, 45, 46, 47, 48, 49, 50, 51, 52, 53, 54, 55, 56, 57, 58, 59, 60, 61, 62, 63, 64, 65, 66, 67, 68, 69, 70, 71, 72, 73, 74, 75, 76, 77, 78, 79, 80, 81, 82, 83, 84, 85, 86, 87, 88, 89, 90, 91, 92, 93, 94, 95, 96, 97, 98, 99, 100, 101, 102, 103, 104, 105, 106, 107, 108, 109, 110, 111, 112, 113, 114, 115, 116, 117, 118, 119, 120, 121, 122, 123, 124, 125, 126, 127, 128, 129, 130, 131, 132, 133, 134, 135, 136, 137, 138, 139, 12, 140, 141, 142, 143, 144, 145, 146, 147, 148, 149, 150, 151, 152, 153, 154, 155, 156, 157, 17, 158, 159, 160, 161, 162, 163, 164, 165, 166, 167, 168, 169, 170, 171, 172, 173, 174, 175, 176, 177, 178, 179, 180, 181, 182, 183, 184] (by decide +kernel) (by decide +kernel)) (goodIn_sub (fun _ h => List.mem_cons_of_mem _ (List.mem_append_left _ (List.mem_append_left _ (List.mem_append_right _ h)))) (by decide +kernel))) (goodIn_sub (fun _ h => List.mem_cons_of_mem _ (List.mem_append_left _ (List.mem_append_right _ h))) (by decide +kernel))) (goodIn_sub (fun _ h => List.mem_cons_of_mem _ (List.mem_append_right _ h)) (by decide +kernel))
set_option maxRecDepth 20000 in
theorem gL_build_L_act : GoodIn wsL_build (va_wsS RL 75 yL_act wsL_act) := goodIn_app (goodIn_of _ (by decide +kernel)) ggL_build_L_act
theorem dL_build_0 : decode cL_build 0 = .ok (.new 16, 3) := by decide +kernel
theorem dL_build_3 : decode cL_build 3 = .ok (.dup, 1) := by decide +kernel
theorem dL_build_4 : decode cL_build 4 = .ok (.invokespecial 70, 3) := by decide +kernel
theorem dL_build_7 : decode cL_build 7 = .ok (.astore_n 2, 1) := by decide +kernel
theorem dL_build_8 : decode cL_build 8 = .ok (.iconst 0, 1) := by decide +kernel
theorem dL_build_9 : decode cL_build 9 = .ok (.istore_n 3, 1) := by decide +kernel
theorem dL_build_10 : decode cL_build 10 = .ok (.iload_n 3, 1) := by decide +kernel
theorem dL_build_11 : decode cL_build 11 = .ok (.bipush 26, 2) := by decide +kernel
theorem dL_build_13 : decode cL_build 13 = .ok (.if_icmp .ge 57, 3) := by decide +kernel
theorem dL_build_16 : decode cL_build 16 = .ok (.aload_n 0, 1) := by decide +kernel
theorem dL_build_17 : decode cL_build 17 = .ok (.aload_n 2, 1) := by decide +kernel
theorem dL_build_18 : decode cL_build 18 = .ok (.aload_n 1, 1) := by decide +kernel
theorem dL_build_19 : decode cL_build 19 = .ok (.iload_n 3, 1) := by decide +kernel
theorem dL_build_20 : decode cL_build 20 = .ok (.bipush 13, 2) := by decide +kernel
theorem dL_build_22 : decode cL_build 22 = .ok (.irem, 1) := by decide +kernel
theorem dL_build_23 : decode cL_build 23 = .ok (.invokestatic 71, 3) := by decide +kernel
theorem dL_build_26 : decode cL_build 26 = .ok (.iload_n 3, 1) := by decide +kernel
theorem dL_build_27 : decode cL_build 27 = .ok (.bipush 13, 2) := by decide +kernel
theorem dL_build_29 : decode cL_build 29 = .ok (.idiv, 1) := by decide +kernel
theorem dL_build_30 : decode cL_build 30 = .ok (.iconst 4, 1) := by decide +kernel
theorem dL_build_31 : decode cL_build 31 = .ok (.imul, 1) := by decide +kernel
theorem dL_build_32 : decode cL_build 32 = .ok (.ishr, 1) := by decide +kernel
theorem dL_build_33 : decode cL_build 33 = .ok (.bipush 127, 2) := by decide +kernel
theorem dL_build_35 : decode cL_build 35 = .ok (.iload_n 3, 1) := by decide +kernel
theorem dL_build_36 : decode cL_build 36 = .ok (.imul, 1) := by decide +kernel
theorem dL_build_37 : decode cL_build 37 = .ok (.iadd, 1) := by decide +kernel
theorem dL_build_38 : decode cL_build 38 = .ok (.iload_n 3, 1) := by decide +kernel
theorem dL_build_39 : decode cL_build 39 = .ok (.bipush 8, 2) := by decide +kernel
theorem dL_build_41 : decode cL_build 41 = .ok (.if_icmp .ge 13, 3) := by decide +kernel
theorem dL_build_44 : decode cL_build 44 = .ok (.sipush 512, 3) := by decide +kernel
theorem dL_build_47 : decode cL_build 47 = .ok (.iload_n 3, 1) := by decide +kernel
theorem dL_build_48 : decode cL_build 48 = .ok (.iconst 4, 1) := by decide +kernel
theorem dL_build_49 : decode cL_build 49 = .ok (.irem, 1) := by decide +kernel
theorem dL_build_50 : decode cL_build 50 = .ok (.imul, 1) := by decide +kernel
theorem dL_build_51 : decode cL_build 51 = .ok (.goto 4, 3) := by decide +kernel
theorem dL_build_54 : decode cL_build 54 = .ok (.iconst 0, 1) := by decide +kernel
theorem dL_build_55 : decode cL_build 55 = .ok (.iadd, 1) := by decide +kernel
theorem dL_build_56 : decode cL_build 56 = .ok (.invokestatic 75, 3) := by decide +kernel
theorem dL_build_59 : decode cL_build 59 = .ok (.ifCond .ne 5, 3) := by decide +kernel
theorem dL_build_62 : decode cL_build 62 = .ok (.aconst_null, 1) := by decide +kernel
theorem dL_build_63 : decode cL_build 63 = .ok (.areturn, 1) := by decide +kernel
theorem dL_build_64 : decode cL_build 64 = .ok (.iinc 3 1, 3) := by decide +kernel
theorem dL_build_67 : decode cL_build 67 = .ok (.goto (-57), 3) := by decide +kernel
theorem dL_build_70 : decode cL_build 70 = .ok (.aload_n 2, 1) := by decide +kernel
theorem dL_build_71 : decode cL_build 71 = .ok (.areturn, 1) := by decide +kernel
