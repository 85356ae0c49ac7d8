/-! ===== the methods, their links, by program ===== -/
set_option maxRecDepth 20000 in
theorem cf0 : cF 0 RX0 TX0 5 := ⟨rfl, by decide +kernel, ⟨tyX0, tyX0_ok⟩, nmX0⟩
set_option maxRecDepth 20000 in
theorem cf1 : cF 1 RX1 TX1 6 := ⟨rfl, by decide +kernel, ⟨tyX1, tyX1_ok⟩, nmX1⟩
set_option maxRecDepth 20000 in
theorem cf2 : cF 2 RX2 TX2 4 := ⟨rfl, by decide +kernel, ⟨tyX2, tyX2_ok⟩, nmX2⟩
set_option maxRecDepth 20000 in
theorem cf3 : cF 3 RX3 TX3 2 := ⟨rfl, by decide +kernel, ⟨tyX3, tyX3_ok⟩, nmX3⟩
set_option maxRecDepth 20000 in
theorem cf4 : cF 4 RX4 TX4 10 := ⟨rfl, by decide +kernel, ⟨tyX4, tyX4_ok⟩, nmX4⟩
set_option maxRecDepth 20000 in
theorem cf5 : cF 5 RX5 TX5 2 := ⟨rfl, by decide +kernel, ⟨tyX5, tyX5_ok⟩, nmX5⟩
set_option maxRecDepth 20000 in
theorem cf6 : cF 6 RX6 TX6 9 := ⟨rfl, by decide +kernel, ⟨tyX6, tyX6_ok⟩, nmX6⟩
set_option maxRecDepth 20000 in
theorem cf7 : cF 7 RX7 TX7 4 := ⟨rfl, by decide +kernel, ⟨tyX7, tyX7_ok⟩, nmX7⟩
set_option maxRecDepth 20000 in
theorem cf8 : cF 8 RX8 TX8 9 := ⟨rfl, by decide +kernel, ⟨tyX8, tyX8_ok⟩, nmX8⟩
set_option maxRecDepth 20000 in
theorem cf9 : cF 9 RX9 TX9 37 := ⟨rfl, by decide +kernel, ⟨tyX9, tyX9_ok⟩, nmX9⟩
def mX0_init : md_T := (yX0_init, cX0_init, 1, none, 1, 14, [])
def mX0_reset : md_T := (yX0_reset, cX0_reset, 2, none, 0, 0, [])
def mX0_exit : md_T := (yX0_exit, cX0_exit, 1, some .int, 0, 0, [])
def mX0_hasNode : md_T := (yX0_hasNode, cX0_hasNode, 2, some .boolean, 0, 0, [])
def mX0_hasEdge : md_T := (yX0_hasEdge, cX0_hasEdge, 2, some .boolean, 0, 0, [])
def mX0_isFull : md_T := (yX0_isFull, cX0_isFull, 1, some .boolean, 0, 0, [])
def mX0_allows : md_T := (yX0_allows, cX0_allows, 3, some .boolean, 1, 23, [])
def mX0_joins : md_T := (yX0_joins, cX0_joins, 4, some .boolean, 0, 0, [])
def mX0_add : md_T := (yX0_add, cX0_add, 4, some .int, 0, 0, [])
def mX0_nextOf : md_T := (yX0_nextOf, cX0_nextOf, 4, some .int, 0, 0, [])
def mX0_edgeAt : md_T := (yX0_edgeAt, cX0_edgeAt, 5, some .int, 0, 0, [])
def mX0_become : md_T := (yX0_become, cX0_become, 3, none, 1, 23, [])
def mX1_init : md_T := (yX1_init, cX1_init, 3, none, 1, 14, [])
def mX1_build : md_T := (yX1_build, cX1_build, 2, none, 2, 44, [])
def mX1_put : md_T := (yX1_put, cX1_put, 4, none, 0, 0, [])
def mX1_countPaths : md_T := (yX1_countPaths, cX1_countPaths, 2, none, 1, 23, [])
def mX1_countPathsOf : md_T := (yX1_countPathsOf, cX1_countPathsOf, 4, none, 0, 0, [])
def mX1_allPaths : md_T := (yX1_allPaths, cX1_allPaths, 1, some .int, 0, 0, [])
def mX1_linkOf : md_T := (yX1_linkOf, cX1_linkOf, 3, some .int, 0, 0, [])
def mX1_between : md_T := (yX1_between, cX1_between, 5, some .int, 1, 21, [])
def mX1_onward : md_T := (yX1_onward, cX1_onward, 5, some .int, 0, 0, [])
def mX2_init : md_T := (yX2_init, cX2_init, 3, none, 1, 14, [])
def mX2_trace : md_T := (yX2_trace, cX2_trace, 5, none, 1, 24, [])
def mX2_contains : md_T := (yX2_contains, cX2_contains, 3, some .boolean, 0, 0, [])
def mX2_startEdge : md_T := (yX2_startEdge, cX2_startEdge, 1, some .int, 0, 0, [])
def mX2_endEdge : md_T := (yX2_endEdge, cX2_endEdge, 2, some .int, 0, 0, [])
def mX2_nodeNumber : md_T := (yX2_nodeNumber, cX2_nodeNumber, 2, some .int, 1, 21, [])
def mX2_nodeAt : md_T := (yX2_nodeAt, cX2_nodeAt, 3, some .int, 1, 20, [])
def mX2_numberOf : md_T := (yX2_numberOf, cX2_numberOf, 7, some .int, 2, 45, [])
def mX2_plusValue : md_T := (yX2_plusValue, cX2_plusValue, 3, some .int, 0, 0, [])
def mX3_init : md_T := (yX3_init, cX3_init, 1, none, 2, 34, [])
def mX3_read : md_T := (yX3_read, cX3_read, 3, some .int, 4, 88, [])
def mX3_readsGraph : md_T := (yX3_readsGraph, cX3_readsGraph, 2, some .boolean, 5, 110, [])
def mX3_endsWithTarget : md_T := (yX3_endsWithTarget, cX3_endsWithTarget, 2, some .boolean, 0, 0, [])
def mX3_takes : md_T := (yX3_takes, cX3_takes, 3, some .boolean, 3, 66, [])
def mX3_takesExit : md_T := (yX3_takesExit, cX3_takesExit, 2, some .boolean, 1, 21, [])
def mX3_takesSource : md_T := (yX3_takesSource, cX3_takesSource, 2, some .boolean, 1, 21, [])
def mX3_takesTarget : md_T := (yX3_takesTarget, cX3_takesTarget, 2, some .boolean, 2, 45, [])
def mX4_init : md_T := (yX4_init, cX4_init, 2, none, 1, 14, [])
def mX4_run : md_T := (yX4_run, cX4_run, 4, none, 2, 43, [])
def mX4_prepare : md_T := (yX4_prepare, cX4_prepare, 2, none, 0, 0, [])
def mX4_enter : md_T := (yX4_enter, cX4_enter, 2, none, 0, 0, [])
def mX4_leave : md_T := (yX4_leave, cX4_leave, 2, none, 0, 0, [])
def mX4_follow : md_T := (yX4_follow, cX4_follow, 3, none, 1, 21, [])
def mX4_allNodesReached : md_T := (yX4_allNodesReached, cX4_allNodesReached, 1, some .boolean, 0, 0, [])
def mX4_exitReachedFromAllNodes : md_T := (yX4_exitReachedFromAllNodes, cX4_exitReachedFromAllNodes, 2, some .boolean, 1, 21, [])
def mX4_spreadLeadsToExit : md_T := (yX4_spreadLeadsToExit, cX4_spreadLeadsToExit, 2, none, 0, 0, [])
def mX5_init : md_T := (yX5_init, cX5_init, 1, none, 1, 14, [])
def mX5_isFull : md_T := (yX5_isFull, cX5_isFull, 1, some .boolean, 0, 0, [])
def mX5_add : md_T := (yX5_add, cX5_add, 2, none, 0, 0, [])
def mX5_nodeAt : md_T := (yX5_nodeAt, cX5_nodeAt, 2, some .int, 0, 0, [])
def mX6_init : md_T := (yX6_init, cX6_init, 3, none, 1, 14, [])
def mX6_build : md_T := (yX6_build, cX6_build, 2, none, 3, 64, [])
def mX6_weightOf : md_T := (yX6_weightOf, cX6_weightOf, 2, some .int, 0, 0, [])
def mX6_sortLinks : md_T := (yX6_sortLinks, cX6_sortLinks, 2, none, 2, 43, [])
def mX6_sortIn : md_T := (yX6_sortIn, cX6_sortIn, 3, none, 1, 21, [])
def mX6_plant : md_T := (yX6_plant, cX6_plant, 2, none, 1, 20, [])
def mX6_consider : md_T := (yX6_consider, cX6_consider, 2, none, 1, 27, [])
def mX6_join : md_T := (yX6_join, cX6_join, 8, none, 0, 0, [])
def mX6_computeIncrements : md_T := (yX6_computeIncrements, cX6_computeIncrements, 3, none, 0, 0, [])
def mX7_init : md_T := (yX7_init, cX7_init, 1, none, 1, 14, [])
def mX7_forget : md_T := (yX7_forget, cX7_forget, 2, none, 0, 0, [])
def mX7_begin : md_T := (yX7_begin, cX7_begin, 1, none, 0, 0, [])
def mX7_countPath : md_T := (yX7_countPath, cX7_countPath, 1, none, 0, 0, [])
def mX7_mostCounted : md_T := (yX7_mostCounted, cX7_mostCounted, 4, some .int, 0, 0, [])
def mX8_init : md_T := (yX8_init, cX8_init, 1, none, 3, 54, [])
def mX8_setNodes : md_T := (yX8_setNodes, cX8_setNodes, 2, none, 6, 84, [])
def mX8_addEdge : md_T := (yX8_addEdge, cX8_addEdge, 3, some .int, 6, 84, [])
def mX8_setWeight : md_T := (yX8_setWeight, cX8_setWeight, 4, some .int, 7, 105, [])
def mX8_edgeCount : md_T := (yX8_edgeCount, cX8_edgeCount, 1, some .int, 0, 0, [])
def mX8_append : md_T := (yX8_append, cX8_append, 2, some .int, 6, 84, [])
def mX8_clearInput : md_T := (yX8_clearInput, cX8_clearInput, 2, some .int, 0, 0, [])
def mX8_firstError : md_T := (yX8_firstError, cX8_firstError, 1, some .int, 5, 110, [])
def mX8_load : md_T := (yX8_load, cX8_load, 1, some .int, 6, 131, [])
def mX8_analyse : md_T := (yX8_analyse, cX8_analyse, 1, some .int, 4, 85, [])
def mX8_pathsFrom : md_T := (yX8_pathsFrom, cX8_pathsFrom, 2, some .int, 7, 104, [])
def mX8_isBack : md_T := (yX8_isBack, cX8_isBack, 2, some .boolean, 7, 105, [])
def mX8_value : md_T := (yX8_value, cX8_value, 3, some .int, 7, 105, [])
def mX8_increment : md_T := (yX8_increment, cX8_increment, 3, some .int, 7, 105, [])
def mX8_chords : md_T := (yX8_chords, cX8_chords, 2, some .int, 7, 104, [])
def mX8_pathLength : md_T := (yX8_pathLength, cX8_pathLength, 2, some .int, 7, 105, [])
def mX8_pathNode : md_T := (yX8_pathNode, cX8_pathNode, 3, some .int, 7, 105, [])
def mX8_pathEdge : md_T := (yX8_pathEdge, cX8_pathEdge, 3, some .int, 7, 105, [])
def mX8_findPath : md_T := (yX8_findPath, cX8_findPath, 1, some .int, 7, 104, [])
def mX8_start : md_T := (yX8_start, cX8_start, 1, none, 7, 104, [])
def mX8_step : md_T := (yX8_step, cX8_step, 3, some .int, 6, 84, [])
def mX8_current : md_T := (yX8_current, cX8_current, 1, some .int, 0, 0, [])
def mX8_register : md_T := (yX8_register, cX8_register, 1, some .int, 0, 0, [])
def mX8_count : md_T := (yX8_count, cX8_count, 2, some .int, 7, 105, [])
def mX8_share : md_T := (yX8_share, cX8_share, 2, some .double, 7, 105, [])
def mX8_hottest : md_T := (yX8_hottest, cX8_hottest, 1, some .int, 1, 23, [])
def mX8_edgeFrequency : md_T := (yX8_edgeFrequency, cX8_edgeFrequency, 5, some .int, 7, 105, [])
def mX8_digest : md_T := (yX8_digest, cX8_digest, 3, some .long, 3, 72, [])
def mX8_discardAnalysis : md_T := (yX8_discardAnalysis, cX8_discardAnalysis, 1, none, 1, 21, [])
def mX8_isCountable : md_T := (yX8_isCountable, cX8_isCountable, 1, some .boolean, 1, 20, [])
def mX8_requireAnalysis : md_T := (yX8_requireAnalysis, cX8_requireAnalysis, 1, none, 6, 84, [])
def mX8_requireCounts : md_T := (yX8_requireCounts, cX8_requireCounts, 1, none, 6, 84, [])
def mX8_requireEdge : md_T := (yX8_requireEdge, cX8_requireEdge, 2, none, 6, 84, [])
def mX8_requirePath : md_T := (yX8_requirePath, cX8_requirePath, 2, none, 6, 84, [])
def mX8_follow : md_T := (yX8_follow, cX8_follow, 3, none, 1, 22, [])
def mX8_mix : md_T := (yX8_mix, cX8_mix, 3, some .long, 0, 0, [])
def mX8_mixGraph : md_T := (yX8_mixGraph, cX8_mixGraph, 6, some .long, 1, 22, [])
def mX8_mixAnalysis : md_T := (yX8_mixAnalysis, cX8_mixAnalysis, 6, some .long, 2, 47, [])
def mX8_mixLink : md_T := (yX8_mixLink, cX8_mixLink, 6, some .long, 1, 22, [])
def mX8_mixCounts : md_T := (yX8_mixCounts, cX8_mixCounts, 6, some .long, 2, 40, [])
def mX8_mixText : md_T := (yX8_mixText, cX8_mixText, 6, some .long, 1, 22, [])
def mX9_init : md_T := (yX9_init, cX9_init, 1, none, 1, 14, [])
def mX9_thrown : md_T := (yX9_thrown, cX9_thrown, 1, some .int, 0, 0, [])
def mX9_within : md_T := (yX9_within, cX9_within, 3, some .boolean, 0, 0, [])
def mX9_discard : md_T := (yX9_discard, cX9_discard, 2, none, 0, 0, [])
def mX9_setNodes : md_T := (yX9_setNodes, cX9_setNodes, 2, none, 1, 22, [])
def mX9_isNode : md_T := (yX9_isNode, cX9_isNode, 2, some .boolean, 1, 22, [])
def mX9_edgeBetween : md_T := (yX9_edgeBetween, cX9_edgeBetween, 4, some .int, 0, 0, [])
def mX9_put : md_T := (yX9_put, cX9_put, 3, none, 0, 0, [])
def mX9_addEdge : md_T := (yX9_addEdge, cX9_addEdge, 4, some .int, 2, 43, [])
def mX9_isEdge : md_T := (yX9_isEdge, cX9_isEdge, 2, some .boolean, 1, 22, [])
def mX9_setWeight : md_T := (yX9_setWeight, cX9_setWeight, 4, some .int, 2, 43, [])
def mX9_edgeCount : md_T := (yX9_edgeCount, cX9_edgeCount, 1, some .int, 0, 0, [])
def mX9_append : md_T := (yX9_append, cX9_append, 2, some .int, 1, 22, [])
def mX9_clearInput : md_T := (yX9_clearInput, cX9_clearInput, 2, some .int, 0, 0, [])
def mX9_isNew : md_T := (yX9_isNew, cX9_isNew, 3, some .boolean, 0, 0, [])
def mX9_takes : md_T := (yX9_takes, cX9_takes, 4, some .boolean, 1, 22, [])
def mX9_rightLength : md_T := (yX9_rightLength, cX9_rightLength, 2, some .int, 2, 45, [])
def mX9_firstError : md_T := (yX9_firstError, cX9_firstError, 1, some .int, 3, 66, [])
def mX9_load : md_T := (yX9_load, cX9_load, 2, some .int, 3, 66, [])
def mX9_search : md_T := (yX9_search, cX9_search, 4, none, 0, 0, [])
def mX9_allEnd : md_T := (yX9_allEnd, cX9_allEnd, 4, some .boolean, 0, 0, [])
def mX9_linkFrom : md_T := (yX9_linkFrom, cX9_linkFrom, 2, some .int, 0, 0, [])
def mX9_linkTo : md_T := (yX9_linkTo, cX9_linkTo, 2, some .int, 0, 0, [])
def mX9_isLink : md_T := (yX9_isLink, cX9_isLink, 2, some .boolean, 0, 0, [])
def mX9_kind : md_T := (yX9_kind, cX9_kind, 2, some .int, 0, 0, [])
def mX9_linkBehind : md_T := (yX9_linkBehind, cX9_linkBehind, 7, some .int, 2, 43, [])
def mX9_comesBefore : md_T := (yX9_comesBefore, cX9_comesBefore, 3, some .boolean, 1, 21, [])
def mX9_number : md_T := (yX9_number, cX9_number, 5, none, 3, 69, [])
def mX9_isHeavier : md_T := (yX9_isHeavier, cX9_isHeavier, 5, some .boolean, 2, 43, [])
def mX9_join : md_T := (yX9_join, cX9_join, 6, none, 0, 0, [])
def mX9_growTree : md_T := (yX9_growTree, cX9_growTree, 2, none, 4, 89, [])
def mX9_heaviest : md_T := (yX9_heaviest, cX9_heaviest, 3, some .int, 3, 67, [])
def mX9_layPotentials : md_T := (yX9_layPotentials, cX9_layPotentials, 5, none, 1, 21, [])
def mX9_analyse : md_T := (yX9_analyse, cX9_analyse, 1, some .int, 5, 110, [])
def mX9_lack : md_T := (yX9_lack, cX9_lack, 2, some .int, 0, 0, [])
def mX9_pathsFrom : md_T := (yX9_pathsFrom, cX9_pathsFrom, 2, some .int, 2, 43, [])
def mX9_isBack : md_T := (yX9_isBack, cX9_isBack, 2, some .boolean, 2, 43, [])
def mX9_linkOf : md_T := (yX9_linkOf, cX9_linkOf, 3, some .int, 0, 0, [])
def mX9_value : md_T := (yX9_value, cX9_value, 3, some .int, 2, 43, [])
def mX9_increment : md_T := (yX9_increment, cX9_increment, 3, some .int, 2, 43, [])
def mX9_chordSum : md_T := (yX9_chordSum, cX9_chordSum, 4, some .int, 1, 21, [])
def mX9_chords : md_T := (yX9_chords, cX9_chords, 2, some .int, 2, 44, [])
def mX9_isPath : md_T := (yX9_isPath, cX9_isPath, 2, some .boolean, 1, 22, [])
def mX9_follow : md_T := (yX9_follow, cX9_follow, 5, none, 3, 69, [])
def mX9_beginsInside : md_T := (yX9_beginsInside, cX9_beginsInside, 1, some .boolean, 1, 21, [])
def mX9_endsInside : md_T := (yX9_endsInside, cX9_endsInside, 1, some .boolean, 1, 21, [])
def mX9_visited : md_T := (yX9_visited, cX9_visited, 1, some .int, 2, 41, [])
def mX9_visitedNode : md_T := (yX9_visitedNode, cX9_visitedNode, 3, some .int, 2, 41, [])
def mX9_lengthNow : md_T := (yX9_lengthNow, cX9_lengthNow, 2, some .int, 4, 93, [])
def mX9_pathLength : md_T := (yX9_pathLength, cX9_pathLength, 2, some .int, 5, 114, [])
def mX9_pathNode : md_T := (yX9_pathNode, cX9_pathNode, 3, some .int, 5, 114, [])
def mX9_edgeNow : md_T := (yX9_edgeNow, cX9_edgeNow, 3, some .int, 4, 93, [])
def mX9_pathEdge : md_T := (yX9_pathEdge, cX9_pathEdge, 3, some .int, 5, 115, [])
def mX9_leastValue : md_T := (yX9_leastValue, cX9_leastValue, 6, some .int, 1, 21, [])
def mX9_findNow : md_T := (yX9_findNow, cX9_findNow, 8, some .int, 2, 46, [])
def mX9_findPath : md_T := (yX9_findPath, cX9_findPath, 1, some .int, 3, 73, [])
def mX9_counts : md_T := (yX9_counts, cX9_counts, 1, some .boolean, 0, 0, [])
def mX9_start : md_T := (yX9_start, cX9_start, 1, none, 1, 20, [])
def mX9_edgeAt : md_T := (yX9_edgeAt, cX9_edgeAt, 5, some .int, 0, 0, [])
def mX9_step : md_T := (yX9_step, cX9_step, 4, some .int, 1, 24, [])
def mX9_currentNow : md_T := (yX9_currentNow, cX9_currentNow, 1, some .int, 0, 0, [])
def mX9_current : md_T := (yX9_current, cX9_current, 1, some .int, 1, 20, [])
def mX9_register : md_T := (yX9_register, cX9_register, 1, some .int, 0, 0, [])
def mX9_lackOfCounts : md_T := (yX9_lackOfCounts, cX9_lackOfCounts, 2, some .int, 1, 20, [])
def mX9_count : md_T := (yX9_count, cX9_count, 2, some .int, 2, 43, [])
def mX9_allCounts : md_T := (yX9_allCounts, cX9_allCounts, 3, some .int, 0, 0, [])
def mX9_share : md_T := (yX9_share, cX9_share, 2, some .double, 2, 43, [])
def mX9_hottestNow : md_T := (yX9_hottestNow, cX9_hottestNow, 3, some .int, 0, 0, [])
def mX9_hottest : md_T := (yX9_hottest, cX9_hottest, 1, some .int, 1, 22, [])
def mX9_frequency : md_T := (yX9_frequency, cX9_frequency, 6, some .int, 4, 93, [])
def mX9_edgeFrequency : md_T := (yX9_edgeFrequency, cX9_edgeFrequency, 2, some .int, 5, 118, [])
def mX9_mix : md_T := (yX9_mix, cX9_mix, 3, none, 0, 0, [])
def mX9_mixAnalysis : md_T := (yX9_mixAnalysis, cX9_mixAnalysis, 2, none, 2, 44, [])
def mX9_digest : md_T := (yX9_digest, cX9_digest, 2, some .long, 3, 65, [])
def mL_setNodes : md_T := (yL_setNodes, cL_setNodes, 3, some .int, 7, 105, [(0, 5, 8, 13)])
def mL_addEdge : md_T := (yL_addEdge, cL_addEdge, 5, some .int, 7, 106, [(0, 10, 13, 13), (0, 10, 17, 19)])
def mL_setWeight : md_T := (yL_setWeight, cL_setWeight, 5, some .int, 8, 128, [(0, 10, 13, 24), (0, 10, 17, 13)])
def mL_append : md_T := (yL_append, cL_append, 4, some .int, 7, 105, [(0, 9, 12, 13), (0, 9, 15, 19)])
def mL_load : md_T := (yL_load, cL_load, 3, some .int, 7, 151, [(0, 8, 11, 19)])
def mL_pathsFrom : md_T := (yL_pathsFrom, cL_pathsFrom, 4, some .int, 8, 125, [(0, 9, 12, 19), (0, 9, 15, 24)])
def mL_isBack : md_T := (yL_isBack, cL_isBack, 4, some .int, 8, 126, [(0, 16, 19, 19), (0, 16, 22, 24)])
def mL_value : md_T := (yL_value, cL_value, 5, some .int, 8, 127, [(0, 10, 13, 19), (0, 10, 17, 24)])
def mL_increment : md_T := (yL_increment, cL_increment, 5, some .int, 8, 127, [(0, 10, 13, 19), (0, 10, 17, 24)])
def mL_chords : md_T := (yL_chords, cL_chords, 4, some .int, 8, 125, [(0, 9, 12, 19)])
def mL_pathLength : md_T := (yL_pathLength, cL_pathLength, 4, some .int, 8, 126, [(0, 9, 12, 19), (0, 9, 15, 24)])
def mL_pathNode : md_T := (yL_pathNode, cL_pathNode, 5, some .int, 8, 127, [(0, 10, 13, 19), (0, 10, 17, 24)])
def mL_pathEdge : md_T := (yL_pathEdge, cL_pathEdge, 5, some .int, 8, 127, [(0, 10, 13, 19), (0, 10, 17, 24)])
def mL_findPath : md_T := (yL_findPath, cL_findPath, 3, some .int, 8, 124, [(0, 8, 11, 19)])
def mL_start : md_T := (yL_start, cL_start, 2, some .int, 8, 124, [(0, 4, 7, 19)])
def mL_step : md_T := (yL_step, cL_step, 4, some .int, 7, 106, [(0, 9, 12, 19), (0, 9, 15, 24)])
def mL_count : md_T := (yL_count, cL_count, 4, some .int, 8, 126, [(0, 9, 12, 19), (0, 9, 15, 24)])
def mL_share : md_T := (yL_share, cL_share, 4, some .int, 8, 126, [(0, 8, 11, 19), (0, 8, 14, 24)])
def mL_edgeFrequency : md_T := (yL_edgeFrequency, cL_edgeFrequency, 4, some .int, 8, 129, [(0, 9, 12, 19), (0, 9, 15, 24)])
def mL_law : md_T := (x, code, 9, some .boolean, 11, 386, [])
set_option maxRecDepth 20000 in
theorem tcX0_init : gWord mX0_init ∈ TG := tg_mem 108 (by rfl) rfl
set_option maxRecDepth 20000 in
theorem tcX0_reset : gWord mX0_reset ∈ TG := tg_mem 375 (by rfl) rfl
set_option maxRecDepth 20000 in
theorem tcX0_exit : gWord mX0_exit ∈ TG := tg_mem 403 (by rfl) rfl
set_option maxRecDepth 20000 in
theorem tcX0_hasNode : gWord mX0_hasNode ∈ TG := tg_mem 399 (by rfl) rfl
set_option maxRecDepth 20000 in
theorem tcX0_hasEdge : gWord mX0_hasEdge ∈ TG := tg_mem 694 (by rfl) rfl
set_option maxRecDepth 20000 in
theorem tcX0_isFull : gWord mX0_isFull ∈ TG := tg_mem 391 (by rfl) rfl
set_option maxRecDepth 20000 in
theorem tcX0_allows : gWord mX0_allows ∈ TG := tg_mem 395 (by rfl) rfl
set_option maxRecDepth 20000 in
theorem tcX0_joins : gWord mX0_joins ∈ TG := tg_mem 407 (by rfl) rfl
set_option maxRecDepth 20000 in
theorem tcX0_add : gWord mX0_add ∈ TG := tg_mem 411 (by rfl) rfl
set_option maxRecDepth 20000 in
theorem tcX0_nextOf : gWord mX0_nextOf ∈ TG := tg_mem 445 (by rfl) rfl
set_option maxRecDepth 20000 in
theorem tcX0_edgeAt : gWord mX0_edgeAt ∈ TG := tg_mem 900 (by rfl) rfl
set_option maxRecDepth 20000 in
theorem tcX0_become : gWord mX0_become ∈ TG := tg_mem 749 (by rfl) rfl
set_option maxRecDepth 20000 in
theorem tcX1_init : gWord mX1_init ∈ TG := tg_mem 221 (by rfl) rfl
set_option maxRecDepth 20000 in
theorem tcX1_build : gWord mX1_build ∈ TG := tg_mem 470 (by rfl) rfl
set_option maxRecDepth 20000 in
theorem tcX1_put : gWord mX1_put ∈ TG := tg_mem 474 (by rfl) rfl
set_option maxRecDepth 20000 in
theorem tcX1_countPaths : gWord mX1_countPaths ∈ TG := tg_mem 479 (by rfl) rfl
set_option maxRecDepth 20000 in
theorem tcX1_countPathsOf : gWord mX1_countPathsOf ∈ TG := tg_mem 483 (by rfl) rfl
set_option maxRecDepth 20000 in
theorem tcX1_allPaths : gWord mX1_allPaths ∈ TG := tg_mem 520 (by rfl) rfl
set_option maxRecDepth 20000 in
theorem tcX1_linkOf : gWord mX1_linkOf ∈ TG := tg_mem 557 (by rfl) rfl
set_option maxRecDepth 20000 in
theorem tcX1_between : gWord mX1_between ∈ TG := tg_mem 866 (by rfl) rfl
set_option maxRecDepth 20000 in
theorem tcX1_onward : gWord mX1_onward ∈ TG := tg_mem 814 (by rfl) rfl
set_option maxRecDepth 20000 in
theorem tcX2_init : gWord mX2_init ∈ TG := tg_mem 290 (by rfl) rfl
set_option maxRecDepth 20000 in
theorem tcX2_trace : gWord mX2_trace ∈ TG := tg_mem 809 (by rfl) rfl
set_option maxRecDepth 20000 in
theorem tcX2_contains : gWord mX2_contains ∈ TG := tg_mem 934 (by rfl) rfl
set_option maxRecDepth 20000 in
theorem tcX2_startEdge : gWord mX2_startEdge ∈ TG := tg_mem 822 (by rfl) rfl
set_option maxRecDepth 20000 in
theorem tcX2_endEdge : gWord mX2_endEdge ∈ TG := tg_mem 826 (by rfl) rfl
set_option maxRecDepth 20000 in
theorem tcX2_nodeNumber : gWord mX2_nodeNumber ∈ TG := tg_mem 818 (by rfl) rfl
set_option maxRecDepth 20000 in
theorem tcX2_nodeAt : gWord mX2_nodeAt ∈ TG := tg_mem 838 (by rfl) rfl
set_option maxRecDepth 20000 in
theorem tcX2_numberOf : gWord mX2_numberOf ∈ TG := tg_mem 858 (by rfl) rfl
set_option maxRecDepth 20000 in
theorem tcX2_plusValue : gWord mX2_plusValue ∈ TG := tg_mem 871 (by rfl) rfl
set_option maxRecDepth 20000 in
theorem tcX3_init : gWord mX3_init ∈ TG := tg_mem 163 (by rfl) rfl
set_option maxRecDepth 20000 in
theorem tcX3_read : gWord mX3_read ∈ TG := tg_mem 371 (by rfl) rfl
set_option maxRecDepth 20000 in
theorem tcX3_readsGraph : gWord mX3_readsGraph ∈ TG := tg_mem 739 (by rfl) rfl
set_option maxRecDepth 20000 in
theorem tcX3_endsWithTarget : gWord mX3_endsWithTarget ∈ TG := tg_mem 743 (by rfl) rfl
set_option maxRecDepth 20000 in
theorem tcX3_takes : gWord mX3_takes ∈ TG := tg_mem 379 (by rfl) rfl
set_option maxRecDepth 20000 in
theorem tcX3_takesExit : gWord mX3_takesExit ∈ TG := tg_mem 383 (by rfl) rfl
set_option maxRecDepth 20000 in
theorem tcX3_takesSource : gWord mX3_takesSource ∈ TG := tg_mem 415 (by rfl) rfl
set_option maxRecDepth 20000 in
theorem tcX3_takesTarget : gWord mX3_takesTarget ∈ TG := tg_mem 387 (by rfl) rfl
set_option maxRecDepth 20000 in
theorem tcX4_init : gWord mX4_init ∈ TG := tg_mem 179 (by rfl) rfl
set_option maxRecDepth 20000 in
theorem tcX4_run : gWord mX4_run ∈ TG := tg_mem 433 (by rfl) rfl
set_option maxRecDepth 20000 in
theorem tcX4_prepare : gWord mX4_prepare ∈ TG := tg_mem 437 (by rfl) rfl
set_option maxRecDepth 20000 in
theorem tcX4_enter : gWord mX4_enter ∈ TG := tg_mem 441 (by rfl) rfl
set_option maxRecDepth 20000 in
theorem tcX4_leave : gWord mX4_leave ∈ TG := tg_mem 449 (by rfl) rfl
set_option maxRecDepth 20000 in
theorem tcX4_follow : gWord mX4_follow ∈ TG := tg_mem 453 (by rfl) rfl
set_option maxRecDepth 20000 in
theorem tcX4_allNodesReached : gWord mX4_allNodesReached ∈ TG := tg_mem 457 (by rfl) rfl
set_option maxRecDepth 20000 in
theorem tcX4_exitReachedFromAllNodes : gWord mX4_exitReachedFromAllNodes ∈ TG := tg_mem 461 (by rfl) rfl
set_option maxRecDepth 20000 in
theorem tcX4_spreadLeadsToExit : gWord mX4_spreadLeadsToExit ∈ TG := tg_mem 466 (by rfl) rfl
set_option maxRecDepth 20000 in
theorem tcX5_init : gWord mX5_init ∈ TG := tg_mem 145 (by rfl) rfl
set_option maxRecDepth 20000 in
theorem tcX5_isFull : gWord mX5_isFull ∈ TG := tg_mem 723 (by rfl) rfl
set_option maxRecDepth 20000 in
theorem tcX5_add : gWord mX5_add ∈ TG := tg_mem 728 (by rfl) rfl
set_option maxRecDepth 20000 in
theorem tcX5_nodeAt : gWord mX5_nodeAt ∈ TG := tg_mem 862 (by rfl) rfl
set_option maxRecDepth 20000 in
theorem tcX6_init : gWord mX6_init ∈ TG := tg_mem 253 (by rfl) rfl
set_option maxRecDepth 20000 in
theorem tcX6_build : gWord mX6_build ∈ TG := tg_mem 487 (by rfl) rfl
set_option maxRecDepth 20000 in
theorem tcX6_weightOf : gWord mX6_weightOf ∈ TG := tg_mem 499 (by rfl) rfl
set_option maxRecDepth 20000 in
theorem tcX6_sortLinks : gWord mX6_sortLinks ∈ TG := tg_mem 491 (by rfl) rfl
set_option maxRecDepth 20000 in
theorem tcX6_sortIn : gWord mX6_sortIn ∈ TG := tg_mem 495 (by rfl) rfl
set_option maxRecDepth 20000 in
theorem tcX6_plant : gWord mX6_plant ∈ TG := tg_mem 503 (by rfl) rfl
set_option maxRecDepth 20000 in
theorem tcX6_consider : gWord mX6_consider ∈ TG := tg_mem 508 (by rfl) rfl
set_option maxRecDepth 20000 in
theorem tcX6_join : gWord mX6_join ∈ TG := tg_mem 512 (by rfl) rfl
set_option maxRecDepth 20000 in
theorem tcX6_computeIncrements : gWord mX6_computeIncrements ∈ TG := tg_mem 516 (by rfl) rfl
set_option maxRecDepth 20000 in
theorem tcX7_init : gWord mX7_init ∈ TG := tg_mem 309 (by rfl) rfl
set_option maxRecDepth 20000 in
theorem tcX7_forget : gWord mX7_forget ∈ TG := tg_mem 429 (by rfl) rfl
set_option maxRecDepth 20000 in
theorem tcX7_begin : gWord mX7_begin ∈ TG := tg_mem 887 (by rfl) rfl
set_option maxRecDepth 20000 in
theorem tcX7_countPath : gWord mX7_countPath ∈ TG := tg_mem 909 (by rfl) rfl
set_option maxRecDepth 20000 in
theorem tcX7_mostCounted : gWord mX7_mostCounted ∈ TG := tg_mem 536 (by rfl) rfl
set_option maxRecDepth 20000 in
theorem tcX8_init : gWord mX8_init ∈ TG := tg_mem 100 (by rfl) rfl
set_option maxRecDepth 20000 in
theorem tcX8_setNodes : gWord mX8_setNodes ∈ TG := tg_mem 581 (by rfl) rfl
set_option maxRecDepth 20000 in
theorem tcX8_addEdge : gWord mX8_addEdge ∈ TG := tg_mem 658 (by rfl) rfl
set_option maxRecDepth 20000 in
theorem tcX8_setWeight : gWord mX8_setWeight ∈ TG := tg_mem 686 (by rfl) rfl
set_option maxRecDepth 20000 in
theorem tcX8_edgeCount : gWord mX8_edgeCount ∈ TG := tg_mem 359 (by rfl) rfl
set_option maxRecDepth 20000 in
theorem tcX8_append : gWord mX8_append ∈ TG := tg_mem 718 (by rfl) rfl
set_option maxRecDepth 20000 in
theorem tcX8_clearInput : gWord mX8_clearInput ∈ TG := tg_mem 363 (by rfl) rfl
set_option maxRecDepth 20000 in
theorem tcX8_firstError : gWord mX8_firstError ∈ TG := tg_mem 367 (by rfl) rfl
set_option maxRecDepth 20000 in
theorem tcX8_load : gWord mX8_load ∈ TG := tg_mem 735 (by rfl) rfl
set_option maxRecDepth 20000 in
theorem tcX8_analyse : gWord mX8_analyse ∈ TG := tg_mem 421 (by rfl) rfl
set_option maxRecDepth 20000 in
theorem tcX8_pathsFrom : gWord mX8_pathsFrom ∈ TG := tg_mem 758 (by rfl) rfl
set_option maxRecDepth 20000 in
theorem tcX8_isBack : gWord mX8_isBack ∈ TG := tg_mem 772 (by rfl) rfl
set_option maxRecDepth 20000 in
theorem tcX8_value : gWord mX8_value ∈ TG := tg_mem 779 (by rfl) rfl
set_option maxRecDepth 20000 in
theorem tcX8_increment : gWord mX8_increment ∈ TG := tg_mem 786 (by rfl) rfl
set_option maxRecDepth 20000 in
theorem tcX8_chords : gWord mX8_chords ∈ TG := tg_mem 793 (by rfl) rfl
set_option maxRecDepth 20000 in
theorem tcX8_pathLength : gWord mX8_pathLength ∈ TG := tg_mem 800 (by rfl) rfl
set_option maxRecDepth 20000 in
theorem tcX8_pathNode : gWord mX8_pathNode ∈ TG := tg_mem 833 (by rfl) rfl
set_option maxRecDepth 20000 in
theorem tcX8_pathEdge : gWord mX8_pathEdge ∈ TG := tg_mem 845 (by rfl) rfl
set_option maxRecDepth 20000 in
theorem tcX8_findPath : gWord mX8_findPath ∈ TG := tg_mem 854 (by rfl) rfl
set_option maxRecDepth 20000 in
theorem tcX8_start : gWord mX8_start ∈ TG := tg_mem 878 (by rfl) rfl
set_option maxRecDepth 20000 in
theorem tcX8_step : gWord mX8_step ∈ TG := tg_mem 894 (by rfl) rfl
set_option maxRecDepth 20000 in
theorem tcX8_current : gWord mX8_current ∈ TG := tg_mem 524 (by rfl) rfl
set_option maxRecDepth 20000 in
theorem tcX8_register : gWord mX8_register ∈ TG := tg_mem 528 (by rfl) rfl
set_option maxRecDepth 20000 in
theorem tcX8_count : gWord mX8_count ∈ TG := tg_mem 916 (by rfl) rfl
set_option maxRecDepth 20000 in
theorem tcX8_share : gWord mX8_share ∈ TG := tg_mem 923 (by rfl) rfl
set_option maxRecDepth 20000 in
theorem tcX8_hottest : gWord mX8_hottest ∈ TG := tg_mem 532 (by rfl) rfl
set_option maxRecDepth 20000 in
theorem tcX8_edgeFrequency : gWord mX8_edgeFrequency ∈ TG := tg_mem 930 (by rfl) rfl
set_option maxRecDepth 20000 in
theorem tcX8_digest : gWord mX8_digest ∈ TG := tg_mem 540 (by rfl) rfl
set_option maxRecDepth 20000 in
theorem tcX8_discardAnalysis : gWord mX8_discardAnalysis ∈ TG := tg_mem 425 (by rfl) rfl
set_option maxRecDepth 20000 in
theorem tcX8_isCountable : gWord mX8_isCountable ∈ TG := tg_mem 569 (by rfl) rfl
set_option maxRecDepth 20000 in
theorem tcX8_requireAnalysis : gWord mX8_requireAnalysis ∈ TG := tg_mem 762 (by rfl) rfl
set_option maxRecDepth 20000 in
theorem tcX8_requireCounts : gWord mX8_requireCounts ∈ TG := tg_mem 882 (by rfl) rfl
set_option maxRecDepth 20000 in
theorem tcX8_requireEdge : gWord mX8_requireEdge ∈ TG := tg_mem 690 (by rfl) rfl
set_option maxRecDepth 20000 in
theorem tcX8_requirePath : gWord mX8_requirePath ∈ TG := tg_mem 804 (by rfl) rfl
set_option maxRecDepth 20000 in
theorem tcX8_follow : gWord mX8_follow ∈ TG := tg_mem 905 (by rfl) rfl
set_option maxRecDepth 20000 in
theorem tcX8_mix : gWord mX8_mix ∈ TG := tg_mem 548 (by rfl) rfl
set_option maxRecDepth 20000 in
theorem tcX8_mixGraph : gWord mX8_mixGraph ∈ TG := tg_mem 545 (by rfl) rfl
set_option maxRecDepth 20000 in
theorem tcX8_mixAnalysis : gWord mX8_mixAnalysis ∈ TG := tg_mem 553 (by rfl) rfl
set_option maxRecDepth 20000 in
theorem tcX8_mixLink : gWord mX8_mixLink ∈ TG := tg_mem 561 (by rfl) rfl
set_option maxRecDepth 20000 in
theorem tcX8_mixCounts : gWord mX8_mixCounts ∈ TG := tg_mem 565 (by rfl) rfl
set_option maxRecDepth 20000 in
theorem tcX8_mixText : gWord mX8_mixText ∈ TG := tg_mem 573 (by rfl) rfl
set_option maxRecDepth 20000 in
theorem tcX9_init : gWord mX9_init ∈ TG := tg_mem 939 (by rfl) rfl
set_option maxRecDepth 20000 in
theorem tcX9_thrown : gWord mX9_thrown ∈ TG := tg_mem 1056 (by rfl) rfl
set_option maxRecDepth 20000 in
theorem tcX9_within : gWord mX9_within ∈ TG := tg_mem 1063 (by rfl) rfl
set_option maxRecDepth 20000 in
theorem tcX9_discard : gWord mX9_discard ∈ TG := tg_mem 1067 (by rfl) rfl
set_option maxRecDepth 20000 in
theorem tcX9_setNodes : gWord mX9_setNodes ∈ TG := tg_mem 1060 (by rfl) rfl
set_option maxRecDepth 20000 in
theorem tcX9_isNode : gWord mX9_isNode ∈ TG := tg_mem 1075 (by rfl) rfl
set_option maxRecDepth 20000 in
theorem tcX9_edgeBetween : gWord mX9_edgeBetween ∈ TG := tg_mem 1079 (by rfl) rfl
set_option maxRecDepth 20000 in
theorem tcX9_put : gWord mX9_put ∈ TG := tg_mem 1083 (by rfl) rfl
set_option maxRecDepth 20000 in
theorem tcX9_addEdge : gWord mX9_addEdge ∈ TG := tg_mem 1071 (by rfl) rfl
set_option maxRecDepth 20000 in
theorem tcX9_isEdge : gWord mX9_isEdge ∈ TG := tg_mem 1091 (by rfl) rfl
set_option maxRecDepth 20000 in
theorem tcX9_setWeight : gWord mX9_setWeight ∈ TG := tg_mem 1087 (by rfl) rfl
set_option maxRecDepth 20000 in
theorem tcX9_edgeCount : gWord mX9_edgeCount ∈ TG := tg_mem 1095 (by rfl) rfl
set_option maxRecDepth 20000 in
theorem tcX9_append : gWord mX9_append ∈ TG := tg_mem 1099 (by rfl) rfl
set_option maxRecDepth 20000 in
theorem tcX9_clearInput : gWord mX9_clearInput ∈ TG := tg_mem 1103 (by rfl) rfl
set_option maxRecDepth 20000 in
theorem tcX9_isNew : gWord mX9_isNew ∈ TG := tg_mem 1119 (by rfl) rfl
set_option maxRecDepth 20000 in
theorem tcX9_takes : gWord mX9_takes ∈ TG := tg_mem 1115 (by rfl) rfl
set_option maxRecDepth 20000 in
theorem tcX9_rightLength : gWord mX9_rightLength ∈ TG := tg_mem 1111 (by rfl) rfl
set_option maxRecDepth 20000 in
theorem tcX9_firstError : gWord mX9_firstError ∈ TG := tg_mem 1107 (by rfl) rfl
set_option maxRecDepth 20000 in
theorem tcX9_load : gWord mX9_load ∈ TG := tg_mem 1123 (by rfl) rfl
set_option maxRecDepth 20000 in
theorem tcX9_search : gWord mX9_search ∈ TG := tg_mem 1131 (by rfl) rfl
set_option maxRecDepth 20000 in
theorem tcX9_allEnd : gWord mX9_allEnd ∈ TG := tg_mem 1135 (by rfl) rfl
set_option maxRecDepth 20000 in
theorem tcX9_linkFrom : gWord mX9_linkFrom ∈ TG := tg_mem 1151 (by rfl) rfl
set_option maxRecDepth 20000 in
theorem tcX9_linkTo : gWord mX9_linkTo ∈ TG := tg_mem 1163 (by rfl) rfl
set_option maxRecDepth 20000 in
theorem tcX9_isLink : gWord mX9_isLink ∈ TG := tg_mem 1147 (by rfl) rfl
set_option maxRecDepth 20000 in
theorem tcX9_kind : gWord mX9_kind ∈ TG := tg_mem 1159 (by rfl) rfl
set_option maxRecDepth 20000 in
theorem tcX9_linkBehind : gWord mX9_linkBehind ∈ TG := tg_mem 1143 (by rfl) rfl
set_option maxRecDepth 20000 in
theorem tcX9_comesBefore : gWord mX9_comesBefore ∈ TG := tg_mem 1155 (by rfl) rfl
set_option maxRecDepth 20000 in
theorem tcX9_number : gWord mX9_number ∈ TG := tg_mem 1139 (by rfl) rfl
set_option maxRecDepth 20000 in
theorem tcX9_isHeavier : gWord mX9_isHeavier ∈ TG := tg_mem 1179 (by rfl) rfl
set_option maxRecDepth 20000 in
theorem tcX9_join : gWord mX9_join ∈ TG := tg_mem 1171 (by rfl) rfl
set_option maxRecDepth 20000 in
theorem tcX9_growTree : gWord mX9_growTree ∈ TG := tg_mem 1167 (by rfl) rfl
set_option maxRecDepth 20000 in
theorem tcX9_heaviest : gWord mX9_heaviest ∈ TG := tg_mem 1175 (by rfl) rfl
set_option maxRecDepth 20000 in
theorem tcX9_layPotentials : gWord mX9_layPotentials ∈ TG := tg_mem 1183 (by rfl) rfl
set_option maxRecDepth 20000 in
theorem tcX9_analyse : gWord mX9_analyse ∈ TG := tg_mem 1127 (by rfl) rfl
set_option maxRecDepth 20000 in
theorem tcX9_lack : gWord mX9_lack ∈ TG := tg_mem 1191 (by rfl) rfl
set_option maxRecDepth 20000 in
theorem tcX9_pathsFrom : gWord mX9_pathsFrom ∈ TG := tg_mem 1187 (by rfl) rfl
set_option maxRecDepth 20000 in
theorem tcX9_isBack : gWord mX9_isBack ∈ TG := tg_mem 1195 (by rfl) rfl
set_option maxRecDepth 20000 in
theorem tcX9_linkOf : gWord mX9_linkOf ∈ TG := tg_mem 1203 (by rfl) rfl
set_option maxRecDepth 20000 in
theorem tcX9_value : gWord mX9_value ∈ TG := tg_mem 1199 (by rfl) rfl
set_option maxRecDepth 20000 in
theorem tcX9_increment : gWord mX9_increment ∈ TG := tg_mem 1207 (by rfl) rfl
set_option maxRecDepth 20000 in
theorem tcX9_chordSum : gWord mX9_chordSum ∈ TG := tg_mem 1215 (by rfl) rfl
set_option maxRecDepth 20000 in
theorem tcX9_chords : gWord mX9_chords ∈ TG := tg_mem 1211 (by rfl) rfl
set_option maxRecDepth 20000 in
theorem tcX9_isPath : gWord mX9_isPath ∈ TG := tg_mem 1223 (by rfl) rfl
set_option maxRecDepth 20000 in
theorem tcX9_follow : gWord mX9_follow ∈ TG := tg_mem 1231 (by rfl) rfl
set_option maxRecDepth 20000 in
theorem tcX9_beginsInside : gWord mX9_beginsInside ∈ TG := tg_mem 1239 (by rfl) rfl
set_option maxRecDepth 20000 in
theorem tcX9_endsInside : gWord mX9_endsInside ∈ TG := tg_mem 1243 (by rfl) rfl
set_option maxRecDepth 20000 in
theorem tcX9_visited : gWord mX9_visited ∈ TG := tg_mem 1235 (by rfl) rfl
set_option maxRecDepth 20000 in
theorem tcX9_visitedNode : gWord mX9_visitedNode ∈ TG := tg_mem 1251 (by rfl) rfl
set_option maxRecDepth 20000 in
theorem tcX9_lengthNow : gWord mX9_lengthNow ∈ TG := tg_mem 1227 (by rfl) rfl
set_option maxRecDepth 20000 in
theorem tcX9_pathLength : gWord mX9_pathLength ∈ TG := tg_mem 1219 (by rfl) rfl
set_option maxRecDepth 20000 in
theorem tcX9_pathNode : gWord mX9_pathNode ∈ TG := tg_mem 1247 (by rfl) rfl
set_option maxRecDepth 20000 in
theorem tcX9_edgeNow : gWord mX9_edgeNow ∈ TG := tg_mem 1259 (by rfl) rfl
set_option maxRecDepth 20000 in
theorem tcX9_pathEdge : gWord mX9_pathEdge ∈ TG := tg_mem 1255 (by rfl) rfl
set_option maxRecDepth 20000 in
theorem tcX9_leastValue : gWord mX9_leastValue ∈ TG := tg_mem 1271 (by rfl) rfl
set_option maxRecDepth 20000 in
theorem tcX9_findNow : gWord mX9_findNow ∈ TG := tg_mem 1267 (by rfl) rfl
set_option maxRecDepth 20000 in
theorem tcX9_findPath : gWord mX9_findPath ∈ TG := tg_mem 1263 (by rfl) rfl
set_option maxRecDepth 20000 in
theorem tcX9_counts : gWord mX9_counts ∈ TG := tg_mem 1279 (by rfl) rfl
set_option maxRecDepth 20000 in
theorem tcX9_start : gWord mX9_start ∈ TG := tg_mem 1275 (by rfl) rfl
set_option maxRecDepth 20000 in
theorem tcX9_edgeAt : gWord mX9_edgeAt ∈ TG := tg_mem 1287 (by rfl) rfl
set_option maxRecDepth 20000 in
theorem tcX9_step : gWord mX9_step ∈ TG := tg_mem 1283 (by rfl) rfl
set_option maxRecDepth 20000 in
theorem tcX9_currentNow : gWord mX9_currentNow ∈ TG := tg_mem 1295 (by rfl) rfl
set_option maxRecDepth 20000 in
theorem tcX9_current : gWord mX9_current ∈ TG := tg_mem 1291 (by rfl) rfl
set_option maxRecDepth 20000 in
theorem tcX9_register : gWord mX9_register ∈ TG := tg_mem 1299 (by rfl) rfl
set_option maxRecDepth 20000 in
theorem tcX9_lackOfCounts : gWord mX9_lackOfCounts ∈ TG := tg_mem 1307 (by rfl) rfl
set_option maxRecDepth 20000 in
theorem tcX9_count : gWord mX9_count ∈ TG := tg_mem 1303 (by rfl) rfl
set_option maxRecDepth 20000 in
theorem tcX9_allCounts : gWord mX9_allCounts ∈ TG := tg_mem 1315 (by rfl) rfl
set_option maxRecDepth 20000 in
theorem tcX9_share : gWord mX9_share ∈ TG := tg_mem 1311 (by rfl) rfl
set_option maxRecDepth 20000 in
theorem tcX9_hottestNow : gWord mX9_hottestNow ∈ TG := tg_mem 1323 (by rfl) rfl
set_option maxRecDepth 20000 in
theorem tcX9_hottest : gWord mX9_hottest ∈ TG := tg_mem 1319 (by rfl) rfl
set_option maxRecDepth 20000 in
theorem tcX9_frequency : gWord mX9_frequency ∈ TG := tg_mem 1331 (by rfl) rfl
set_option maxRecDepth 20000 in
theorem tcX9_edgeFrequency : gWord mX9_edgeFrequency ∈ TG := tg_mem 1327 (by rfl) rfl
set_option maxRecDepth 20000 in
theorem tcX9_mix : gWord mX9_mix ∈ TG := tg_mem 1340 (by rfl) rfl
set_option maxRecDepth 20000 in
theorem tcX9_mixAnalysis : gWord mX9_mixAnalysis ∈ TG := tg_mem 1345 (by rfl) rfl
set_option maxRecDepth 20000 in
theorem tcX9_digest : gWord mX9_digest ∈ TG := tg_mem 1335 (by rfl) rfl
set_option maxRecDepth 20000 in
theorem tcL_setNodes : gWord mL_setNodes ∈ TG := tg_mem 576 (by rfl) rfl
set_option maxRecDepth 20000 in
theorem tcL_addEdge : gWord mL_addEdge ∈ TG := tg_mem 653 (by rfl) rfl
set_option maxRecDepth 20000 in
theorem tcL_setWeight : gWord mL_setWeight ∈ TG := tg_mem 681 (by rfl) rfl
set_option maxRecDepth 20000 in
theorem tcL_append : gWord mL_append ∈ TG := tg_mem 714 (by rfl) rfl
set_option maxRecDepth 20000 in
theorem tcL_load : gWord mL_load ∈ TG := tg_mem 731 (by rfl) rfl
set_option maxRecDepth 20000 in
theorem tcL_pathsFrom : gWord mL_pathsFrom ∈ TG := tg_mem 754 (by rfl) rfl
set_option maxRecDepth 20000 in
theorem tcL_isBack : gWord mL_isBack ∈ TG := tg_mem 768 (by rfl) rfl
set_option maxRecDepth 20000 in
theorem tcL_value : gWord mL_value ∈ TG := tg_mem 775 (by rfl) rfl
set_option maxRecDepth 20000 in
theorem tcL_increment : gWord mL_increment ∈ TG := tg_mem 782 (by rfl) rfl
set_option maxRecDepth 20000 in
theorem tcL_chords : gWord mL_chords ∈ TG := tg_mem 789 (by rfl) rfl
set_option maxRecDepth 20000 in
theorem tcL_pathLength : gWord mL_pathLength ∈ TG := tg_mem 796 (by rfl) rfl
set_option maxRecDepth 20000 in
theorem tcL_pathNode : gWord mL_pathNode ∈ TG := tg_mem 829 (by rfl) rfl
set_option maxRecDepth 20000 in
theorem tcL_pathEdge : gWord mL_pathEdge ∈ TG := tg_mem 841 (by rfl) rfl
set_option maxRecDepth 20000 in
theorem tcL_findPath : gWord mL_findPath ∈ TG := tg_mem 850 (by rfl) rfl
set_option maxRecDepth 20000 in
theorem tcL_start : gWord mL_start ∈ TG := tg_mem 874 (by rfl) rfl
set_option maxRecDepth 20000 in
theorem tcL_step : gWord mL_step ∈ TG := tg_mem 890 (by rfl) rfl
set_option maxRecDepth 20000 in
theorem tcL_count : gWord mL_count ∈ TG := tg_mem 912 (by rfl) rfl
set_option maxRecDepth 20000 in
theorem tcL_share : gWord mL_share ∈ TG := tg_mem 919 (by rfl) rfl
set_option maxRecDepth 20000 in
theorem tcL_edgeFrequency : gWord mL_edgeFrequency ∈ TG := tg_mem 926 (by rfl) rfl
theorem tw81 : Cond.initialized RX0 ∈ TG := tg_mem 81 (by decide +kernel) rfl
theorem tw85 : Cond.initialized RX1 ∈ TG := tg_mem 85 (by decide +kernel) rfl
theorem tw87 : Cond.initialized RX2 ∈ TG := tg_mem 87 (by decide +kernel) rfl
theorem tw83 : Cond.initialized RX3 ∈ TG := tg_mem 83 (by decide +kernel) rfl
theorem tw84 : Cond.initialized RX4 ∈ TG := tg_mem 84 (by decide +kernel) rfl
theorem tw82 : Cond.initialized RX5 ∈ TG := tg_mem 82 (by decide +kernel) rfl
theorem tw86 : Cond.initialized RX6 ∈ TG := tg_mem 86 (by decide +kernel) rfl
theorem tw88 : Cond.initialized RX7 ∈ TG := tg_mem 88 (by decide +kernel) rfl
theorem tw80 : Cond.initialized RX8 ∈ TG := tg_mem 80 (by decide +kernel) rfl
theorem tw89 : Cond.initialized RX9 ∈ TG := tg_mem 89 (by decide +kernel) rfl
theorem tw79 : Cond.initialized RL ∈ TG := tg_mem 79 (by decide +kernel) rfl
theorem tw110 : Cond.fieldLink RX0 9 (TX0 0).1 (TX0 0).2.1 (TX0 0).2.2.1 ∈ TG := tg_mem 110 (by decide +kernel) rfl
theorem fX0_9 : fW RX0 9 0 0 false .int := ⟨RX0, TX0, 5, cf0, by decide, tw110, rfl, by decide +kernel⟩
theorem tw111 : Cond.fieldLink RX6 72 (TX0 0).1 (TX0 0).2.1 (TX0 0).2.2.1 ∈ TG := tg_mem 111 (by decide +kernel) rfl
theorem fX6_72 : fW RX6 72 0 0 false .int := ⟨RX0, TX0, 5, cf0, by decide, tw111, rfl, by decide +kernel⟩
theorem tw112 : Cond.fieldLink RX4 67 (TX0 0).1 (TX0 0).2.1 (TX0 0).2.2.1 ∈ TG := tg_mem 112 (by decide +kernel) rfl
theorem fX4_67 : fW RX4 67 0 0 false .int := ⟨RX0, TX0, 5, cf0, by decide, tw112, rfl, by decide +kernel⟩
theorem tw113 : Cond.fieldLink RX8 304 (TX0 0).1 (TX0 0).2.1 (TX0 0).2.2.1 ∈ TG := tg_mem 113 (by decide +kernel) rfl
theorem fX8_304 : fW RX8 304 0 0 false .int := ⟨RX0, TX0, 5, cf0, by decide, tw113, rfl, by decide +kernel⟩
theorem tw114 : Cond.fieldLink RX0 15 (TX0 1).1 (TX0 1).2.1 (TX0 1).2.2.1 ∈ TG := tg_mem 114 (by decide +kernel) rfl
theorem fX0_15 : fW RX0 15 0 1 false .int := ⟨RX0, TX0, 5, cf0, by decide, tw114, rfl, by decide +kernel⟩
theorem tw115 : Cond.fieldLink RX1 36 (TX0 1).1 (TX0 1).2.1 (TX0 1).2.2.1 ∈ TG := tg_mem 115 (by decide +kernel) rfl
theorem fX1_36 : fW RX1 36 0 1 false .int := ⟨RX0, TX0, 5, cf0, by decide, tw115, rfl, by decide +kernel⟩
theorem tw116 : Cond.fieldLink RX8 117 (TX0 1).1 (TX0 1).2.1 (TX0 1).2.2.1 ∈ TG := tg_mem 116 (by decide +kernel) rfl
theorem fX8_117 : fW RX8 117 0 1 false .int := ⟨RX0, TX0, 5, cf0, by decide, tw116, rfl, by decide +kernel⟩
theorem tw117 : Cond.fieldLink RX4 77 (TX0 1).1 (TX0 1).2.1 (TX0 1).2.2.1 ∈ TG := tg_mem 117 (by decide +kernel) rfl
theorem fX4_77 : fW RX4 77 0 1 false .int := ⟨RX0, TX0, 5, cf0, by decide, tw117, rfl, by decide +kernel⟩
theorem tw118 : Cond.fieldLink RX0 18 (TX0 2).1 (TX0 2).2.1 (TX0 2).2.2.1 ∈ TG := tg_mem 118 (by decide +kernel) rfl
theorem fX0_18 : fW RX0 18 0 2 true (.array .int) := ⟨RX0, TX0, 5, cf0, by decide, tw118, rfl, by decide +kernel⟩
theorem tw119 : Cond.fieldLink RX1 48 (TX0 2).1 (TX0 2).2.1 (TX0 2).2.2.1 ∈ TG := tg_mem 119 (by decide +kernel) rfl
theorem fX1_48 : fW RX1 48 0 2 true (.array .int) := ⟨RX0, TX0, 5, cf0, by decide, tw119, rfl, by decide +kernel⟩
theorem tw120 : Cond.fieldLink RX4 80 (TX0 2).1 (TX0 2).2.1 (TX0 2).2.2.1 ∈ TG := tg_mem 120 (by decide +kernel) rfl
theorem fX4_80 : fW RX4 80 0 2 true (.array .int) := ⟨RX0, TX0, 5, cf0, by decide, tw120, rfl, by decide +kernel⟩
theorem tw121 : Cond.fieldLink RX8 307 (TX0 2).1 (TX0 2).2.1 (TX0 2).2.2.1 ∈ TG := tg_mem 121 (by decide +kernel) rfl
theorem fX8_307 : fW RX8 307 0 2 true (.array .int) := ⟨RX0, TX0, 5, cf0, by decide, tw121, rfl, by decide +kernel⟩
theorem tw122 : Cond.fieldLink RX0 22 (TX0 3).1 (TX0 3).2.1 (TX0 3).2.2.1 ∈ TG := tg_mem 122 (by decide +kernel) rfl
theorem fX0_22 : fW RX0 22 0 3 true (.array .int) := ⟨RX0, TX0, 5, cf0, by decide, tw122, rfl, by decide +kernel⟩
theorem tw123 : Cond.fieldLink RX1 53 (TX0 3).1 (TX0 3).2.1 (TX0 3).2.2.1 ∈ TG := tg_mem 123 (by decide +kernel) rfl
theorem fX1_53 : fW RX1 53 0 3 true (.array .int) := ⟨RX0, TX0, 5, cf0, by decide, tw123, rfl, by decide +kernel⟩
theorem tw124 : Cond.fieldLink RX4 64 (TX0 3).1 (TX0 3).2.1 (TX0 3).2.2.1 ∈ TG := tg_mem 124 (by decide +kernel) rfl
theorem fX4_64 : fW RX4 64 0 3 true (.array .int) := ⟨RX0, TX0, 5, cf0, by decide, tw124, rfl, by decide +kernel⟩
theorem tw125 : Cond.fieldLink RX8 296 (TX0 3).1 (TX0 3).2.1 (TX0 3).2.2.1 ∈ TG := tg_mem 125 (by decide +kernel) rfl
theorem fX8_296 : fW RX8 296 0 3 true (.array .int) := ⟨RX0, TX0, 5, cf0, by decide, tw125, rfl, by decide +kernel⟩
theorem tw126 : Cond.fieldLink RX0 25 (TX0 4).1 (TX0 4).2.1 (TX0 4).2.2.1 ∈ TG := tg_mem 126 (by decide +kernel) rfl
theorem fX0_25 : fW RX0 25 0 4 true (.array .int) := ⟨RX0, TX0, 5, cf0, by decide, tw126, rfl, by decide +kernel⟩
theorem tw127 : Cond.fieldLink RX6 55 (TX0 4).1 (TX0 4).2.1 (TX0 4).2.2.1 ∈ TG := tg_mem 127 (by decide +kernel) rfl
theorem fX6_55 : fW RX6 55 0 4 true (.array .int) := ⟨RX0, TX0, 5, cf0, by decide, tw127, rfl, by decide +kernel⟩
theorem tw128 : Cond.fieldLink RX8 113 (TX0 4).1 (TX0 4).2.1 (TX0 4).2.2.1 ∈ TG := tg_mem 128 (by decide +kernel) rfl
theorem fX8_113 : fW RX8 113 0 4 true (.array .int) := ⟨RX0, TX0, 5, cf0, by decide, tw128, rfl, by decide +kernel⟩
theorem tw147 : Cond.fieldLink RX5 9 (TX5 0).1 (TX5 0).2.1 (TX5 0).2.2.1 ∈ TG := tg_mem 147 (by decide +kernel) rfl
theorem fX5_9 : fW RX5 9 5 0 true (.array .int) := ⟨RX5, TX5, 2, cf5, by decide, tw147, rfl, by decide +kernel⟩
theorem tw148 : Cond.fieldLink RX3 31 (TX5 0).1 (TX5 0).2.1 (TX5 0).2.2.1 ∈ TG := tg_mem 148 (by decide +kernel) rfl
theorem fX3_31 : fW RX3 31 5 0 true (.array .int) := ⟨RX5, TX5, 2, cf5, by decide, tw148, rfl, by decide +kernel⟩
theorem tw149 : Cond.fieldLink RX8 313 (TX5 0).1 (TX5 0).2.1 (TX5 0).2.2.1 ∈ TG := tg_mem 149 (by decide +kernel) rfl
theorem fX8_313 : fW RX8 313 5 0 true (.array .int) := ⟨RX5, TX5, 2, cf5, by decide, tw149, rfl, by decide +kernel⟩
theorem tw150 : Cond.fieldLink RX5 15 (TX5 1).1 (TX5 1).2.1 (TX5 1).2.2.1 ∈ TG := tg_mem 150 (by decide +kernel) rfl
theorem fX5_15 : fW RX5 15 5 1 false .int := ⟨RX5, TX5, 2, cf5, by decide, tw150, rfl, by decide +kernel⟩
theorem tw151 : Cond.fieldLink RX3 26 (TX5 1).1 (TX5 1).2.1 (TX5 1).2.2.1 ∈ TG := tg_mem 151 (by decide +kernel) rfl
theorem fX3_26 : fW RX3 26 5 1 false .int := ⟨RX5, TX5, 2, cf5, by decide, tw151, rfl, by decide +kernel⟩
theorem tw152 : Cond.fieldLink RX8 128 (TX5 1).1 (TX5 1).2.1 (TX5 1).2.2.1 ∈ TG := tg_mem 152 (by decide +kernel) rfl
theorem fX8_128 : fW RX8 128 5 1 false .int := ⟨RX5, TX5, 2, cf5, by decide, tw152, rfl, by decide +kernel⟩
theorem tw153 : Cond.fieldLink RX2 51 (TX5 1).1 (TX5 1).2.1 (TX5 1).2.2.1 ∈ TG := tg_mem 153 (by decide +kernel) rfl
theorem fX2_51 : fW RX2 51 5 1 false .int := ⟨RX5, TX5, 2, cf5, by decide, tw153, rfl, by decide +kernel⟩
theorem tw167 : Cond.fieldLink RX3 12 (TX3 0).1 (TX3 0).2.1 (TX3 0).2.2.1 ∈ TG := tg_mem 167 (by decide +kernel) rfl
theorem fX3_12 : fW RX3 12 3 0 true (.object "PathProfiler$Graph") := ⟨RX3, TX3, 2, cf3, by decide, tw167, rfl, by decide +kernel⟩
theorem tw168 : Cond.fieldLink RX8 141 (TX3 0).1 (TX3 0).2.1 (TX3 0).2.2.1 ∈ TG := tg_mem 168 (by decide +kernel) rfl
theorem fX8_141 : fW RX8 141 3 0 true (.object "PathProfiler$Graph") := ⟨RX3, TX3, 2, cf3, by decide, tw168, rfl, by decide +kernel⟩
theorem tw169 : Cond.fieldLink RX3 18 (TX3 1).1 (TX3 1).2.1 (TX3 1).2.2.1 ∈ TG := tg_mem 169 (by decide +kernel) rfl
theorem fX3_18 : fW RX3 18 3 1 false .int := ⟨RX3, TX3, 2, cf3, by decide, tw169, rfl, by decide +kernel⟩
theorem tw181 : Cond.fieldLink RX4 41 (TX4 0).1 (TX4 0).2.1 (TX4 0).2.2.1 ∈ TG := tg_mem 181 (by decide +kernel) rfl
theorem fX4_41 : fW RX4 41 4 0 true (.object "PathProfiler$Graph") := ⟨RX4, TX4, 10, cf4, by decide, tw181, rfl, by decide +kernel⟩
theorem tw182 : Cond.fieldLink RX4 9 (TX4 1).1 (TX4 1).2.1 (TX4 1).2.2.1 ∈ TG := tg_mem 182 (by decide +kernel) rfl
theorem fX4_9 : fW RX4 9 4 1 true (.array .boolean) := ⟨RX4, TX4, 10, cf4, by decide, tw182, rfl, by decide +kernel⟩
theorem tw183 : Cond.fieldLink RX1 42 (TX4 1).1 (TX4 1).2.1 (TX4 1).2.2.1 ∈ TG := tg_mem 183 (by decide +kernel) rfl
theorem fX1_42 : fW RX1 42 4 1 true (.array .boolean) := ⟨RX4, TX4, 10, cf4, by decide, tw183, rfl, by decide +kernel⟩
theorem tw184 : Cond.fieldLink RX8 179 (TX4 1).1 (TX4 1).2.1 (TX4 1).2.2.1 ∈ TG := tg_mem 184 (by decide +kernel) rfl
theorem fX8_179 : fW RX8 179 4 1 true (.array .boolean) := ⟨RX4, TX4, 10, cf4, by decide, tw184, rfl, by decide +kernel⟩
theorem tw185 : Cond.fieldLink RX4 15 (TX4 2).1 (TX4 2).2.1 (TX4 2).2.2.1 ∈ TG := tg_mem 185 (by decide +kernel) rfl
theorem fX4_15 : fW RX4 15 4 2 true (.array .int) := ⟨RX4, TX4, 10, cf4, by decide, tw185, rfl, by decide +kernel⟩
theorem tw186 : Cond.fieldLink RX1 60 (TX4 2).1 (TX4 2).2.1 (TX4 2).2.2.1 ∈ TG := tg_mem 186 (by decide +kernel) rfl
theorem fX1_60 : fW RX1 60 4 2 true (.array .int) := ⟨RX4, TX4, 10, cf4, by decide, tw186, rfl, by decide +kernel⟩
theorem tw187 : Cond.fieldLink RX4 19 (TX4 3).1 (TX4 3).2.1 (TX4 3).2.2.1 ∈ TG := tg_mem 187 (by decide +kernel) rfl
theorem fX4_19 : fW RX4 19 4 3 false .int := ⟨RX4, TX4, 10, cf4, by decide, tw187, rfl, by decide +kernel⟩
theorem tw188 : Cond.fieldLink RX1 57 (TX4 3).1 (TX4 3).2.1 (TX4 3).2.2.1 ∈ TG := tg_mem 188 (by decide +kernel) rfl
theorem fX1_57 : fW RX1 57 4 3 false .int := ⟨RX4, TX4, 10, cf4, by decide, tw188, rfl, by decide +kernel⟩
theorem tw189 : Cond.fieldLink RX4 23 (TX4 4).1 (TX4 4).2.1 (TX4 4).2.2.1 ∈ TG := tg_mem 189 (by decide +kernel) rfl
theorem fX4_23 : fW RX4 23 4 4 true (.array .int) := ⟨RX4, TX4, 10, cf4, by decide, tw189, rfl, by decide +kernel⟩
theorem tw190 : Cond.fieldLink RX4 26 (TX4 5).1 (TX4 5).2.1 (TX4 5).2.2.1 ∈ TG := tg_mem 190 (by decide +kernel) rfl
theorem fX4_26 : fW RX4 26 4 5 false .int := ⟨RX4, TX4, 10, cf4, by decide, tw190, rfl, by decide +kernel⟩
theorem tw191 : Cond.fieldLink RX4 29 (TX4 6).1 (TX4 6).2.1 (TX4 6).2.2.1 ∈ TG := tg_mem 191 (by decide +kernel) rfl
theorem fX4_29 : fW RX4 29 4 6 true (.array .int) := ⟨RX4, TX4, 10, cf4, by decide, tw191, rfl, by decide +kernel⟩
theorem tw192 : Cond.fieldLink RX4 32 (TX4 7).1 (TX4 7).2.1 (TX4 7).2.2.1 ∈ TG := tg_mem 192 (by decide +kernel) rfl
theorem fX4_32 : fW RX4 32 4 7 true (.array .boolean) := ⟨RX4, TX4, 10, cf4, by decide, tw192, rfl, by decide +kernel⟩
theorem tw193 : Cond.fieldLink RX4 35 (TX4 8).1 (TX4 8).2.1 (TX4 8).2.2.1 ∈ TG := tg_mem 193 (by decide +kernel) rfl
theorem fX4_35 : fW RX4 35 4 8 true (.array .boolean) := ⟨RX4, TX4, 10, cf4, by decide, tw193, rfl, by decide +kernel⟩
theorem tw194 : Cond.fieldLink RX4 38 (TX4 9).1 (TX4 9).2.1 (TX4 9).2.2.1 ∈ TG := tg_mem 194 (by decide +kernel) rfl
theorem fX4_38 : fW RX4 38 4 9 true (.array .boolean) := ⟨RX4, TX4, 10, cf4, by decide, tw194, rfl, by decide +kernel⟩
theorem tw223 : Cond.fieldLink RX1 24 (TX1 0).1 (TX1 0).2.1 (TX1 0).2.2.1 ∈ TG := tg_mem 223 (by decide +kernel) rfl
theorem fX1_24 : fW RX1 24 1 0 true (.object "PathProfiler$Graph") := ⟨RX1, TX1, 6, cf1, by decide, tw223, rfl, by decide +kernel⟩
theorem tw224 : Cond.fieldLink RX1 28 (TX1 1).1 (TX1 1).2.1 (TX1 1).2.2.1 ∈ TG := tg_mem 224 (by decide +kernel) rfl
theorem fX1_28 : fW RX1 28 1 1 true (.object "PathProfiler$Search") := ⟨RX1, TX1, 6, cf1, by decide, tw224, rfl, by decide +kernel⟩
theorem tw225 : Cond.fieldLink RX1 9 (TX1 2).1 (TX1 2).2.1 (TX1 2).2.2.1 ∈ TG := tg_mem 225 (by decide +kernel) rfl
theorem fX1_9 : fW RX1 9 1 2 true (.array .int) := ⟨RX1, TX1, 6, cf1, by decide, tw225, rfl, by decide +kernel⟩
theorem tw226 : Cond.fieldLink RX6 60 (TX1 2).1 (TX1 2).2.1 (TX1 2).2.2.1 ∈ TG := tg_mem 226 (by decide +kernel) rfl
theorem fX6_60 : fW RX6 60 1 2 true (.array .int) := ⟨RX1, TX1, 6, cf1, by decide, tw226, rfl, by decide +kernel⟩
theorem tw227 : Cond.fieldLink RX1 15 (TX1 3).1 (TX1 3).2.1 (TX1 3).2.2.1 ∈ TG := tg_mem 227 (by decide +kernel) rfl
theorem fX1_15 : fW RX1 15 1 3 true (.array .int) := ⟨RX1, TX1, 6, cf1, by decide, tw227, rfl, by decide +kernel⟩
theorem tw228 : Cond.fieldLink RX2 42 (TX1 3).1 (TX1 3).2.1 (TX1 3).2.2.1 ∈ TG := tg_mem 228 (by decide +kernel) rfl
theorem fX2_42 : fW RX2 42 1 3 true (.array .int) := ⟨RX1, TX1, 6, cf1, by decide, tw228, rfl, by decide +kernel⟩
theorem tw229 : Cond.fieldLink RX6 79 (TX1 3).1 (TX1 3).2.1 (TX1 3).2.2.1 ∈ TG := tg_mem 229 (by decide +kernel) rfl
theorem fX6_79 : fW RX6 79 1 3 true (.array .int) := ⟨RX1, TX1, 6, cf1, by decide, tw229, rfl, by decide +kernel⟩
theorem tw230 : Cond.fieldLink RX1 18 (TX1 4).1 (TX1 4).2.1 (TX1 4).2.2.1 ∈ TG := tg_mem 230 (by decide +kernel) rfl
theorem fX1_18 : fW RX1 18 1 4 true (.array .int) := ⟨RX1, TX1, 6, cf1, by decide, tw230, rfl, by decide +kernel⟩
theorem tw231 : Cond.fieldLink RX2 39 (TX1 4).1 (TX1 4).2.1 (TX1 4).2.2.1 ∈ TG := tg_mem 231 (by decide +kernel) rfl
theorem fX2_39 : fW RX2 39 1 4 true (.array .int) := ⟨RX1, TX1, 6, cf1, by decide, tw231, rfl, by decide +kernel⟩
theorem tw232 : Cond.fieldLink RX6 85 (TX1 4).1 (TX1 4).2.1 (TX1 4).2.2.1 ∈ TG := tg_mem 232 (by decide +kernel) rfl
theorem fX6_85 : fW RX6 85 1 4 true (.array .int) := ⟨RX1, TX1, 6, cf1, by decide, tw232, rfl, by decide +kernel⟩
theorem tw233 : Cond.fieldLink RX8 183 (TX1 4).1 (TX1 4).2.1 (TX1 4).2.2.1 ∈ TG := tg_mem 233 (by decide +kernel) rfl
theorem fX8_183 : fW RX8 183 1 4 true (.array .int) := ⟨RX1, TX1, 6, cf1, by decide, tw233, rfl, by decide +kernel⟩
theorem tw234 : Cond.fieldLink RX1 21 (TX1 5).1 (TX1 5).2.1 (TX1 5).2.2.1 ∈ TG := tg_mem 234 (by decide +kernel) rfl
theorem fX1_21 : fW RX1 21 1 5 true (.array .int) := ⟨RX1, TX1, 6, cf1, by decide, tw234, rfl, by decide +kernel⟩
theorem tw235 : Cond.fieldLink RX8 176 (TX1 5).1 (TX1 5).2.1 (TX1 5).2.2.1 ∈ TG := tg_mem 235 (by decide +kernel) rfl
theorem fX8_176 : fW RX8 176 1 5 true (.array .int) := ⟨RX1, TX1, 6, cf1, by decide, tw235, rfl, by decide +kernel⟩
theorem tw255 : Cond.fieldLink RX6 34 (TX6 0).1 (TX6 0).2.1 (TX6 0).2.2.1 ∈ TG := tg_mem 255 (by decide +kernel) rfl
theorem fX6_34 : fW RX6 34 6 0 true (.object "PathProfiler$Graph") := ⟨RX6, TX6, 9, cf6, by decide, tw255, rfl, by decide +kernel⟩
theorem tw256 : Cond.fieldLink RX6 38 (TX6 1).1 (TX6 1).2.1 (TX6 1).2.2.1 ∈ TG := tg_mem 256 (by decide +kernel) rfl
theorem fX6_38 : fW RX6 38 6 1 true (.object "PathProfiler$Links") := ⟨RX6, TX6, 9, cf6, by decide, tw256, rfl, by decide +kernel⟩
theorem tw257 : Cond.fieldLink RX6 9 (TX6 2).1 (TX6 2).2.1 (TX6 2).2.2.1 ∈ TG := tg_mem 257 (by decide +kernel) rfl
theorem fX6_9 : fW RX6 9 6 2 true (.array .int) := ⟨RX6, TX6, 9, cf6, by decide, tw257, rfl, by decide +kernel⟩
theorem tw258 : Cond.fieldLink RX8 190 (TX6 2).1 (TX6 2).2.1 (TX6 2).2.2.1 ∈ TG := tg_mem 258 (by decide +kernel) rfl
theorem fX8_190 : fW RX8 190 6 2 true (.array .int) := ⟨RX6, TX6, 9, cf6, by decide, tw258, rfl, by decide +kernel⟩
theorem tw259 : Cond.fieldLink RX6 15 (TX6 3).1 (TX6 3).2.1 (TX6 3).2.2.1 ∈ TG := tg_mem 259 (by decide +kernel) rfl
theorem fX6_15 : fW RX6 15 6 3 false .int := ⟨RX6, TX6, 9, cf6, by decide, tw259, rfl, by decide +kernel⟩
theorem tw260 : Cond.fieldLink RX8 196 (TX6 3).1 (TX6 3).2.1 (TX6 3).2.2.1 ∈ TG := tg_mem 260 (by decide +kernel) rfl
theorem fX8_196 : fW RX8 196 6 3 false .int := ⟨RX6, TX6, 9, cf6, by decide, tw260, rfl, by decide +kernel⟩
theorem tw261 : Cond.fieldLink RX6 19 (TX6 4).1 (TX6 4).2.1 (TX6 4).2.2.1 ∈ TG := tg_mem 261 (by decide +kernel) rfl
theorem fX6_19 : fW RX6 19 6 4 false .int := ⟨RX6, TX6, 9, cf6, by decide, tw261, rfl, by decide +kernel⟩
theorem tw262 : Cond.fieldLink RX8 193 (TX6 4).1 (TX6 4).2.1 (TX6 4).2.2.1 ∈ TG := tg_mem 262 (by decide +kernel) rfl
theorem fX8_193 : fW RX8 193 6 4 false .int := ⟨RX6, TX6, 9, cf6, by decide, tw262, rfl, by decide +kernel⟩
theorem tw263 : Cond.fieldLink RX6 22 (TX6 5).1 (TX6 5).2.1 (TX6 5).2.2.1 ∈ TG := tg_mem 263 (by decide +kernel) rfl
theorem fX6_22 : fW RX6 22 6 5 true (.array .int) := ⟨RX6, TX6, 9, cf6, by decide, tw263, rfl, by decide +kernel⟩
theorem tw264 : Cond.fieldLink RX6 25 (TX6 6).1 (TX6 6).2.1 (TX6 6).2.2.1 ∈ TG := tg_mem 264 (by decide +kernel) rfl
theorem fX6_25 : fW RX6 25 6 6 false .int := ⟨RX6, TX6, 9, cf6, by decide, tw264, rfl, by decide +kernel⟩
theorem tw265 : Cond.fieldLink RX6 28 (TX6 7).1 (TX6 7).2.1 (TX6 7).2.2.1 ∈ TG := tg_mem 265 (by decide +kernel) rfl
theorem fX6_28 : fW RX6 28 6 7 true (.array .int) := ⟨RX6, TX6, 9, cf6, by decide, tw265, rfl, by decide +kernel⟩
theorem tw266 : Cond.fieldLink RX6 31 (TX6 8).1 (TX6 8).2.1 (TX6 8).2.2.1 ∈ TG := tg_mem 266 (by decide +kernel) rfl
theorem fX6_31 : fW RX6 31 6 8 true (.array .int) := ⟨RX6, TX6, 9, cf6, by decide, tw266, rfl, by decide +kernel⟩
theorem tw292 : Cond.fieldLink RX2 19 (TX2 0).1 (TX2 0).2.1 (TX2 0).2.2.1 ∈ TG := tg_mem 292 (by decide +kernel) rfl
theorem fX2_19 : fW RX2 19 2 0 true (.object "PathProfiler$Graph") := ⟨RX2, TX2, 4, cf2, by decide, tw292, rfl, by decide +kernel⟩
theorem tw293 : Cond.fieldLink RX2 23 (TX2 1).1 (TX2 1).2.1 (TX2 1).2.2.1 ∈ TG := tg_mem 293 (by decide +kernel) rfl
theorem fX2_23 : fW RX2 23 2 1 true (.object "PathProfiler$Links") := ⟨RX2, TX2, 4, cf2, by decide, tw293, rfl, by decide +kernel⟩
theorem tw294 : Cond.fieldLink RX2 9 (TX2 2).1 (TX2 2).2.1 (TX2 2).2.2.1 ∈ TG := tg_mem 294 (by decide +kernel) rfl
theorem fX2_9 : fW RX2 9 2 2 true (.array .int) := ⟨RX2, TX2, 4, cf2, by decide, tw294, rfl, by decide +kernel⟩
theorem tw295 : Cond.fieldLink RX2 15 (TX2 3).1 (TX2 3).2.1 (TX2 3).2.2.1 ∈ TG := tg_mem 295 (by decide +kernel) rfl
theorem fX2_15 : fW RX2 15 2 3 false .int := ⟨RX2, TX2, 4, cf2, by decide, tw295, rfl, by decide +kernel⟩
theorem tw311 : Cond.fieldLink RX7 9 (TX7 0).1 (TX7 0).2.1 (TX7 0).2.2.1 ∈ TG := tg_mem 311 (by decide +kernel) rfl
theorem fX7_9 : fW RX7 9 7 0 false .int := ⟨RX7, TX7, 4, cf7, by decide, tw311, rfl, by decide +kernel⟩
theorem tw312 : Cond.fieldLink RX8 229 (TX7 0).1 (TX7 0).2.1 (TX7 0).2.2.1 ∈ TG := tg_mem 312 (by decide +kernel) rfl
theorem fX8_229 : fW RX8 229 7 0 false .int := ⟨RX7, TX7, 4, cf7, by decide, tw312, rfl, by decide +kernel⟩
theorem tw313 : Cond.fieldLink RX7 15 (TX7 1).1 (TX7 1).2.1 (TX7 1).2.2.1 ∈ TG := tg_mem 313 (by decide +kernel) rfl
theorem fX7_15 : fW RX7 15 7 1 false .int := ⟨RX7, TX7, 4, cf7, by decide, tw313, rfl, by decide +kernel⟩
theorem tw314 : Cond.fieldLink RX8 245 (TX7 1).1 (TX7 1).2.1 (TX7 1).2.2.1 ∈ TG := tg_mem 314 (by decide +kernel) rfl
theorem fX8_245 : fW RX8 245 7 1 false .int := ⟨RX7, TX7, 4, cf7, by decide, tw314, rfl, by decide +kernel⟩
theorem tw315 : Cond.fieldLink RX7 18 (TX7 2).1 (TX7 2).2.1 (TX7 2).2.2.1 ∈ TG := tg_mem 315 (by decide +kernel) rfl
theorem fX7_18 : fW RX7 18 7 2 true (.array .int) := ⟨RX7, TX7, 4, cf7, by decide, tw315, rfl, by decide +kernel⟩
theorem tw316 : Cond.fieldLink RX8 248 (TX7 2).1 (TX7 2).2.1 (TX7 2).2.2.1 ∈ TG := tg_mem 316 (by decide +kernel) rfl
theorem fX8_248 : fW RX8 248 7 2 true (.array .int) := ⟨RX7, TX7, 4, cf7, by decide, tw316, rfl, by decide +kernel⟩
theorem tw317 : Cond.fieldLink RX7 22 (TX7 3).1 (TX7 3).2.1 (TX7 3).2.2.1 ∈ TG := tg_mem 317 (by decide +kernel) rfl
theorem fX7_22 : fW RX7 22 7 3 false .int := ⟨RX7, TX7, 4, cf7, by decide, tw317, rfl, by decide +kernel⟩
theorem tw318 : Cond.fieldLink RX8 251 (TX7 3).1 (TX7 3).2.1 (TX7 3).2.2.1 ∈ TG := tg_mem 318 (by decide +kernel) rfl
theorem fX8_251 : fW RX8 251 7 3 false .int := ⟨RX7, TX7, 4, cf7, by decide, tw318, rfl, by decide +kernel⟩
theorem tw328 : Cond.fieldLink RX8 12 (TX8 0).1 (TX8 0).2.1 (TX8 0).2.2.1 ∈ TG := tg_mem 328 (by decide +kernel) rfl
theorem fX8_12 : fW RX8 12 8 0 true (.object "PathProfiler$Graph") := ⟨RX8, TX8, 9, cf8, by decide, tw328, rfl, by decide +kernel⟩
theorem tw329 : Cond.fieldLink RX8 19 (TX8 1).1 (TX8 1).2.1 (TX8 1).2.2.1 ∈ TG := tg_mem 329 (by decide +kernel) rfl
theorem fX8_19 : fW RX8 19 8 1 true (.object "PathProfiler$Text") := ⟨RX8, TX8, 9, cf8, by decide, tw329, rfl, by decide +kernel⟩
theorem tw330 : Cond.fieldLink RX8 26 (TX8 2).1 (TX8 2).2.1 (TX8 2).2.2.1 ∈ TG := tg_mem 330 (by decide +kernel) rfl
theorem fX8_26 : fW RX8 26 8 2 true (.object "PathProfiler$Reader") := ⟨RX8, TX8, 9, cf8, by decide, tw330, rfl, by decide +kernel⟩
theorem tw331 : Cond.fieldLink RX8 35 (TX8 3).1 (TX8 3).2.1 (TX8 3).2.2.1 ∈ TG := tg_mem 331 (by decide +kernel) rfl
theorem fX8_35 : fW RX8 35 8 3 true (.object "PathProfiler$Search") := ⟨RX8, TX8, 9, cf8, by decide, tw331, rfl, by decide +kernel⟩
theorem tw332 : Cond.fieldLink RX8 44 (TX8 4).1 (TX8 4).2.1 (TX8 4).2.2.1 ∈ TG := tg_mem 332 (by decide +kernel) rfl
theorem fX8_44 : fW RX8 44 8 4 true (.object "PathProfiler$Links") := ⟨RX8, TX8, 9, cf8, by decide, tw332, rfl, by decide +kernel⟩
theorem tw333 : Cond.fieldLink RX8 53 (TX8 5).1 (TX8 5).2.1 (TX8 5).2.2.1 ∈ TG := tg_mem 333 (by decide +kernel) rfl
theorem fX8_53 : fW RX8 53 8 5 true (.object "PathProfiler$Tree") := ⟨RX8, TX8, 9, cf8, by decide, tw333, rfl, by decide +kernel⟩
theorem tw334 : Cond.fieldLink RX8 60 (TX8 6).1 (TX8 6).2.1 (TX8 6).2.2.1 ∈ TG := tg_mem 334 (by decide +kernel) rfl
theorem fX8_60 : fW RX8 60 8 6 true (.object "PathProfiler$Paths") := ⟨RX8, TX8, 9, cf8, by decide, tw334, rfl, by decide +kernel⟩
theorem tw335 : Cond.fieldLink RX8 67 (TX8 7).1 (TX8 7).2.1 (TX8 7).2.2.1 ∈ TG := tg_mem 335 (by decide +kernel) rfl
theorem fX8_67 : fW RX8 67 8 7 true (.object "PathProfiler$Walk") := ⟨RX8, TX8, 9, cf8, by decide, tw335, rfl, by decide +kernel⟩
theorem tw336 : Cond.fieldLink RX8 71 (TX8 8).1 (TX8 8).2.1 (TX8 8).2.2.1 ∈ TG := tg_mem 336 (by decide +kernel) rfl
theorem fX8_71 : fW RX8 71 8 8 false .boolean := ⟨RX8, TX8, 9, cf8, by decide, tw336, rfl, by decide +kernel⟩
theorem tw941 : Cond.fieldLink RX9 81 (TX9 0).1 (TX9 0).2.1 (TX9 0).2.2.1 ∈ TG := tg_mem 941 (by decide +kernel) rfl
theorem fX9_81 : fW RX9 81 9 0 false .int := ⟨RX9, TX9, 37, cf9, by decide, tw941, rfl, by decide +kernel⟩
theorem tw942 : Cond.fieldLink RX9 7 (TX9 1).1 (TX9 1).2.1 (TX9 1).2.2.1 ∈ TG := tg_mem 942 (by decide +kernel) rfl
theorem fX9_7 : fW RX9 7 9 1 false .int := ⟨RX9, TX9, 37, cf9, by decide, tw942, rfl, by decide +kernel⟩
theorem tw943 : Cond.fieldLink RX9 101 (TX9 2).1 (TX9 2).2.1 (TX9 2).2.2.1 ∈ TG := tg_mem 943 (by decide +kernel) rfl
theorem fX9_101 : fW RX9 101 9 2 false .int := ⟨RX9, TX9, 37, cf9, by decide, tw943, rfl, by decide +kernel⟩
theorem tw944 : Cond.fieldLink RX9 13 (TX9 3).1 (TX9 3).2.1 (TX9 3).2.2.1 ∈ TG := tg_mem 944 (by decide +kernel) rfl
theorem fX9_13 : fW RX9 13 9 3 true (.array .int) := ⟨RX9, TX9, 37, cf9, by decide, tw944, rfl, by decide +kernel⟩
theorem tw945 : Cond.fieldLink RX9 17 (TX9 4).1 (TX9 4).2.1 (TX9 4).2.2.1 ∈ TG := tg_mem 945 (by decide +kernel) rfl
theorem fX9_17 : fW RX9 17 9 4 true (.array .int) := ⟨RX9, TX9, 37, cf9, by decide, tw945, rfl, by decide +kernel⟩
theorem tw946 : Cond.fieldLink RX9 20 (TX9 5).1 (TX9 5).2.1 (TX9 5).2.2.1 ∈ TG := tg_mem 946 (by decide +kernel) rfl
theorem fX9_20 : fW RX9 20 9 5 true (.array .int) := ⟨RX9, TX9, 37, cf9, by decide, tw946, rfl, by decide +kernel⟩
theorem tw947 : Cond.fieldLink RX9 122 (TX9 6).1 (TX9 6).2.1 (TX9 6).2.2.1 ∈ TG := tg_mem 947 (by decide +kernel) rfl
theorem fX9_122 : fW RX9 122 9 6 false .int := ⟨RX9, TX9, 37, cf9, by decide, tw947, rfl, by decide +kernel⟩
theorem tw948 : Cond.fieldLink RX9 23 (TX9 7).1 (TX9 7).2.1 (TX9 7).2.2.1 ∈ TG := tg_mem 948 (by decide +kernel) rfl
theorem fX9_23 : fW RX9 23 9 7 true (.array .int) := ⟨RX9, TX9, 37, cf9, by decide, tw948, rfl, by decide +kernel⟩
theorem tw949 : Cond.fieldLink RX9 84 (TX9 8).1 (TX9 8).2.1 (TX9 8).2.2.1 ∈ TG := tg_mem 949 (by decide +kernel) rfl
theorem fX9_84 : fW RX9 84 9 8 false .boolean := ⟨RX9, TX9, 37, cf9, by decide, tw949, rfl, by decide +kernel⟩
theorem tw950 : Cond.fieldLink RX9 26 (TX9 9).1 (TX9 9).2.1 (TX9 9).2.2.1 ∈ TG := tg_mem 950 (by decide +kernel) rfl
theorem fX9_26 : fW RX9 26 9 9 true (.array .boolean) := ⟨RX9, TX9, 37, cf9, by decide, tw950, rfl, by decide +kernel⟩
theorem tw951 : Cond.fieldLink RX9 30 (TX9 10).1 (TX9 10).2.1 (TX9 10).2.2.1 ∈ TG := tg_mem 951 (by decide +kernel) rfl
theorem fX9_30 : fW RX9 30 9 10 true (.array .int) := ⟨RX9, TX9, 37, cf9, by decide, tw951, rfl, by decide +kernel⟩
theorem tw952 : Cond.fieldLink RX9 33 (TX9 11).1 (TX9 11).2.1 (TX9 11).2.2.1 ∈ TG := tg_mem 952 (by decide +kernel) rfl
theorem fX9_33 : fW RX9 33 9 11 true (.array .int) := ⟨RX9, TX9, 37, cf9, by decide, tw952, rfl, by decide +kernel⟩
theorem tw953 : Cond.fieldLink RX9 36 (TX9 12).1 (TX9 12).2.1 (TX9 12).2.2.1 ∈ TG := tg_mem 953 (by decide +kernel) rfl
theorem fX9_36 : fW RX9 36 9 12 true (.array .int) := ⟨RX9, TX9, 37, cf9, by decide, tw953, rfl, by decide +kernel⟩
theorem tw954 : Cond.fieldLink RX9 39 (TX9 13).1 (TX9 13).2.1 (TX9 13).2.2.1 ∈ TG := tg_mem 954 (by decide +kernel) rfl
theorem fX9_39 : fW RX9 39 9 13 true (.array .boolean) := ⟨RX9, TX9, 37, cf9, by decide, tw954, rfl, by decide +kernel⟩
theorem tw955 : Cond.fieldLink RX9 88 (TX9 14).1 (TX9 14).2.1 (TX9 14).2.2.1 ∈ TG := tg_mem 955 (by decide +kernel) rfl
theorem fX9_88 : fW RX9 88 9 14 false .boolean := ⟨RX9, TX9, 37, cf9, by decide, tw955, rfl, by decide +kernel⟩
theorem tw956 : Cond.fieldLink RX9 91 (TX9 15).1 (TX9 15).2.1 (TX9 15).2.2.1 ∈ TG := tg_mem 956 (by decide +kernel) rfl
theorem fX9_91 : fW RX9 91 9 15 false .boolean := ⟨RX9, TX9, 37, cf9, by decide, tw956, rfl, by decide +kernel⟩
theorem tw957 : Cond.fieldLink RX9 239 (TX9 16).1 (TX9 16).2.1 (TX9 16).2.2.1 ∈ TG := tg_mem 957 (by decide +kernel) rfl
theorem fX9_239 : fW RX9 239 9 16 false .int := ⟨RX9, TX9, 37, cf9, by decide, tw957, rfl, by decide +kernel⟩
theorem tw958 : Cond.fieldLink RX9 94 (TX9 17).1 (TX9 17).2.1 (TX9 17).2.2.1 ∈ TG := tg_mem 958 (by decide +kernel) rfl
theorem fX9_94 : fW RX9 94 9 17 false .int := ⟨RX9, TX9, 37, cf9, by decide, tw958, rfl, by decide +kernel⟩
theorem tw959 : Cond.fieldLink RX9 42 (TX9 18).1 (TX9 18).2.1 (TX9 18).2.2.1 ∈ TG := tg_mem 959 (by decide +kernel) rfl
theorem fX9_42 : fW RX9 42 9 18 true (.array .int) := ⟨RX9, TX9, 37, cf9, by decide, tw959, rfl, by decide +kernel⟩
theorem tw960 : Cond.fieldLink RX9 131 (TX9 19).1 (TX9 19).2.1 (TX9 19).2.2.1 ∈ TG := tg_mem 960 (by decide +kernel) rfl
theorem fX9_131 : fW RX9 131 9 19 false .int := ⟨RX9, TX9, 37, cf9, by decide, tw960, rfl, by decide +kernel⟩
theorem tw961 : Cond.fieldLink RX9 125 (TX9 20).1 (TX9 20).2.1 (TX9 20).2.2.1 ∈ TG := tg_mem 961 (by decide +kernel) rfl
theorem fX9_125 : fW RX9 125 9 20 false .int := ⟨RX9, TX9, 37, cf9, by decide, tw961, rfl, by decide +kernel⟩
theorem tw962 : Cond.fieldLink RX9 45 (TX9 21).1 (TX9 21).2.1 (TX9 21).2.2.1 ∈ TG := tg_mem 962 (by decide +kernel) rfl
theorem fX9_45 : fW RX9 45 9 21 true (.array .int) := ⟨RX9, TX9, 37, cf9, by decide, tw962, rfl, by decide +kernel⟩
theorem tw963 : Cond.fieldLink RX9 48 (TX9 22).1 (TX9 22).2.1 (TX9 22).2.2.1 ∈ TG := tg_mem 963 (by decide +kernel) rfl
theorem fX9_48 : fW RX9 48 9 22 true (.array .int) := ⟨RX9, TX9, 37, cf9, by decide, tw963, rfl, by decide +kernel⟩
theorem tw964 : Cond.fieldLink RX9 128 (TX9 23).1 (TX9 23).2.1 (TX9 23).2.2.1 ∈ TG := tg_mem 964 (by decide +kernel) rfl
theorem fX9_128 : fW RX9 128 9 23 false .int := ⟨RX9, TX9, 37, cf9, by decide, tw964, rfl, by decide +kernel⟩
theorem tw965 : Cond.fieldLink RX9 51 (TX9 24).1 (TX9 24).2.1 (TX9 24).2.2.1 ∈ TG := tg_mem 965 (by decide +kernel) rfl
theorem fX9_51 : fW RX9 51 9 24 true (.array .boolean) := ⟨RX9, TX9, 37, cf9, by decide, tw965, rfl, by decide +kernel⟩
theorem tw966 : Cond.fieldLink RX9 54 (TX9 25).1 (TX9 25).2.1 (TX9 25).2.2.1 ∈ TG := tg_mem 966 (by decide +kernel) rfl
theorem fX9_54 : fW RX9 54 9 25 true (.array .boolean) := ⟨RX9, TX9, 37, cf9, by decide, tw966, rfl, by decide +kernel⟩
theorem tw967 : Cond.fieldLink RX9 57 (TX9 26).1 (TX9 26).2.1 (TX9 26).2.2.1 ∈ TG := tg_mem 967 (by decide +kernel) rfl
theorem fX9_57 : fW RX9 57 9 26 true (.array .int) := ⟨RX9, TX9, 37, cf9, by decide, tw967, rfl, by decide +kernel⟩
theorem tw968 : Cond.fieldLink RX9 60 (TX9 27).1 (TX9 27).2.1 (TX9 27).2.2.1 ∈ TG := tg_mem 968 (by decide +kernel) rfl
theorem fX9_60 : fW RX9 60 9 27 true (.array .int) := ⟨RX9, TX9, 37, cf9, by decide, tw968, rfl, by decide +kernel⟩
theorem tw969 : Cond.fieldLink RX9 63 (TX9 28).1 (TX9 28).2.1 (TX9 28).2.2.1 ∈ TG := tg_mem 969 (by decide +kernel) rfl
theorem fX9_63 : fW RX9 63 9 28 true (.array .int) := ⟨RX9, TX9, 37, cf9, by decide, tw969, rfl, by decide +kernel⟩
theorem tw970 : Cond.fieldLink RX9 145 (TX9 29).1 (TX9 29).2.1 (TX9 29).2.2.1 ∈ TG := tg_mem 970 (by decide +kernel) rfl
theorem fX9_145 : fW RX9 145 9 29 false .int := ⟨RX9, TX9, 37, cf9, by decide, tw970, rfl, by decide +kernel⟩
theorem tw971 : Cond.fieldLink RX9 66 (TX9 30).1 (TX9 30).2.1 (TX9 30).2.2.1 ∈ TG := tg_mem 971 (by decide +kernel) rfl
theorem fX9_66 : fW RX9 66 9 30 true (.array .int) := ⟨RX9, TX9, 37, cf9, by decide, tw971, rfl, by decide +kernel⟩
theorem tw972 : Cond.fieldLink RX9 69 (TX9 31).1 (TX9 31).2.1 (TX9 31).2.2.1 ∈ TG := tg_mem 972 (by decide +kernel) rfl
theorem fX9_69 : fW RX9 69 9 31 true (.array .int) := ⟨RX9, TX9, 37, cf9, by decide, tw972, rfl, by decide +kernel⟩
theorem tw973 : Cond.fieldLink RX9 72 (TX9 32).1 (TX9 32).2.1 (TX9 32).2.2.1 ∈ TG := tg_mem 973 (by decide +kernel) rfl
theorem fX9_72 : fW RX9 72 9 32 true (.array .boolean) := ⟨RX9, TX9, 37, cf9, by decide, tw973, rfl, by decide +kernel⟩
theorem tw974 : Cond.fieldLink RX9 75 (TX9 33).1 (TX9 33).2.1 (TX9 33).2.2.1 ∈ TG := tg_mem 974 (by decide +kernel) rfl
theorem fX9_75 : fW RX9 75 9 33 true (.array .boolean) := ⟨RX9, TX9, 37, cf9, by decide, tw974, rfl, by decide +kernel⟩
theorem tw975 : Cond.fieldLink RX9 78 (TX9 34).1 (TX9 34).2.1 (TX9 34).2.2.1 ∈ TG := tg_mem 975 (by decide +kernel) rfl
theorem fX9_78 : fW RX9 78 9 34 true (.array .int) := ⟨RX9, TX9, 37, cf9, by decide, tw975, rfl, by decide +kernel⟩
theorem tw976 : Cond.fieldLink RX9 203 (TX9 35).1 (TX9 35).2.1 (TX9 35).2.2.1 ∈ TG := tg_mem 976 (by decide +kernel) rfl
theorem fX9_203 : fW RX9 203 9 35 false .int := ⟨RX9, TX9, 37, cf9, by decide, tw976, rfl, by decide +kernel⟩
theorem tw977 : Cond.fieldLink RX9 262 (TX9 36).1 (TX9 36).2.1 (TX9 36).2.2.1 ∈ TG := tg_mem 977 (by decide +kernel) rfl
theorem fX9_262 : fW RX9 262 9 36 false .long := ⟨RX9, TX9, 37, cf9, by decide, tw977, rfl, by decide +kernel⟩
theorem tw109 : Cond.methodLink RX0 3 Lib.objectInit ∈ TG := tg_mem 109 (by decide +kernel) rfl
theorem tw102 : Cond.instanceMethod Lib.objectInit ∈ TG := tg_mem 102 (by decide +kernel) rfl
theorem tw103 : Cond.code Lib.objectInit ⟨#[0xb1]⟩ 1 none ∈ TG := tg_mem 103 (by decide +kernel) rfl
theorem oX0_3 : ∀ w ∈ ([.methodLink RX0 3 Lib.objectInit, .instanceMethod Lib.objectInit, .code Lib.objectInit ⟨#[0xb1]⟩ 1 none] : List Cond), w ∈ TG := List.forall_mem_cons.mpr ⟨tw109, List.forall_mem_cons.mpr ⟨tw102, List.forall_mem_cons.mpr ⟨tw103, fun _ h => nomatch h⟩⟩⟩
theorem tw396 : Cond.methodLink RX0 28 yX0_hasNode ∈ TG := tg_mem 396 (by decide +kernel) rfl
theorem tw397 : Cond.instanceMethod yX0_hasNode ∈ TG := tg_mem 397 (by decide +kernel) rfl
theorem tw398 : Cond.selects RX0 yX0_hasNode yX0_hasNode ∈ TG := tg_mem 398 (by decide +kernel) rfl
theorem kX0_28 : cVw RX0 28 0 mX0_hasNode 1 := ⟨⟨rfl, List.forall_mem_cons.mpr ⟨tw396, List.forall_mem_cons.mpr ⟨tcX0_hasNode, List.forall_mem_cons.mpr ⟨tw81, fun _ h => nomatch h⟩⟩⟩, ⟨by decide +kernel, by decide +kernel, by decide +kernel⟩⟩, List.forall_mem_cons.mpr ⟨tw397, List.forall_mem_cons.mpr ⟨tw398, fun _ h => nomatch h⟩⟩, ⟨_, _, _, rfl, rfl⟩⟩
theorem tw400 : Cond.methodLink RX0 32 yX0_exit ∈ TG := tg_mem 400 (by decide +kernel) rfl
theorem tw401 : Cond.instanceMethod yX0_exit ∈ TG := tg_mem 401 (by decide +kernel) rfl
theorem tw402 : Cond.selects RX0 yX0_exit yX0_exit ∈ TG := tg_mem 402 (by decide +kernel) rfl
theorem kX0_32 : cVw RX0 32 0 mX0_exit 0 := ⟨⟨rfl, List.forall_mem_cons.mpr ⟨tw400, List.forall_mem_cons.mpr ⟨tcX0_exit, List.forall_mem_cons.mpr ⟨tw81, fun _ h => nomatch h⟩⟩⟩, ⟨by decide +kernel, by decide +kernel, by decide +kernel⟩⟩, List.forall_mem_cons.mpr ⟨tw401, List.forall_mem_cons.mpr ⟨tw402, fun _ h => nomatch h⟩⟩, ⟨_, _, _, rfl, rfl⟩⟩
theorem tw404 : Cond.methodLink RX0 36 yX0_joins ∈ TG := tg_mem 404 (by decide +kernel) rfl
theorem tw406 : Cond.instanceMethod yX0_joins ∈ TG := tg_mem 406 (by decide +kernel) rfl
theorem tw3 : Cond.selects RX0 yX0_joins yX0_joins ∈ TG := tg_mem 3 (by decide +kernel) rfl
theorem kX0_36 : cVw RX0 36 0 mX0_joins 2 := ⟨⟨rfl, List.forall_mem_cons.mpr ⟨tw404, List.forall_mem_cons.mpr ⟨tcX0_joins, List.forall_mem_cons.mpr ⟨tw81, fun _ h => nomatch h⟩⟩⟩, ⟨by decide +kernel, by decide +kernel, by decide +kernel⟩⟩, List.forall_mem_cons.mpr ⟨tw406, List.forall_mem_cons.mpr ⟨tw3, fun _ h => nomatch h⟩⟩, ⟨_, _, _, rfl, rfl⟩⟩
theorem tw750 : Cond.methodLink RX0 40 yX0_reset ∈ TG := tg_mem 750 (by decide +kernel) rfl
theorem tw373 : Cond.instanceMethod yX0_reset ∈ TG := tg_mem 373 (by decide +kernel) rfl
theorem tw374 : Cond.selects RX0 yX0_reset yX0_reset ∈ TG := tg_mem 374 (by decide +kernel) rfl
theorem kX0_40 : cVw RX0 40 0 mX0_reset 1 := ⟨⟨rfl, List.forall_mem_cons.mpr ⟨tw750, List.forall_mem_cons.mpr ⟨tcX0_reset, List.forall_mem_cons.mpr ⟨tw81, fun _ h => nomatch h⟩⟩⟩, ⟨by decide +kernel, by decide +kernel, by decide +kernel⟩⟩, List.forall_mem_cons.mpr ⟨tw373, List.forall_mem_cons.mpr ⟨tw374, fun _ h => nomatch h⟩⟩, ⟨_, _, _, rfl, rfl⟩⟩
theorem tw751 : Cond.methodLink RX0 44 yX0_add ∈ TG := tg_mem 751 (by decide +kernel) rfl
theorem tw409 : Cond.instanceMethod yX0_add ∈ TG := tg_mem 409 (by decide +kernel) rfl
theorem tw410 : Cond.selects RX0 yX0_add yX0_add ∈ TG := tg_mem 410 (by decide +kernel) rfl
theorem kX0_44 : cVw RX0 44 0 mX0_add 2 := ⟨⟨rfl, List.forall_mem_cons.mpr ⟨tw751, List.forall_mem_cons.mpr ⟨tcX0_add, List.forall_mem_cons.mpr ⟨tw81, fun _ h => nomatch h⟩⟩⟩, ⟨by decide +kernel, by decide +kernel, by decide +kernel⟩⟩, List.forall_mem_cons.mpr ⟨tw409, List.forall_mem_cons.mpr ⟨tw410, fun _ h => nomatch h⟩⟩, ⟨_, _, _, rfl, rfl⟩⟩
theorem tw222 : Cond.methodLink RX1 3 Lib.objectInit ∈ TG := tg_mem 222 (by decide +kernel) rfl
theorem oX1_3 : ∀ w ∈ ([.methodLink RX1 3 Lib.objectInit, .instanceMethod Lib.objectInit, .code Lib.objectInit ⟨#[0xb1]⟩ 1 none] : List Cond), w ∈ TG := List.forall_mem_cons.mpr ⟨tw222, List.forall_mem_cons.mpr ⟨tw102, List.forall_mem_cons.mpr ⟨tw103, fun _ h => nomatch h⟩⟩⟩
theorem tw471 : Cond.methodLink RX1 32 yX1_put ∈ TG := tg_mem 471 (by decide +kernel) rfl
theorem tw473 : Cond.instanceMethod yX1_put ∈ TG := tg_mem 473 (by decide +kernel) rfl
theorem tw11 : Cond.selects RX1 yX1_put yX1_put ∈ TG := tg_mem 11 (by decide +kernel) rfl
theorem kX1_32 : cVw RX1 32 1 mX1_put 3 := ⟨⟨rfl, List.forall_mem_cons.mpr ⟨tw471, List.forall_mem_cons.mpr ⟨tcX1_put, List.forall_mem_cons.mpr ⟨tw85, fun _ h => nomatch h⟩⟩⟩, ⟨by decide +kernel, by decide +kernel, by decide +kernel⟩⟩, List.forall_mem_cons.mpr ⟨tw473, List.forall_mem_cons.mpr ⟨tw11, fun _ h => nomatch h⟩⟩, ⟨_, _, _, rfl, rfl⟩⟩
theorem tw475 : Cond.methodLink RX1 49 yX0_exit ∈ TG := tg_mem 475 (by decide +kernel) rfl
theorem kX1_49 : cVw RX1 49 0 mX0_exit 0 := ⟨⟨rfl, List.forall_mem_cons.mpr ⟨tw475, List.forall_mem_cons.mpr ⟨tcX0_exit, List.forall_mem_cons.mpr ⟨tw81, fun _ h => nomatch h⟩⟩⟩, ⟨by decide +kernel, by decide +kernel, by decide +kernel⟩⟩, List.forall_mem_cons.mpr ⟨tw401, List.forall_mem_cons.mpr ⟨tw402, fun _ h => nomatch h⟩⟩, ⟨_, _, _, rfl, rfl⟩⟩
theorem tw476 : Cond.methodLink RX1 54 yX1_countPaths ∈ TG := tg_mem 476 (by decide +kernel) rfl
theorem tw478 : Cond.instanceMethod yX1_countPaths ∈ TG := tg_mem 478 (by decide +kernel) rfl
theorem tw12 : Cond.selects RX1 yX1_countPaths yX1_countPaths ∈ TG := tg_mem 12 (by decide +kernel) rfl
theorem kX1_54 : cVw RX1 54 1 mX1_countPaths 0 := ⟨⟨rfl, List.forall_mem_cons.mpr ⟨tw476, List.forall_mem_cons.mpr ⟨tcX1_countPaths, List.forall_mem_cons.mpr ⟨tw85, fun _ h => nomatch h⟩⟩⟩, ⟨by decide +kernel, by decide +kernel, by decide +kernel⟩⟩, List.forall_mem_cons.mpr ⟨tw478, List.forall_mem_cons.mpr ⟨tw12, fun _ h => nomatch h⟩⟩, ⟨_, _, _, rfl, rfl⟩⟩
theorem tw480 : Cond.methodLink RX1 63 yX1_countPathsOf ∈ TG := tg_mem 480 (by decide +kernel) rfl
theorem tw482 : Cond.instanceMethod yX1_countPathsOf ∈ TG := tg_mem 482 (by decide +kernel) rfl
theorem tw13 : Cond.selects RX1 yX1_countPathsOf yX1_countPathsOf ∈ TG := tg_mem 13 (by decide +kernel) rfl
theorem kX1_63 : cVw RX1 63 1 mX1_countPathsOf 1 := ⟨⟨rfl, List.forall_mem_cons.mpr ⟨tw480, List.forall_mem_cons.mpr ⟨tcX1_countPathsOf, List.forall_mem_cons.mpr ⟨tw85, fun _ h => nomatch h⟩⟩⟩, ⟨by decide +kernel, by decide +kernel, by decide +kernel⟩⟩, List.forall_mem_cons.mpr ⟨tw482, List.forall_mem_cons.mpr ⟨tw13, fun _ h => nomatch h⟩⟩, ⟨_, _, _, rfl, rfl⟩⟩
theorem tw867 : Cond.methodLink RX1 67 yX0_hasNode ∈ TG := tg_mem 867 (by decide +kernel) rfl
theorem kX1_67 : cVw RX1 67 0 mX0_hasNode 1 := ⟨⟨rfl, List.forall_mem_cons.mpr ⟨tw867, List.forall_mem_cons.mpr ⟨tcX0_hasNode, List.forall_mem_cons.mpr ⟨tw81, fun _ h => nomatch h⟩⟩⟩, ⟨by decide +kernel, by decide +kernel, by decide +kernel⟩⟩, List.forall_mem_cons.mpr ⟨tw397, List.forall_mem_cons.mpr ⟨tw398, fun _ h => nomatch h⟩⟩, ⟨_, _, _, rfl, rfl⟩⟩
theorem tw291 : Cond.methodLink RX2 3 Lib.objectInit ∈ TG := tg_mem 291 (by decide +kernel) rfl
theorem oX2_3 : ∀ w ∈ ([.methodLink RX2 3 Lib.objectInit, .instanceMethod Lib.objectInit, .code Lib.objectInit ⟨#[0xb1]⟩ 1 none] : List Cond), w ∈ TG := List.forall_mem_cons.mpr ⟨tw291, List.forall_mem_cons.mpr ⟨tw102, List.forall_mem_cons.mpr ⟨tw103, fun _ h => nomatch h⟩⟩⟩
theorem tw810 : Cond.methodLink RX2 27 yX0_exit ∈ TG := tg_mem 810 (by decide +kernel) rfl
theorem kX2_27 : cVw RX2 27 0 mX0_exit 0 := ⟨⟨rfl, List.forall_mem_cons.mpr ⟨tw810, List.forall_mem_cons.mpr ⟨tcX0_exit, List.forall_mem_cons.mpr ⟨tw81, fun _ h => nomatch h⟩⟩⟩, ⟨by decide +kernel, by decide +kernel, by decide +kernel⟩⟩, List.forall_mem_cons.mpr ⟨tw401, List.forall_mem_cons.mpr ⟨tw402, fun _ h => nomatch h⟩⟩, ⟨_, _, _, rfl, rfl⟩⟩
theorem tw811 : Cond.methodLink RX2 33 yX1_onward ∈ TG := tg_mem 811 (by decide +kernel) rfl
theorem tw812 : Cond.instanceMethod yX1_onward ∈ TG := tg_mem 812 (by decide +kernel) rfl
theorem tw813 : Cond.selects RX1 yX1_onward yX1_onward ∈ TG := tg_mem 813 (by decide +kernel) rfl
theorem kX2_33 : cVw RX2 33 1 mX1_onward 2 := ⟨⟨rfl, List.forall_mem_cons.mpr ⟨tw811, List.forall_mem_cons.mpr ⟨tcX1_onward, List.forall_mem_cons.mpr ⟨tw85, fun _ h => nomatch h⟩⟩⟩, ⟨by decide +kernel, by decide +kernel, by decide +kernel⟩⟩, List.forall_mem_cons.mpr ⟨tw812, List.forall_mem_cons.mpr ⟨tw813, fun _ h => nomatch h⟩⟩, ⟨_, _, _, rfl, rfl⟩⟩
theorem tw819 : Cond.methodLink RX2 45 yX2_startEdge ∈ TG := tg_mem 819 (by decide +kernel) rfl
theorem tw820 : Cond.instanceMethod yX2_startEdge ∈ TG := tg_mem 820 (by decide +kernel) rfl
theorem tw821 : Cond.selects RX2 yX2_startEdge yX2_startEdge ∈ TG := tg_mem 821 (by decide +kernel) rfl
theorem kX2_45 : cVw RX2 45 2 mX2_startEdge 0 := ⟨⟨rfl, List.forall_mem_cons.mpr ⟨tw819, List.forall_mem_cons.mpr ⟨tcX2_startEdge, List.forall_mem_cons.mpr ⟨tw87, fun _ h => nomatch h⟩⟩⟩, ⟨by decide +kernel, by decide +kernel, by decide +kernel⟩⟩, List.forall_mem_cons.mpr ⟨tw820, List.forall_mem_cons.mpr ⟨tw821, fun _ h => nomatch h⟩⟩, ⟨_, _, _, rfl, rfl⟩⟩
theorem tw823 : Cond.methodLink RX2 48 yX2_endEdge ∈ TG := tg_mem 823 (by decide +kernel) rfl
theorem tw824 : Cond.instanceMethod yX2_endEdge ∈ TG := tg_mem 824 (by decide +kernel) rfl
theorem tw825 : Cond.selects RX2 yX2_endEdge yX2_endEdge ∈ TG := tg_mem 825 (by decide +kernel) rfl
theorem kX2_48 : cVw RX2 48 2 mX2_endEdge 0 := ⟨⟨rfl, List.forall_mem_cons.mpr ⟨tw823, List.forall_mem_cons.mpr ⟨tcX2_endEdge, List.forall_mem_cons.mpr ⟨tw87, fun _ h => nomatch h⟩⟩⟩, ⟨by decide +kernel, by decide +kernel, by decide +kernel⟩⟩, List.forall_mem_cons.mpr ⟨tw824, List.forall_mem_cons.mpr ⟨tw825, fun _ h => nomatch h⟩⟩, ⟨_, _, _, rfl, rfl⟩⟩
theorem tw859 : Cond.methodLink RX2 56 yX5_nodeAt ∈ TG := tg_mem 859 (by decide +kernel) rfl
theorem tw860 : Cond.instanceMethod yX5_nodeAt ∈ TG := tg_mem 860 (by decide +kernel) rfl
theorem tw861 : Cond.selects RX5 yX5_nodeAt yX5_nodeAt ∈ TG := tg_mem 861 (by decide +kernel) rfl
theorem kX2_56 : cVw RX2 56 5 mX5_nodeAt 1 := ⟨⟨rfl, List.forall_mem_cons.mpr ⟨tw859, List.forall_mem_cons.mpr ⟨tcX5_nodeAt, List.forall_mem_cons.mpr ⟨tw82, fun _ h => nomatch h⟩⟩⟩, ⟨by decide +kernel, by decide +kernel, by decide +kernel⟩⟩, List.forall_mem_cons.mpr ⟨tw860, List.forall_mem_cons.mpr ⟨tw861, fun _ h => nomatch h⟩⟩, ⟨_, _, _, rfl, rfl⟩⟩
theorem tw863 : Cond.methodLink RX2 60 yX1_between ∈ TG := tg_mem 863 (by decide +kernel) rfl
theorem tw864 : Cond.instanceMethod yX1_between ∈ TG := tg_mem 864 (by decide +kernel) rfl
theorem tw865 : Cond.selects RX1 yX1_between yX1_between ∈ TG := tg_mem 865 (by decide +kernel) rfl
theorem kX2_60 : cVw RX2 60 1 mX1_between 3 := ⟨⟨rfl, List.forall_mem_cons.mpr ⟨tw863, List.forall_mem_cons.mpr ⟨tcX1_between, List.forall_mem_cons.mpr ⟨tw85, fun _ h => nomatch h⟩⟩⟩, ⟨by decide +kernel, by decide +kernel, by decide +kernel⟩⟩, List.forall_mem_cons.mpr ⟨tw864, List.forall_mem_cons.mpr ⟨tw865, fun _ h => nomatch h⟩⟩, ⟨_, _, _, rfl, rfl⟩⟩
theorem tw868 : Cond.methodLink RX2 64 yX2_plusValue ∈ TG := tg_mem 868 (by decide +kernel) rfl
theorem tw870 : Cond.instanceMethod yX2_plusValue ∈ TG := tg_mem 870 (by decide +kernel) rfl
theorem tw32 : Cond.selects RX2 yX2_plusValue yX2_plusValue ∈ TG := tg_mem 32 (by decide +kernel) rfl
theorem kX2_64 : cVw RX2 64 2 mX2_plusValue 2 := ⟨⟨rfl, List.forall_mem_cons.mpr ⟨tw868, List.forall_mem_cons.mpr ⟨tcX2_plusValue, List.forall_mem_cons.mpr ⟨tw87, fun _ h => nomatch h⟩⟩⟩, ⟨by decide +kernel, by decide +kernel, by decide +kernel⟩⟩, List.forall_mem_cons.mpr ⟨tw870, List.forall_mem_cons.mpr ⟨tw32, fun _ h => nomatch h⟩⟩, ⟨_, _, _, rfl, rfl⟩⟩
theorem tw164 : Cond.methodLink RX3 3 Lib.objectInit ∈ TG := tg_mem 164 (by decide +kernel) rfl
theorem oX3_3 : ∀ w ∈ ([.methodLink RX3 3 Lib.objectInit, .instanceMethod Lib.objectInit, .code Lib.objectInit ⟨#[0xb1]⟩ 1 none] : List Cond), w ∈ TG := List.forall_mem_cons.mpr ⟨tw164, List.forall_mem_cons.mpr ⟨tw102, List.forall_mem_cons.mpr ⟨tw103, fun _ h => nomatch h⟩⟩⟩
theorem tw107 : Cond.instanceMethod yX0_init ∈ TG := tg_mem 107 (by decide +kernel) rfl
theorem kX3_11 : cNw RX3 11 mX0_init 0 "PathProfiler" := ⟨rfl, by decide +kernel, List.forall_mem_cons.mpr ⟨tcX0_init, List.forall_mem_cons.mpr ⟨tw81, List.forall_mem_cons.mpr ⟨tw107, fun _ h => nomatch h⟩⟩⟩, ⟨by decide +kernel, by decide +kernel, by decide +kernel⟩, rfl, rfl⟩
theorem tw372 : Cond.methodLink RX3 22 yX0_reset ∈ TG := tg_mem 372 (by decide +kernel) rfl
theorem kX3_22 : cVw RX3 22 0 mX0_reset 1 := ⟨⟨rfl, List.forall_mem_cons.mpr ⟨tw372, List.forall_mem_cons.mpr ⟨tcX0_reset, List.forall_mem_cons.mpr ⟨tw81, fun _ h => nomatch h⟩⟩⟩, ⟨by decide +kernel, by decide +kernel, by decide +kernel⟩⟩, List.forall_mem_cons.mpr ⟨tw373, List.forall_mem_cons.mpr ⟨tw374, fun _ h => nomatch h⟩⟩, ⟨_, _, _, rfl, rfl⟩⟩
theorem tw376 : Cond.methodLink RX3 35 yX3_takes ∈ TG := tg_mem 376 (by decide +kernel) rfl
theorem tw378 : Cond.instanceMethod yX3_takes ∈ TG := tg_mem 378 (by decide +kernel) rfl
theorem tw0 : Cond.selects RX3 yX3_takes yX3_takes ∈ TG := tg_mem 0 (by decide +kernel) rfl
theorem kX3_35 : cVw RX3 35 3 mX3_takes 2 := ⟨⟨rfl, List.forall_mem_cons.mpr ⟨tw376, List.forall_mem_cons.mpr ⟨tcX3_takes, List.forall_mem_cons.mpr ⟨tw83, fun _ h => nomatch h⟩⟩⟩, ⟨by decide +kernel, by decide +kernel, by decide +kernel⟩⟩, List.forall_mem_cons.mpr ⟨tw378, List.forall_mem_cons.mpr ⟨tw0, fun _ h => nomatch h⟩⟩, ⟨_, _, _, rfl, rfl⟩⟩
theorem tw740 : Cond.methodLink RX3 39 yX3_endsWithTarget ∈ TG := tg_mem 740 (by decide +kernel) rfl
theorem tw742 : Cond.instanceMethod yX3_endsWithTarget ∈ TG := tg_mem 742 (by decide +kernel) rfl
theorem tw29 : Cond.selects RX3 yX3_endsWithTarget yX3_endsWithTarget ∈ TG := tg_mem 29 (by decide +kernel) rfl
theorem kX3_39 : cVw RX3 39 3 mX3_endsWithTarget 1 := ⟨⟨rfl, List.forall_mem_cons.mpr ⟨tw740, List.forall_mem_cons.mpr ⟨tcX3_endsWithTarget, List.forall_mem_cons.mpr ⟨tw83, fun _ h => nomatch h⟩⟩⟩, ⟨by decide +kernel, by decide +kernel, by decide +kernel⟩⟩, List.forall_mem_cons.mpr ⟨tw742, List.forall_mem_cons.mpr ⟨tw29, fun _ h => nomatch h⟩⟩, ⟨_, _, _, rfl, rfl⟩⟩
theorem tw744 : Cond.methodLink RX3 43 yX3_read ∈ TG := tg_mem 744 (by decide +kernel) rfl
theorem tw369 : Cond.instanceMethod yX3_read ∈ TG := tg_mem 369 (by decide +kernel) rfl
theorem tw370 : Cond.selects RX3 yX3_read yX3_read ∈ TG := tg_mem 370 (by decide +kernel) rfl
theorem kX3_43 : cVw RX3 43 3 mX3_read 1 := ⟨⟨rfl, List.forall_mem_cons.mpr ⟨tw744, List.forall_mem_cons.mpr ⟨tcX3_read, List.forall_mem_cons.mpr ⟨tw83, fun _ h => nomatch h⟩⟩⟩, ⟨by decide +kernel, by decide +kernel, by decide +kernel⟩⟩, List.forall_mem_cons.mpr ⟨tw369, List.forall_mem_cons.mpr ⟨tw370, fun _ h => nomatch h⟩⟩, ⟨_, _, _, rfl, rfl⟩⟩
theorem tw380 : Cond.methodLink RX3 47 yX3_takesExit ∈ TG := tg_mem 380 (by decide +kernel) rfl
theorem tw382 : Cond.instanceMethod yX3_takesExit ∈ TG := tg_mem 382 (by decide +kernel) rfl
theorem tw1 : Cond.selects RX3 yX3_takesExit yX3_takesExit ∈ TG := tg_mem 1 (by decide +kernel) rfl
theorem kX3_47 : cVw RX3 47 3 mX3_takesExit 1 := ⟨⟨rfl, List.forall_mem_cons.mpr ⟨tw380, List.forall_mem_cons.mpr ⟨tcX3_takesExit, List.forall_mem_cons.mpr ⟨tw83, fun _ h => nomatch h⟩⟩⟩, ⟨by decide +kernel, by decide +kernel, by decide +kernel⟩⟩, List.forall_mem_cons.mpr ⟨tw382, List.forall_mem_cons.mpr ⟨tw1, fun _ h => nomatch h⟩⟩, ⟨_, _, _, rfl, rfl⟩⟩
theorem tw384 : Cond.methodLink RX3 50 yX3_takesTarget ∈ TG := tg_mem 384 (by decide +kernel) rfl
theorem tw386 : Cond.instanceMethod yX3_takesTarget ∈ TG := tg_mem 386 (by decide +kernel) rfl
theorem tw2 : Cond.selects RX3 yX3_takesTarget yX3_takesTarget ∈ TG := tg_mem 2 (by decide +kernel) rfl
theorem kX3_50 : cVw RX3 50 3 mX3_takesTarget 1 := ⟨⟨rfl, List.forall_mem_cons.mpr ⟨tw384, List.forall_mem_cons.mpr ⟨tcX3_takesTarget, List.forall_mem_cons.mpr ⟨tw83, fun _ h => nomatch h⟩⟩⟩, ⟨by decide +kernel, by decide +kernel, by decide +kernel⟩⟩, List.forall_mem_cons.mpr ⟨tw386, List.forall_mem_cons.mpr ⟨tw2, fun _ h => nomatch h⟩⟩, ⟨_, _, _, rfl, rfl⟩⟩
theorem tw388 : Cond.methodLink RX3 53 yX0_isFull ∈ TG := tg_mem 388 (by decide +kernel) rfl
theorem tw389 : Cond.instanceMethod yX0_isFull ∈ TG := tg_mem 389 (by decide +kernel) rfl
theorem tw390 : Cond.selects RX0 yX0_isFull yX0_isFull ∈ TG := tg_mem 390 (by decide +kernel) rfl
theorem kX3_53 : cVw RX3 53 0 mX0_isFull 0 := ⟨⟨rfl, List.forall_mem_cons.mpr ⟨tw388, List.forall_mem_cons.mpr ⟨tcX0_isFull, List.forall_mem_cons.mpr ⟨tw81, fun _ h => nomatch h⟩⟩⟩, ⟨by decide +kernel, by decide +kernel, by decide +kernel⟩⟩, List.forall_mem_cons.mpr ⟨tw389, List.forall_mem_cons.mpr ⟨tw390, fun _ h => nomatch h⟩⟩, ⟨_, _, _, rfl, rfl⟩⟩
theorem tw412 : Cond.methodLink RX3 57 yX3_takesSource ∈ TG := tg_mem 412 (by decide +kernel) rfl
theorem tw414 : Cond.instanceMethod yX3_takesSource ∈ TG := tg_mem 414 (by decide +kernel) rfl
theorem tw4 : Cond.selects RX3 yX3_takesSource yX3_takesSource ∈ TG := tg_mem 4 (by decide +kernel) rfl
theorem kX3_57 : cVw RX3 57 3 mX3_takesSource 1 := ⟨⟨rfl, List.forall_mem_cons.mpr ⟨tw412, List.forall_mem_cons.mpr ⟨tcX3_takesSource, List.forall_mem_cons.mpr ⟨tw83, fun _ h => nomatch h⟩⟩⟩, ⟨by decide +kernel, by decide +kernel, by decide +kernel⟩⟩, List.forall_mem_cons.mpr ⟨tw414, List.forall_mem_cons.mpr ⟨tw4, fun _ h => nomatch h⟩⟩, ⟨_, _, _, rfl, rfl⟩⟩
theorem tw416 : Cond.methodLink RX3 60 yX0_hasNode ∈ TG := tg_mem 416 (by decide +kernel) rfl
theorem kX3_60 : cVw RX3 60 0 mX0_hasNode 1 := ⟨⟨rfl, List.forall_mem_cons.mpr ⟨tw416, List.forall_mem_cons.mpr ⟨tcX0_hasNode, List.forall_mem_cons.mpr ⟨tw81, fun _ h => nomatch h⟩⟩⟩, ⟨by decide +kernel, by decide +kernel, by decide +kernel⟩⟩, List.forall_mem_cons.mpr ⟨tw397, List.forall_mem_cons.mpr ⟨tw398, fun _ h => nomatch h⟩⟩, ⟨_, _, _, rfl, rfl⟩⟩
theorem tw417 : Cond.methodLink RX3 63 yX0_exit ∈ TG := tg_mem 417 (by decide +kernel) rfl
theorem kX3_63 : cVw RX3 63 0 mX0_exit 0 := ⟨⟨rfl, List.forall_mem_cons.mpr ⟨tw417, List.forall_mem_cons.mpr ⟨tcX0_exit, List.forall_mem_cons.mpr ⟨tw81, fun _ h => nomatch h⟩⟩⟩, ⟨by decide +kernel, by decide +kernel, by decide +kernel⟩⟩, List.forall_mem_cons.mpr ⟨tw401, List.forall_mem_cons.mpr ⟨tw402, fun _ h => nomatch h⟩⟩, ⟨_, _, _, rfl, rfl⟩⟩
theorem tw392 : Cond.methodLink RX3 67 yX0_allows ∈ TG := tg_mem 392 (by decide +kernel) rfl
theorem tw393 : Cond.instanceMethod yX0_allows ∈ TG := tg_mem 393 (by decide +kernel) rfl
theorem tw394 : Cond.selects RX0 yX0_allows yX0_allows ∈ TG := tg_mem 394 (by decide +kernel) rfl
theorem kX3_67 : cVw RX3 67 0 mX0_allows 2 := ⟨⟨rfl, List.forall_mem_cons.mpr ⟨tw392, List.forall_mem_cons.mpr ⟨tcX0_allows, List.forall_mem_cons.mpr ⟨tw81, fun _ h => nomatch h⟩⟩⟩, ⟨by decide +kernel, by decide +kernel, by decide +kernel⟩⟩, List.forall_mem_cons.mpr ⟨tw393, List.forall_mem_cons.mpr ⟨tw394, fun _ h => nomatch h⟩⟩, ⟨_, _, _, rfl, rfl⟩⟩
theorem tw408 : Cond.methodLink RX3 70 yX0_add ∈ TG := tg_mem 408 (by decide +kernel) rfl
theorem kX3_70 : cVw RX3 70 0 mX0_add 2 := ⟨⟨rfl, List.forall_mem_cons.mpr ⟨tw408, List.forall_mem_cons.mpr ⟨tcX0_add, List.forall_mem_cons.mpr ⟨tw81, fun _ h => nomatch h⟩⟩⟩, ⟨by decide +kernel, by decide +kernel, by decide +kernel⟩⟩, List.forall_mem_cons.mpr ⟨tw409, List.forall_mem_cons.mpr ⟨tw410, fun _ h => nomatch h⟩⟩, ⟨_, _, _, rfl, rfl⟩⟩
theorem tw180 : Cond.methodLink RX4 3 Lib.objectInit ∈ TG := tg_mem 180 (by decide +kernel) rfl
theorem oX4_3 : ∀ w ∈ ([.methodLink RX4 3 Lib.objectInit, .instanceMethod Lib.objectInit, .code Lib.objectInit ⟨#[0xb1]⟩ 1 none] : List Cond), w ∈ TG := List.forall_mem_cons.mpr ⟨tw180, List.forall_mem_cons.mpr ⟨tw102, List.forall_mem_cons.mpr ⟨tw103, fun _ h => nomatch h⟩⟩⟩
theorem tw434 : Cond.methodLink RX4 45 yX4_prepare ∈ TG := tg_mem 434 (by decide +kernel) rfl
theorem tw436 : Cond.instanceMethod yX4_prepare ∈ TG := tg_mem 436 (by decide +kernel) rfl
theorem tw6 : Cond.selects RX4 yX4_prepare yX4_prepare ∈ TG := tg_mem 6 (by decide +kernel) rfl
theorem kX4_45 : cVw RX4 45 4 mX4_prepare 0 := ⟨⟨rfl, List.forall_mem_cons.mpr ⟨tw434, List.forall_mem_cons.mpr ⟨tcX4_prepare, List.forall_mem_cons.mpr ⟨tw84, fun _ h => nomatch h⟩⟩⟩, ⟨by decide +kernel, by decide +kernel, by decide +kernel⟩⟩, List.forall_mem_cons.mpr ⟨tw436, List.forall_mem_cons.mpr ⟨tw6, fun _ h => nomatch h⟩⟩, ⟨_, _, _, rfl, rfl⟩⟩
theorem tw438 : Cond.methodLink RX4 48 yX4_enter ∈ TG := tg_mem 438 (by decide +kernel) rfl
theorem tw440 : Cond.instanceMethod yX4_enter ∈ TG := tg_mem 440 (by decide +kernel) rfl
theorem tw7 : Cond.selects RX4 yX4_enter yX4_enter ∈ TG := tg_mem 7 (by decide +kernel) rfl
theorem kX4_48 : cVw RX4 48 4 mX4_enter 1 := ⟨⟨rfl, List.forall_mem_cons.mpr ⟨tw438, List.forall_mem_cons.mpr ⟨tcX4_enter, List.forall_mem_cons.mpr ⟨tw84, fun _ h => nomatch h⟩⟩⟩, ⟨by decide +kernel, by decide +kernel, by decide +kernel⟩⟩, List.forall_mem_cons.mpr ⟨tw440, List.forall_mem_cons.mpr ⟨tw7, fun _ h => nomatch h⟩⟩, ⟨_, _, _, rfl, rfl⟩⟩
theorem tw442 : Cond.methodLink RX4 52 yX0_nextOf ∈ TG := tg_mem 442 (by decide +kernel) rfl
theorem tw443 : Cond.instanceMethod yX0_nextOf ∈ TG := tg_mem 443 (by decide +kernel) rfl
theorem tw444 : Cond.selects RX0 yX0_nextOf yX0_nextOf ∈ TG := tg_mem 444 (by decide +kernel) rfl
theorem kX4_52 : cVw RX4 52 0 mX0_nextOf 2 := ⟨⟨rfl, List.forall_mem_cons.mpr ⟨tw442, List.forall_mem_cons.mpr ⟨tcX0_nextOf, List.forall_mem_cons.mpr ⟨tw81, fun _ h => nomatch h⟩⟩⟩, ⟨by decide +kernel, by decide +kernel, by decide +kernel⟩⟩, List.forall_mem_cons.mpr ⟨tw443, List.forall_mem_cons.mpr ⟨tw444, fun _ h => nomatch h⟩⟩, ⟨_, _, _, rfl, rfl⟩⟩
theorem tw446 : Cond.methodLink RX4 58 yX4_leave ∈ TG := tg_mem 446 (by decide +kernel) rfl
theorem tw448 : Cond.instanceMethod yX4_leave ∈ TG := tg_mem 448 (by decide +kernel) rfl
theorem tw8 : Cond.selects RX4 yX4_leave yX4_leave ∈ TG := tg_mem 8 (by decide +kernel) rfl
theorem kX4_58 : cVw RX4 58 4 mX4_leave 1 := ⟨⟨rfl, List.forall_mem_cons.mpr ⟨tw446, List.forall_mem_cons.mpr ⟨tcX4_leave, List.forall_mem_cons.mpr ⟨tw84, fun _ h => nomatch h⟩⟩⟩, ⟨by decide +kernel, by decide +kernel, by decide +kernel⟩⟩, List.forall_mem_cons.mpr ⟨tw448, List.forall_mem_cons.mpr ⟨tw8, fun _ h => nomatch h⟩⟩, ⟨_, _, _, rfl, rfl⟩⟩
theorem tw450 : Cond.methodLink RX4 61 yX4_follow ∈ TG := tg_mem 450 (by decide +kernel) rfl
theorem tw452 : Cond.instanceMethod yX4_follow ∈ TG := tg_mem 452 (by decide +kernel) rfl
theorem tw9 : Cond.selects RX4 yX4_follow yX4_follow ∈ TG := tg_mem 9 (by decide +kernel) rfl
theorem kX4_61 : cVw RX4 61 4 mX4_follow 1 := ⟨⟨rfl, List.forall_mem_cons.mpr ⟨tw450, List.forall_mem_cons.mpr ⟨tcX4_follow, List.forall_mem_cons.mpr ⟨tw84, fun _ h => nomatch h⟩⟩⟩, ⟨by decide +kernel, by decide +kernel, by decide +kernel⟩⟩, List.forall_mem_cons.mpr ⟨tw452, List.forall_mem_cons.mpr ⟨tw9, fun _ h => nomatch h⟩⟩, ⟨_, _, _, rfl, rfl⟩⟩
theorem tw462 : Cond.methodLink RX4 70 yX0_exit ∈ TG := tg_mem 462 (by decide +kernel) rfl
theorem kX4_70 : cVw RX4 70 0 mX0_exit 0 := ⟨⟨rfl, List.forall_mem_cons.mpr ⟨tw462, List.forall_mem_cons.mpr ⟨tcX0_exit, List.forall_mem_cons.mpr ⟨tw81, fun _ h => nomatch h⟩⟩⟩, ⟨by decide +kernel, by decide +kernel, by decide +kernel⟩⟩, List.forall_mem_cons.mpr ⟨tw401, List.forall_mem_cons.mpr ⟨tw402, fun _ h => nomatch h⟩⟩, ⟨_, _, _, rfl, rfl⟩⟩
theorem tw463 : Cond.methodLink RX4 74 yX4_spreadLeadsToExit ∈ TG := tg_mem 463 (by decide +kernel) rfl
theorem tw465 : Cond.instanceMethod yX4_spreadLeadsToExit ∈ TG := tg_mem 465 (by decide +kernel) rfl
theorem tw10 : Cond.selects RX4 yX4_spreadLeadsToExit yX4_spreadLeadsToExit ∈ TG := tg_mem 10 (by decide +kernel) rfl
theorem kX4_74 : cVw RX4 74 4 mX4_spreadLeadsToExit 0 := ⟨⟨rfl, List.forall_mem_cons.mpr ⟨tw463, List.forall_mem_cons.mpr ⟨tcX4_spreadLeadsToExit, List.forall_mem_cons.mpr ⟨tw84, fun _ h => nomatch h⟩⟩⟩, ⟨by decide +kernel, by decide +kernel, by decide +kernel⟩⟩, List.forall_mem_cons.mpr ⟨tw465, List.forall_mem_cons.mpr ⟨tw10, fun _ h => nomatch h⟩⟩, ⟨_, _, _, rfl, rfl⟩⟩
theorem tw146 : Cond.methodLink RX5 3 Lib.objectInit ∈ TG := tg_mem 146 (by decide +kernel) rfl
theorem oX5_3 : ∀ w ∈ ([.methodLink RX5 3 Lib.objectInit, .instanceMethod Lib.objectInit, .code Lib.objectInit ⟨#[0xb1]⟩ 1 none] : List Cond), w ∈ TG := List.forall_mem_cons.mpr ⟨tw146, List.forall_mem_cons.mpr ⟨tw102, List.forall_mem_cons.mpr ⟨tw103, fun _ h => nomatch h⟩⟩⟩
theorem tw254 : Cond.methodLink RX6 3 Lib.objectInit ∈ TG := tg_mem 254 (by decide +kernel) rfl
theorem oX6_3 : ∀ w ∈ ([.methodLink RX6 3 Lib.objectInit, .instanceMethod Lib.objectInit, .code Lib.objectInit ⟨#[0xb1]⟩ 1 none] : List Cond), w ∈ TG := List.forall_mem_cons.mpr ⟨tw254, List.forall_mem_cons.mpr ⟨tw102, List.forall_mem_cons.mpr ⟨tw103, fun _ h => nomatch h⟩⟩⟩
theorem tw488 : Cond.methodLink RX6 42 yX6_sortLinks ∈ TG := tg_mem 488 (by decide +kernel) rfl
theorem tw490 : Cond.instanceMethod yX6_sortLinks ∈ TG := tg_mem 490 (by decide +kernel) rfl
theorem tw14 : Cond.selects RX6 yX6_sortLinks yX6_sortLinks ∈ TG := tg_mem 14 (by decide +kernel) rfl
theorem kX6_42 : cVw RX6 42 6 mX6_sortLinks 0 := ⟨⟨rfl, List.forall_mem_cons.mpr ⟨tw488, List.forall_mem_cons.mpr ⟨tcX6_sortLinks, List.forall_mem_cons.mpr ⟨tw86, fun _ h => nomatch h⟩⟩⟩, ⟨by decide +kernel, by decide +kernel, by decide +kernel⟩⟩, List.forall_mem_cons.mpr ⟨tw490, List.forall_mem_cons.mpr ⟨tw14, fun _ h => nomatch h⟩⟩, ⟨_, _, _, rfl, rfl⟩⟩
theorem tw500 : Cond.methodLink RX6 45 yX6_plant ∈ TG := tg_mem 500 (by decide +kernel) rfl
theorem tw502 : Cond.instanceMethod yX6_plant ∈ TG := tg_mem 502 (by decide +kernel) rfl
theorem tw17 : Cond.selects RX6 yX6_plant yX6_plant ∈ TG := tg_mem 17 (by decide +kernel) rfl
theorem kX6_45 : cVw RX6 45 6 mX6_plant 0 := ⟨⟨rfl, List.forall_mem_cons.mpr ⟨tw500, List.forall_mem_cons.mpr ⟨tcX6_plant, List.forall_mem_cons.mpr ⟨tw86, fun _ h => nomatch h⟩⟩⟩, ⟨by decide +kernel, by decide +kernel, by decide +kernel⟩⟩, List.forall_mem_cons.mpr ⟨tw502, List.forall_mem_cons.mpr ⟨tw17, fun _ h => nomatch h⟩⟩, ⟨_, _, _, rfl, rfl⟩⟩
theorem tw505 : Cond.methodLink RX6 48 yX6_consider ∈ TG := tg_mem 505 (by decide +kernel) rfl
theorem tw507 : Cond.instanceMethod yX6_consider ∈ TG := tg_mem 507 (by decide +kernel) rfl
theorem tw18 : Cond.selects RX6 yX6_consider yX6_consider ∈ TG := tg_mem 18 (by decide +kernel) rfl
theorem kX6_48 : cVw RX6 48 6 mX6_consider 1 := ⟨⟨rfl, List.forall_mem_cons.mpr ⟨tw505, List.forall_mem_cons.mpr ⟨tcX6_consider, List.forall_mem_cons.mpr ⟨tw86, fun _ h => nomatch h⟩⟩⟩, ⟨by decide +kernel, by decide +kernel, by decide +kernel⟩⟩, List.forall_mem_cons.mpr ⟨tw507, List.forall_mem_cons.mpr ⟨tw18, fun _ h => nomatch h⟩⟩, ⟨_, _, _, rfl, rfl⟩⟩
theorem tw513 : Cond.methodLink RX6 52 yX6_computeIncrements ∈ TG := tg_mem 513 (by decide +kernel) rfl
theorem tw515 : Cond.instanceMethod yX6_computeIncrements ∈ TG := tg_mem 515 (by decide +kernel) rfl
theorem tw20 : Cond.selects RX6 yX6_computeIncrements yX6_computeIncrements ∈ TG := tg_mem 20 (by decide +kernel) rfl
theorem kX6_52 : cVw RX6 52 6 mX6_computeIncrements 0 := ⟨⟨rfl, List.forall_mem_cons.mpr ⟨tw513, List.forall_mem_cons.mpr ⟨tcX6_computeIncrements, List.forall_mem_cons.mpr ⟨tw86, fun _ h => nomatch h⟩⟩⟩, ⟨by decide +kernel, by decide +kernel, by decide +kernel⟩⟩, List.forall_mem_cons.mpr ⟨tw515, List.forall_mem_cons.mpr ⟨tw20, fun _ h => nomatch h⟩⟩, ⟨_, _, _, rfl, rfl⟩⟩
theorem tw492 : Cond.methodLink RX6 65 yX6_sortIn ∈ TG := tg_mem 492 (by decide +kernel) rfl
theorem tw494 : Cond.instanceMethod yX6_sortIn ∈ TG := tg_mem 494 (by decide +kernel) rfl
theorem tw15 : Cond.selects RX6 yX6_sortIn yX6_sortIn ∈ TG := tg_mem 15 (by decide +kernel) rfl
theorem kX6_65 : cVw RX6 65 6 mX6_sortIn 1 := ⟨⟨rfl, List.forall_mem_cons.mpr ⟨tw492, List.forall_mem_cons.mpr ⟨tcX6_sortIn, List.forall_mem_cons.mpr ⟨tw86, fun _ h => nomatch h⟩⟩⟩, ⟨by decide +kernel, by decide +kernel, by decide +kernel⟩⟩, List.forall_mem_cons.mpr ⟨tw494, List.forall_mem_cons.mpr ⟨tw15, fun _ h => nomatch h⟩⟩, ⟨_, _, _, rfl, rfl⟩⟩
theorem tw496 : Cond.methodLink RX6 68 yX6_weightOf ∈ TG := tg_mem 496 (by decide +kernel) rfl
theorem tw498 : Cond.instanceMethod yX6_weightOf ∈ TG := tg_mem 498 (by decide +kernel) rfl
theorem tw16 : Cond.selects RX6 yX6_weightOf yX6_weightOf ∈ TG := tg_mem 16 (by decide +kernel) rfl
theorem kX6_68 : cVw RX6 68 6 mX6_weightOf 1 := ⟨⟨rfl, List.forall_mem_cons.mpr ⟨tw496, List.forall_mem_cons.mpr ⟨tcX6_weightOf, List.forall_mem_cons.mpr ⟨tw86, fun _ h => nomatch h⟩⟩⟩, ⟨by decide +kernel, by decide +kernel, by decide +kernel⟩⟩, List.forall_mem_cons.mpr ⟨tw498, List.forall_mem_cons.mpr ⟨tw16, fun _ h => nomatch h⟩⟩, ⟨_, _, _, rfl, rfl⟩⟩
theorem tw504 : Cond.methodLink RX6 75 yX0_exit ∈ TG := tg_mem 504 (by decide +kernel) rfl
theorem kX6_75 : cVw RX6 75 0 mX0_exit 0 := ⟨⟨rfl, List.forall_mem_cons.mpr ⟨tw504, List.forall_mem_cons.mpr ⟨tcX0_exit, List.forall_mem_cons.mpr ⟨tw81, fun _ h => nomatch h⟩⟩⟩, ⟨by decide +kernel, by decide +kernel, by decide +kernel⟩⟩, List.forall_mem_cons.mpr ⟨tw401, List.forall_mem_cons.mpr ⟨tw402, fun _ h => nomatch h⟩⟩, ⟨_, _, _, rfl, rfl⟩⟩
theorem tw509 : Cond.methodLink RX6 82 yX6_join ∈ TG := tg_mem 509 (by decide +kernel) rfl
theorem tw511 : Cond.instanceMethod yX6_join ∈ TG := tg_mem 511 (by decide +kernel) rfl
theorem tw19 : Cond.selects RX6 yX6_join yX6_join ∈ TG := tg_mem 19 (by decide +kernel) rfl
theorem kX6_82 : cVw RX6 82 6 mX6_join 1 := ⟨⟨rfl, List.forall_mem_cons.mpr ⟨tw509, List.forall_mem_cons.mpr ⟨tcX6_join, List.forall_mem_cons.mpr ⟨tw86, fun _ h => nomatch h⟩⟩⟩, ⟨by decide +kernel, by decide +kernel, by decide +kernel⟩⟩, List.forall_mem_cons.mpr ⟨tw511, List.forall_mem_cons.mpr ⟨tw19, fun _ h => nomatch h⟩⟩, ⟨_, _, _, rfl, rfl⟩⟩
theorem tw310 : Cond.methodLink RX7 3 Lib.objectInit ∈ TG := tg_mem 310 (by decide +kernel) rfl
theorem oX7_3 : ∀ w ∈ ([.methodLink RX7 3 Lib.objectInit, .instanceMethod Lib.objectInit, .code Lib.objectInit ⟨#[0xb1]⟩ 1 none] : List Cond), w ∈ TG := List.forall_mem_cons.mpr ⟨tw310, List.forall_mem_cons.mpr ⟨tw102, List.forall_mem_cons.mpr ⟨tw103, fun _ h => nomatch h⟩⟩⟩
theorem tw101 : Cond.methodLink RX8 3 Lib.objectInit ∈ TG := tg_mem 101 (by decide +kernel) rfl
theorem oX8_3 : ∀ w ∈ ([.methodLink RX8 3 Lib.objectInit, .instanceMethod Lib.objectInit, .code Lib.objectInit ⟨#[0xb1]⟩ 1 none] : List Cond), w ∈ TG := List.forall_mem_cons.mpr ⟨tw101, List.forall_mem_cons.mpr ⟨tw102, List.forall_mem_cons.mpr ⟨tw103, fun _ h => nomatch h⟩⟩⟩
theorem kX8_11 : cNw RX8 11 mX0_init 0 "PathProfiler" := ⟨rfl, by decide +kernel, List.forall_mem_cons.mpr ⟨tcX0_init, List.forall_mem_cons.mpr ⟨tw81, List.forall_mem_cons.mpr ⟨tw107, fun _ h => nomatch h⟩⟩⟩, ⟨by decide +kernel, by decide +kernel, by decide +kernel⟩, rfl, rfl⟩
theorem tw144 : Cond.instanceMethod yX5_init ∈ TG := tg_mem 144 (by decide +kernel) rfl
theorem kX8_18 : cNw RX8 18 mX5_init 0 "PathProfiler" := ⟨rfl, by decide +kernel, List.forall_mem_cons.mpr ⟨tcX5_init, List.forall_mem_cons.mpr ⟨tw82, List.forall_mem_cons.mpr ⟨tw144, fun _ h => nomatch h⟩⟩⟩, ⟨by decide +kernel, by decide +kernel, by decide +kernel⟩, rfl, rfl⟩
theorem tw162 : Cond.instanceMethod yX3_init ∈ TG := tg_mem 162 (by decide +kernel) rfl
theorem kX8_25 : cNw RX8 25 mX3_init 0 "PathProfiler" := ⟨rfl, by decide +kernel, List.forall_mem_cons.mpr ⟨tcX3_init, List.forall_mem_cons.mpr ⟨tw83, List.forall_mem_cons.mpr ⟨tw162, fun _ h => nomatch h⟩⟩⟩, ⟨by decide +kernel, by decide +kernel, by decide +kernel⟩, rfl, rfl⟩
theorem tw177 : Cond.methodLink RX8 32 yX4_init ∈ TG := tg_mem 177 (by decide +kernel) rfl
theorem tw178 : Cond.instanceMethod yX4_init ∈ TG := tg_mem 178 (by decide +kernel) rfl
theorem kX8_32 : cIw RX8 32 mX4_init 1 := ⟨⟨rfl, List.forall_mem_cons.mpr ⟨tw177, List.forall_mem_cons.mpr ⟨tcX4_init, List.forall_mem_cons.mpr ⟨tw84, fun _ h => nomatch h⟩⟩⟩, ⟨by decide +kernel, by decide +kernel, by decide +kernel⟩⟩, tw178, rfl, rfl⟩
theorem tw219 : Cond.methodLink RX8 41 yX1_init ∈ TG := tg_mem 219 (by decide +kernel) rfl
theorem tw220 : Cond.instanceMethod yX1_init ∈ TG := tg_mem 220 (by decide +kernel) rfl
theorem kX8_41 : cIw RX8 41 mX1_init 2 := ⟨⟨rfl, List.forall_mem_cons.mpr ⟨tw219, List.forall_mem_cons.mpr ⟨tcX1_init, List.forall_mem_cons.mpr ⟨tw85, fun _ h => nomatch h⟩⟩⟩, ⟨by decide +kernel, by decide +kernel, by decide +kernel⟩⟩, tw220, rfl, rfl⟩
theorem tw251 : Cond.methodLink RX8 50 yX6_init ∈ TG := tg_mem 251 (by decide +kernel) rfl
theorem tw252 : Cond.instanceMethod yX6_init ∈ TG := tg_mem 252 (by decide +kernel) rfl
theorem kX8_50 : cIw RX8 50 mX6_init 2 := ⟨⟨rfl, List.forall_mem_cons.mpr ⟨tw251, List.forall_mem_cons.mpr ⟨tcX6_init, List.forall_mem_cons.mpr ⟨tw86, fun _ h => nomatch h⟩⟩⟩, ⟨by decide +kernel, by decide +kernel, by decide +kernel⟩⟩, tw252, rfl, rfl⟩
theorem tw288 : Cond.methodLink RX8 59 yX2_init ∈ TG := tg_mem 288 (by decide +kernel) rfl
theorem tw289 : Cond.instanceMethod yX2_init ∈ TG := tg_mem 289 (by decide +kernel) rfl
theorem kX8_59 : cIw RX8 59 mX2_init 2 := ⟨⟨rfl, List.forall_mem_cons.mpr ⟨tw288, List.forall_mem_cons.mpr ⟨tcX2_init, List.forall_mem_cons.mpr ⟨tw87, fun _ h => nomatch h⟩⟩⟩, ⟨by decide +kernel, by decide +kernel, by decide +kernel⟩⟩, tw289, rfl, rfl⟩
theorem tw308 : Cond.instanceMethod yX7_init ∈ TG := tg_mem 308 (by decide +kernel) rfl
theorem kX8_66 : cNw RX8 66 mX7_init 0 "PathProfiler" := ⟨rfl, by decide +kernel, List.forall_mem_cons.mpr ⟨tcX7_init, List.forall_mem_cons.mpr ⟨tw88, List.forall_mem_cons.mpr ⟨tw308, fun _ h => nomatch h⟩⟩⟩, ⟨by decide +kernel, by decide +kernel, by decide +kernel⟩, rfl, rfl⟩
theorem tw650 : Cond.methodLink RX8 82 yX0_reset ∈ TG := tg_mem 650 (by decide +kernel) rfl
theorem kX8_82 : cVw RX8 82 0 mX0_reset 1 := ⟨⟨rfl, List.forall_mem_cons.mpr ⟨tw650, List.forall_mem_cons.mpr ⟨tcX0_reset, List.forall_mem_cons.mpr ⟨tw81, fun _ h => nomatch h⟩⟩⟩, ⟨by decide +kernel, by decide +kernel, by decide +kernel⟩⟩, List.forall_mem_cons.mpr ⟨tw373, List.forall_mem_cons.mpr ⟨tw374, fun _ h => nomatch h⟩⟩, ⟨_, _, _, rfl, rfl⟩⟩
theorem tw422 : Cond.methodLink RX8 86 yX8_discardAnalysis ∈ TG := tg_mem 422 (by decide +kernel) rfl
theorem tw424 : Cond.instanceMethod yX8_discardAnalysis ∈ TG := tg_mem 424 (by decide +kernel) rfl
theorem tw5 : Cond.selects RX8 yX8_discardAnalysis yX8_discardAnalysis ∈ TG := tg_mem 5 (by decide +kernel) rfl
theorem kX8_86 : cVw RX8 86 8 mX8_discardAnalysis 0 := ⟨⟨rfl, List.forall_mem_cons.mpr ⟨tw422, List.forall_mem_cons.mpr ⟨tcX8_discardAnalysis, List.forall_mem_cons.mpr ⟨tw80, fun _ h => nomatch h⟩⟩⟩, ⟨by decide +kernel, by decide +kernel, by decide +kernel⟩⟩, List.forall_mem_cons.mpr ⟨tw424, List.forall_mem_cons.mpr ⟨tw5, fun _ h => nomatch h⟩⟩, ⟨_, _, _, rfl, rfl⟩⟩
theorem tw659 : Cond.methodLink RX8 89 yX0_allows ∈ TG := tg_mem 659 (by decide +kernel) rfl
theorem kX8_89 : cVw RX8 89 0 mX0_allows 2 := ⟨⟨rfl, List.forall_mem_cons.mpr ⟨tw659, List.forall_mem_cons.mpr ⟨tcX0_allows, List.forall_mem_cons.mpr ⟨tw81, fun _ h => nomatch h⟩⟩⟩, ⟨by decide +kernel, by decide +kernel, by decide +kernel⟩⟩, List.forall_mem_cons.mpr ⟨tw393, List.forall_mem_cons.mpr ⟨tw394, fun _ h => nomatch h⟩⟩, ⟨_, _, _, rfl, rfl⟩⟩
theorem tw661 : Cond.methodLink RX8 95 yX0_isFull ∈ TG := tg_mem 661 (by decide +kernel) rfl
theorem kX8_95 : cVw RX8 95 0 mX0_isFull 0 := ⟨⟨rfl, List.forall_mem_cons.mpr ⟨tw661, List.forall_mem_cons.mpr ⟨tcX0_isFull, List.forall_mem_cons.mpr ⟨tw81, fun _ h => nomatch h⟩⟩⟩, ⟨by decide +kernel, by decide +kernel, by decide +kernel⟩⟩, List.forall_mem_cons.mpr ⟨tw389, List.forall_mem_cons.mpr ⟨tw390, fun _ h => nomatch h⟩⟩, ⟨_, _, _, rfl, rfl⟩⟩
theorem tw678 : Cond.methodLink RX8 104 yX0_add ∈ TG := tg_mem 678 (by decide +kernel) rfl
theorem kX8_104 : cVw RX8 104 0 mX0_add 2 := ⟨⟨rfl, List.forall_mem_cons.mpr ⟨tw678, List.forall_mem_cons.mpr ⟨tcX0_add, List.forall_mem_cons.mpr ⟨tw81, fun _ h => nomatch h⟩⟩⟩, ⟨by decide +kernel, by decide +kernel, by decide +kernel⟩⟩, List.forall_mem_cons.mpr ⟨tw409, List.forall_mem_cons.mpr ⟨tw410, fun _ h => nomatch h⟩⟩, ⟨_, _, _, rfl, rfl⟩⟩
theorem tw687 : Cond.methodLink RX8 108 yX8_requireEdge ∈ TG := tg_mem 687 (by decide +kernel) rfl
theorem tw689 : Cond.instanceMethod yX8_requireEdge ∈ TG := tg_mem 689 (by decide +kernel) rfl
theorem tw28 : Cond.selects RX8 yX8_requireEdge yX8_requireEdge ∈ TG := tg_mem 28 (by decide +kernel) rfl
theorem kX8_108 : cVw RX8 108 8 mX8_requireEdge 1 := ⟨⟨rfl, List.forall_mem_cons.mpr ⟨tw687, List.forall_mem_cons.mpr ⟨tcX8_requireEdge, List.forall_mem_cons.mpr ⟨tw80, fun _ h => nomatch h⟩⟩⟩, ⟨by decide +kernel, by decide +kernel, by decide +kernel⟩⟩, List.forall_mem_cons.mpr ⟨tw689, List.forall_mem_cons.mpr ⟨tw28, fun _ h => nomatch h⟩⟩, ⟨_, _, _, rfl, rfl⟩⟩
theorem tw720 : Cond.methodLink RX8 123 yX5_isFull ∈ TG := tg_mem 720 (by decide +kernel) rfl
theorem tw721 : Cond.instanceMethod yX5_isFull ∈ TG := tg_mem 721 (by decide +kernel) rfl
theorem tw722 : Cond.selects RX5 yX5_isFull yX5_isFull ∈ TG := tg_mem 722 (by decide +kernel) rfl
theorem kX8_123 : cVw RX8 123 5 mX5_isFull 0 := ⟨⟨rfl, List.forall_mem_cons.mpr ⟨tw720, List.forall_mem_cons.mpr ⟨tcX5_isFull, List.forall_mem_cons.mpr ⟨tw82, fun _ h => nomatch h⟩⟩⟩, ⟨by decide +kernel, by decide +kernel, by decide +kernel⟩⟩, List.forall_mem_cons.mpr ⟨tw721, List.forall_mem_cons.mpr ⟨tw722, fun _ h => nomatch h⟩⟩, ⟨_, _, _, rfl, rfl⟩⟩
theorem tw725 : Cond.methodLink RX8 126 yX5_add ∈ TG := tg_mem 725 (by decide +kernel) rfl
theorem tw726 : Cond.instanceMethod yX5_add ∈ TG := tg_mem 726 (by decide +kernel) rfl
theorem tw727 : Cond.selects RX5 yX5_add yX5_add ∈ TG := tg_mem 727 (by decide +kernel) rfl
theorem kX8_126 : cVw RX8 126 5 mX5_add 1 := ⟨⟨rfl, List.forall_mem_cons.mpr ⟨tw725, List.forall_mem_cons.mpr ⟨tcX5_add, List.forall_mem_cons.mpr ⟨tw82, fun _ h => nomatch h⟩⟩⟩, ⟨by decide +kernel, by decide +kernel, by decide +kernel⟩⟩, List.forall_mem_cons.mpr ⟨tw726, List.forall_mem_cons.mpr ⟨tw727, fun _ h => nomatch h⟩⟩, ⟨_, _, _, rfl, rfl⟩⟩
theorem tw368 : Cond.methodLink RX8 131 yX3_read ∈ TG := tg_mem 368 (by decide +kernel) rfl
theorem kX8_131 : cVw RX8 131 3 mX3_read 1 := ⟨⟨rfl, List.forall_mem_cons.mpr ⟨tw368, List.forall_mem_cons.mpr ⟨tcX3_read, List.forall_mem_cons.mpr ⟨tw83, fun _ h => nomatch h⟩⟩⟩, ⟨by decide +kernel, by decide +kernel, by decide +kernel⟩⟩, List.forall_mem_cons.mpr ⟨tw369, List.forall_mem_cons.mpr ⟨tw370, fun _ h => nomatch h⟩⟩, ⟨_, _, _, rfl, rfl⟩⟩
theorem tw736 : Cond.methodLink RX8 135 yX3_readsGraph ∈ TG := tg_mem 736 (by decide +kernel) rfl
theorem tw737 : Cond.instanceMethod yX3_readsGraph ∈ TG := tg_mem 737 (by decide +kernel) rfl
theorem tw738 : Cond.selects RX3 yX3_readsGraph yX3_readsGraph ∈ TG := tg_mem 738 (by decide +kernel) rfl
theorem kX8_135 : cVw RX8 135 3 mX3_readsGraph 1 := ⟨⟨rfl, List.forall_mem_cons.mpr ⟨tw736, List.forall_mem_cons.mpr ⟨tcX3_readsGraph, List.forall_mem_cons.mpr ⟨tw83, fun _ h => nomatch h⟩⟩⟩, ⟨by decide +kernel, by decide +kernel, by decide +kernel⟩⟩, List.forall_mem_cons.mpr ⟨tw737, List.forall_mem_cons.mpr ⟨tw738, fun _ h => nomatch h⟩⟩, ⟨_, _, _, rfl, rfl⟩⟩
theorem tw746 : Cond.methodLink RX8 144 yX0_become ∈ TG := tg_mem 746 (by decide +kernel) rfl
theorem tw747 : Cond.instanceMethod yX0_become ∈ TG := tg_mem 747 (by decide +kernel) rfl
theorem tw748 : Cond.selects RX0 yX0_become yX0_become ∈ TG := tg_mem 748 (by decide +kernel) rfl
theorem kX8_144 : cVw RX8 144 0 mX0_become 1 := ⟨⟨rfl, List.forall_mem_cons.mpr ⟨tw746, List.forall_mem_cons.mpr ⟨tcX0_become, List.forall_mem_cons.mpr ⟨tw81, fun _ h => nomatch h⟩⟩⟩, ⟨by decide +kernel, by decide +kernel, by decide +kernel⟩⟩, List.forall_mem_cons.mpr ⟨tw747, List.forall_mem_cons.mpr ⟨tw748, fun _ h => nomatch h⟩⟩, ⟨_, _, _, rfl, rfl⟩⟩
theorem tw430 : Cond.methodLink RX8 147 yX4_run ∈ TG := tg_mem 430 (by decide +kernel) rfl
theorem tw431 : Cond.instanceMethod yX4_run ∈ TG := tg_mem 431 (by decide +kernel) rfl
theorem tw432 : Cond.selects RX4 yX4_run yX4_run ∈ TG := tg_mem 432 (by decide +kernel) rfl
theorem kX8_147 : cVw RX8 147 4 mX4_run 0 := ⟨⟨rfl, List.forall_mem_cons.mpr ⟨tw430, List.forall_mem_cons.mpr ⟨tcX4_run, List.forall_mem_cons.mpr ⟨tw84, fun _ h => nomatch h⟩⟩⟩, ⟨by decide +kernel, by decide +kernel, by decide +kernel⟩⟩, List.forall_mem_cons.mpr ⟨tw431, List.forall_mem_cons.mpr ⟨tw432, fun _ h => nomatch h⟩⟩, ⟨_, _, _, rfl, rfl⟩⟩
theorem tw454 : Cond.methodLink RX8 150 yX4_allNodesReached ∈ TG := tg_mem 454 (by decide +kernel) rfl
theorem tw455 : Cond.instanceMethod yX4_allNodesReached ∈ TG := tg_mem 455 (by decide +kernel) rfl
theorem tw456 : Cond.selects RX4 yX4_allNodesReached yX4_allNodesReached ∈ TG := tg_mem 456 (by decide +kernel) rfl
theorem kX8_150 : cVw RX8 150 4 mX4_allNodesReached 0 := ⟨⟨rfl, List.forall_mem_cons.mpr ⟨tw454, List.forall_mem_cons.mpr ⟨tcX4_allNodesReached, List.forall_mem_cons.mpr ⟨tw84, fun _ h => nomatch h⟩⟩⟩, ⟨by decide +kernel, by decide +kernel, by decide +kernel⟩⟩, List.forall_mem_cons.mpr ⟨tw455, List.forall_mem_cons.mpr ⟨tw456, fun _ h => nomatch h⟩⟩, ⟨_, _, _, rfl, rfl⟩⟩
theorem tw458 : Cond.methodLink RX8 153 yX4_exitReachedFromAllNodes ∈ TG := tg_mem 458 (by decide +kernel) rfl
theorem tw459 : Cond.instanceMethod yX4_exitReachedFromAllNodes ∈ TG := tg_mem 459 (by decide +kernel) rfl
theorem tw460 : Cond.selects RX4 yX4_exitReachedFromAllNodes yX4_exitReachedFromAllNodes ∈ TG := tg_mem 460 (by decide +kernel) rfl
theorem kX8_153 : cVw RX8 153 4 mX4_exitReachedFromAllNodes 0 := ⟨⟨rfl, List.forall_mem_cons.mpr ⟨tw458, List.forall_mem_cons.mpr ⟨tcX4_exitReachedFromAllNodes, List.forall_mem_cons.mpr ⟨tw84, fun _ h => nomatch h⟩⟩⟩, ⟨by decide +kernel, by decide +kernel, by decide +kernel⟩⟩, List.forall_mem_cons.mpr ⟨tw459, List.forall_mem_cons.mpr ⟨tw460, fun _ h => nomatch h⟩⟩, ⟨_, _, _, rfl, rfl⟩⟩
theorem tw467 : Cond.methodLink RX8 156 yX1_build ∈ TG := tg_mem 467 (by decide +kernel) rfl
theorem tw468 : Cond.instanceMethod yX1_build ∈ TG := tg_mem 468 (by decide +kernel) rfl
theorem tw469 : Cond.selects RX1 yX1_build yX1_build ∈ TG := tg_mem 469 (by decide +kernel) rfl
theorem kX8_156 : cVw RX8 156 1 mX1_build 0 := ⟨⟨rfl, List.forall_mem_cons.mpr ⟨tw467, List.forall_mem_cons.mpr ⟨tcX1_build, List.forall_mem_cons.mpr ⟨tw85, fun _ h => nomatch h⟩⟩⟩, ⟨by decide +kernel, by decide +kernel, by decide +kernel⟩⟩, List.forall_mem_cons.mpr ⟨tw468, List.forall_mem_cons.mpr ⟨tw469, fun _ h => nomatch h⟩⟩, ⟨_, _, _, rfl, rfl⟩⟩
theorem tw484 : Cond.methodLink RX8 159 yX6_build ∈ TG := tg_mem 484 (by decide +kernel) rfl
theorem tw485 : Cond.instanceMethod yX6_build ∈ TG := tg_mem 485 (by decide +kernel) rfl
theorem tw486 : Cond.selects RX6 yX6_build yX6_build ∈ TG := tg_mem 486 (by decide +kernel) rfl
theorem kX8_159 : cVw RX8 159 6 mX6_build 0 := ⟨⟨rfl, List.forall_mem_cons.mpr ⟨tw484, List.forall_mem_cons.mpr ⟨tcX6_build, List.forall_mem_cons.mpr ⟨tw86, fun _ h => nomatch h⟩⟩⟩, ⟨by decide +kernel, by decide +kernel, by decide +kernel⟩⟩, List.forall_mem_cons.mpr ⟨tw485, List.forall_mem_cons.mpr ⟨tw486, fun _ h => nomatch h⟩⟩, ⟨_, _, _, rfl, rfl⟩⟩
theorem tw517 : Cond.methodLink RX8 160 yX1_allPaths ∈ TG := tg_mem 517 (by decide +kernel) rfl
theorem tw518 : Cond.instanceMethod yX1_allPaths ∈ TG := tg_mem 518 (by decide +kernel) rfl
theorem tw519 : Cond.selects RX1 yX1_allPaths yX1_allPaths ∈ TG := tg_mem 519 (by decide +kernel) rfl
theorem kX8_160 : cVw RX8 160 1 mX1_allPaths 0 := ⟨⟨rfl, List.forall_mem_cons.mpr ⟨tw517, List.forall_mem_cons.mpr ⟨tcX1_allPaths, List.forall_mem_cons.mpr ⟨tw85, fun _ h => nomatch h⟩⟩⟩, ⟨by decide +kernel, by decide +kernel, by decide +kernel⟩⟩, List.forall_mem_cons.mpr ⟨tw518, List.forall_mem_cons.mpr ⟨tw519, fun _ h => nomatch h⟩⟩, ⟨_, _, _, rfl, rfl⟩⟩
theorem tw759 : Cond.methodLink RX8 164 yX8_requireAnalysis ∈ TG := tg_mem 759 (by decide +kernel) rfl
theorem tw761 : Cond.instanceMethod yX8_requireAnalysis ∈ TG := tg_mem 761 (by decide +kernel) rfl
theorem tw30 : Cond.selects RX8 yX8_requireAnalysis yX8_requireAnalysis ∈ TG := tg_mem 30 (by decide +kernel) rfl
theorem kX8_164 : cVw RX8 164 8 mX8_requireAnalysis 0 := ⟨⟨rfl, List.forall_mem_cons.mpr ⟨tw759, List.forall_mem_cons.mpr ⟨tcX8_requireAnalysis, List.forall_mem_cons.mpr ⟨tw80, fun _ h => nomatch h⟩⟩⟩, ⟨by decide +kernel, by decide +kernel, by decide +kernel⟩⟩, List.forall_mem_cons.mpr ⟨tw761, List.forall_mem_cons.mpr ⟨tw30, fun _ h => nomatch h⟩⟩, ⟨_, _, _, rfl, rfl⟩⟩
theorem tw764 : Cond.methodLink RX8 167 yX0_hasNode ∈ TG := tg_mem 764 (by decide +kernel) rfl
theorem kX8_167 : cVw RX8 167 0 mX0_hasNode 1 := ⟨⟨rfl, List.forall_mem_cons.mpr ⟨tw764, List.forall_mem_cons.mpr ⟨tcX0_hasNode, List.forall_mem_cons.mpr ⟨tw81, fun _ h => nomatch h⟩⟩⟩, ⟨by decide +kernel, by decide +kernel, by decide +kernel⟩⟩, List.forall_mem_cons.mpr ⟨tw397, List.forall_mem_cons.mpr ⟨tw398, fun _ h => nomatch h⟩⟩, ⟨_, _, _, rfl, rfl⟩⟩
theorem tw554 : Cond.methodLink RX8 186 yX1_linkOf ∈ TG := tg_mem 554 (by decide +kernel) rfl
theorem tw555 : Cond.instanceMethod yX1_linkOf ∈ TG := tg_mem 555 (by decide +kernel) rfl
theorem tw556 : Cond.selects RX1 yX1_linkOf yX1_linkOf ∈ TG := tg_mem 556 (by decide +kernel) rfl
theorem kX8_186 : cVw RX8 186 1 mX1_linkOf 2 := ⟨⟨rfl, List.forall_mem_cons.mpr ⟨tw554, List.forall_mem_cons.mpr ⟨tcX1_linkOf, List.forall_mem_cons.mpr ⟨tw85, fun _ h => nomatch h⟩⟩⟩, ⟨by decide +kernel, by decide +kernel, by decide +kernel⟩⟩, List.forall_mem_cons.mpr ⟨tw555, List.forall_mem_cons.mpr ⟨tw556, fun _ h => nomatch h⟩⟩, ⟨_, _, _, rfl, rfl⟩⟩
theorem tw801 : Cond.methodLink RX8 199 yX8_requirePath ∈ TG := tg_mem 801 (by decide +kernel) rfl
theorem tw803 : Cond.instanceMethod yX8_requirePath ∈ TG := tg_mem 803 (by decide +kernel) rfl
theorem tw31 : Cond.selects RX8 yX8_requirePath yX8_requirePath ∈ TG := tg_mem 31 (by decide +kernel) rfl
theorem kX8_199 : cVw RX8 199 8 mX8_requirePath 1 := ⟨⟨rfl, List.forall_mem_cons.mpr ⟨tw801, List.forall_mem_cons.mpr ⟨tcX8_requirePath, List.forall_mem_cons.mpr ⟨tw80, fun _ h => nomatch h⟩⟩⟩, ⟨by decide +kernel, by decide +kernel, by decide +kernel⟩⟩, List.forall_mem_cons.mpr ⟨tw803, List.forall_mem_cons.mpr ⟨tw31, fun _ h => nomatch h⟩⟩, ⟨_, _, _, rfl, rfl⟩⟩
theorem tw806 : Cond.methodLink RX8 202 yX2_trace ∈ TG := tg_mem 806 (by decide +kernel) rfl
theorem tw807 : Cond.instanceMethod yX2_trace ∈ TG := tg_mem 807 (by decide +kernel) rfl
theorem tw808 : Cond.selects RX2 yX2_trace yX2_trace ∈ TG := tg_mem 808 (by decide +kernel) rfl
theorem kX8_202 : cVw RX8 202 2 mX2_trace 1 := ⟨⟨rfl, List.forall_mem_cons.mpr ⟨tw806, List.forall_mem_cons.mpr ⟨tcX2_trace, List.forall_mem_cons.mpr ⟨tw87, fun _ h => nomatch h⟩⟩⟩, ⟨by decide +kernel, by decide +kernel, by decide +kernel⟩⟩, List.forall_mem_cons.mpr ⟨tw807, List.forall_mem_cons.mpr ⟨tw808, fun _ h => nomatch h⟩⟩, ⟨_, _, _, rfl, rfl⟩⟩
theorem tw815 : Cond.methodLink RX8 205 yX2_nodeNumber ∈ TG := tg_mem 815 (by decide +kernel) rfl
theorem tw816 : Cond.instanceMethod yX2_nodeNumber ∈ TG := tg_mem 816 (by decide +kernel) rfl
theorem tw817 : Cond.selects RX2 yX2_nodeNumber yX2_nodeNumber ∈ TG := tg_mem 817 (by decide +kernel) rfl
theorem kX8_205 : cVw RX8 205 2 mX2_nodeNumber 0 := ⟨⟨rfl, List.forall_mem_cons.mpr ⟨tw815, List.forall_mem_cons.mpr ⟨tcX2_nodeNumber, List.forall_mem_cons.mpr ⟨tw87, fun _ h => nomatch h⟩⟩⟩, ⟨by decide +kernel, by decide +kernel, by decide +kernel⟩⟩, List.forall_mem_cons.mpr ⟨tw816, List.forall_mem_cons.mpr ⟨tw817, fun _ h => nomatch h⟩⟩, ⟨_, _, _, rfl, rfl⟩⟩
theorem tw835 : Cond.methodLink RX8 210 yX2_nodeAt ∈ TG := tg_mem 835 (by decide +kernel) rfl
theorem tw836 : Cond.instanceMethod yX2_nodeAt ∈ TG := tg_mem 836 (by decide +kernel) rfl
theorem tw837 : Cond.selects RX2 yX2_nodeAt yX2_nodeAt ∈ TG := tg_mem 837 (by decide +kernel) rfl
theorem kX8_210 : cVw RX8 210 2 mX2_nodeAt 1 := ⟨⟨rfl, List.forall_mem_cons.mpr ⟨tw835, List.forall_mem_cons.mpr ⟨tcX2_nodeAt, List.forall_mem_cons.mpr ⟨tw87, fun _ h => nomatch h⟩⟩⟩, ⟨by decide +kernel, by decide +kernel, by decide +kernel⟩⟩, List.forall_mem_cons.mpr ⟨tw836, List.forall_mem_cons.mpr ⟨tw837, fun _ h => nomatch h⟩⟩, ⟨_, _, _, rfl, rfl⟩⟩
theorem tw846 : Cond.methodLink RX8 214 yX2_endEdge ∈ TG := tg_mem 846 (by decide +kernel) rfl
theorem kX8_214 : cVw RX8 214 2 mX2_endEdge 0 := ⟨⟨rfl, List.forall_mem_cons.mpr ⟨tw846, List.forall_mem_cons.mpr ⟨tcX2_endEdge, List.forall_mem_cons.mpr ⟨tw87, fun _ h => nomatch h⟩⟩⟩, ⟨by decide +kernel, by decide +kernel, by decide +kernel⟩⟩, List.forall_mem_cons.mpr ⟨tw824, List.forall_mem_cons.mpr ⟨tw825, fun _ h => nomatch h⟩⟩, ⟨_, _, _, rfl, rfl⟩⟩
theorem tw847 : Cond.methodLink RX8 217 yX2_startEdge ∈ TG := tg_mem 847 (by decide +kernel) rfl
theorem kX8_217 : cVw RX8 217 2 mX2_startEdge 0 := ⟨⟨rfl, List.forall_mem_cons.mpr ⟨tw847, List.forall_mem_cons.mpr ⟨tcX2_startEdge, List.forall_mem_cons.mpr ⟨tw87, fun _ h => nomatch h⟩⟩⟩, ⟨by decide +kernel, by decide +kernel, by decide +kernel⟩⟩, List.forall_mem_cons.mpr ⟨tw820, List.forall_mem_cons.mpr ⟨tw821, fun _ h => nomatch h⟩⟩, ⟨_, _, _, rfl, rfl⟩⟩
theorem tw855 : Cond.methodLink RX8 220 yX2_numberOf ∈ TG := tg_mem 855 (by decide +kernel) rfl
theorem tw856 : Cond.instanceMethod yX2_numberOf ∈ TG := tg_mem 856 (by decide +kernel) rfl
theorem tw857 : Cond.selects RX2 yX2_numberOf yX2_numberOf ∈ TG := tg_mem 857 (by decide +kernel) rfl
theorem kX8_220 : cVw RX8 220 2 mX2_numberOf 1 := ⟨⟨rfl, List.forall_mem_cons.mpr ⟨tw855, List.forall_mem_cons.mpr ⟨tcX2_numberOf, List.forall_mem_cons.mpr ⟨tw87, fun _ h => nomatch h⟩⟩⟩, ⟨by decide +kernel, by decide +kernel, by decide +kernel⟩⟩, List.forall_mem_cons.mpr ⟨tw856, List.forall_mem_cons.mpr ⟨tw857, fun _ h => nomatch h⟩⟩, ⟨_, _, _, rfl, rfl⟩⟩
theorem tw879 : Cond.methodLink RX8 223 yX8_requireCounts ∈ TG := tg_mem 879 (by decide +kernel) rfl
theorem tw881 : Cond.instanceMethod yX8_requireCounts ∈ TG := tg_mem 881 (by decide +kernel) rfl
theorem tw33 : Cond.selects RX8 yX8_requireCounts yX8_requireCounts ∈ TG := tg_mem 33 (by decide +kernel) rfl
theorem kX8_223 : cVw RX8 223 8 mX8_requireCounts 0 := ⟨⟨rfl, List.forall_mem_cons.mpr ⟨tw879, List.forall_mem_cons.mpr ⟨tcX8_requireCounts, List.forall_mem_cons.mpr ⟨tw80, fun _ h => nomatch h⟩⟩⟩, ⟨by decide +kernel, by decide +kernel, by decide +kernel⟩⟩, List.forall_mem_cons.mpr ⟨tw881, List.forall_mem_cons.mpr ⟨tw33, fun _ h => nomatch h⟩⟩, ⟨_, _, _, rfl, rfl⟩⟩
theorem tw884 : Cond.methodLink RX8 226 yX7_begin ∈ TG := tg_mem 884 (by decide +kernel) rfl
theorem tw885 : Cond.instanceMethod yX7_begin ∈ TG := tg_mem 885 (by decide +kernel) rfl
theorem tw886 : Cond.selects RX7 yX7_begin yX7_begin ∈ TG := tg_mem 886 (by decide +kernel) rfl
theorem kX8_226 : cVw RX8 226 7 mX7_begin 0 := ⟨⟨rfl, List.forall_mem_cons.mpr ⟨tw884, List.forall_mem_cons.mpr ⟨tcX7_begin, List.forall_mem_cons.mpr ⟨tw88, fun _ h => nomatch h⟩⟩⟩, ⟨by decide +kernel, by decide +kernel, by decide +kernel⟩⟩, List.forall_mem_cons.mpr ⟨tw885, List.forall_mem_cons.mpr ⟨tw886, fun _ h => nomatch h⟩⟩, ⟨_, _, _, rfl, rfl⟩⟩
theorem tw895 : Cond.methodLink RX8 232 yX0_exit ∈ TG := tg_mem 895 (by decide +kernel) rfl
theorem kX8_232 : cVw RX8 232 0 mX0_exit 0 := ⟨⟨rfl, List.forall_mem_cons.mpr ⟨tw895, List.forall_mem_cons.mpr ⟨tcX0_exit, List.forall_mem_cons.mpr ⟨tw81, fun _ h => nomatch h⟩⟩⟩, ⟨by decide +kernel, by decide +kernel, by decide +kernel⟩⟩, List.forall_mem_cons.mpr ⟨tw401, List.forall_mem_cons.mpr ⟨tw402, fun _ h => nomatch h⟩⟩, ⟨_, _, _, rfl, rfl⟩⟩
theorem tw897 : Cond.methodLink RX8 237 yX0_edgeAt ∈ TG := tg_mem 897 (by decide +kernel) rfl
theorem tw898 : Cond.instanceMethod yX0_edgeAt ∈ TG := tg_mem 898 (by decide +kernel) rfl
theorem tw899 : Cond.selects RX0 yX0_edgeAt yX0_edgeAt ∈ TG := tg_mem 899 (by decide +kernel) rfl
theorem kX8_237 : cVw RX8 237 0 mX0_edgeAt 2 := ⟨⟨rfl, List.forall_mem_cons.mpr ⟨tw897, List.forall_mem_cons.mpr ⟨tcX0_edgeAt, List.forall_mem_cons.mpr ⟨tw81, fun _ h => nomatch h⟩⟩⟩, ⟨by decide +kernel, by decide +kernel, by decide +kernel⟩⟩, List.forall_mem_cons.mpr ⟨tw898, List.forall_mem_cons.mpr ⟨tw899, fun _ h => nomatch h⟩⟩, ⟨_, _, _, rfl, rfl⟩⟩
theorem tw902 : Cond.methodLink RX8 242 yX8_follow ∈ TG := tg_mem 902 (by decide +kernel) rfl
theorem tw904 : Cond.instanceMethod yX8_follow ∈ TG := tg_mem 904 (by decide +kernel) rfl
theorem tw34 : Cond.selects RX8 yX8_follow yX8_follow ∈ TG := tg_mem 34 (by decide +kernel) rfl
theorem kX8_242 : cVw RX8 242 8 mX8_follow 1 := ⟨⟨rfl, List.forall_mem_cons.mpr ⟨tw902, List.forall_mem_cons.mpr ⟨tcX8_follow, List.forall_mem_cons.mpr ⟨tw80, fun _ h => nomatch h⟩⟩⟩, ⟨by decide +kernel, by decide +kernel, by decide +kernel⟩⟩, List.forall_mem_cons.mpr ⟨tw904, List.forall_mem_cons.mpr ⟨tw34, fun _ h => nomatch h⟩⟩, ⟨_, _, _, rfl, rfl⟩⟩
theorem tw533 : Cond.methodLink RX8 254 yX7_mostCounted ∈ TG := tg_mem 533 (by decide +kernel) rfl
theorem tw534 : Cond.instanceMethod yX7_mostCounted ∈ TG := tg_mem 534 (by decide +kernel) rfl
theorem tw535 : Cond.selects RX7 yX7_mostCounted yX7_mostCounted ∈ TG := tg_mem 535 (by decide +kernel) rfl
theorem kX8_254 : cVw RX8 254 7 mX7_mostCounted 0 := ⟨⟨rfl, List.forall_mem_cons.mpr ⟨tw533, List.forall_mem_cons.mpr ⟨tcX7_mostCounted, List.forall_mem_cons.mpr ⟨tw88, fun _ h => nomatch h⟩⟩⟩, ⟨by decide +kernel, by decide +kernel, by decide +kernel⟩⟩, List.forall_mem_cons.mpr ⟨tw534, List.forall_mem_cons.mpr ⟨tw535, fun _ h => nomatch h⟩⟩, ⟨_, _, _, rfl, rfl⟩⟩
theorem tw931 : Cond.methodLink RX8 257 yX2_contains ∈ TG := tg_mem 931 (by decide +kernel) rfl
theorem tw932 : Cond.instanceMethod yX2_contains ∈ TG := tg_mem 932 (by decide +kernel) rfl
theorem tw933 : Cond.selects RX2 yX2_contains yX2_contains ∈ TG := tg_mem 933 (by decide +kernel) rfl
theorem kX8_257 : cVw RX8 257 2 mX2_contains 1 := ⟨⟨rfl, List.forall_mem_cons.mpr ⟨tw931, List.forall_mem_cons.mpr ⟨tcX2_contains, List.forall_mem_cons.mpr ⟨tw87, fun _ h => nomatch h⟩⟩⟩, ⟨by decide +kernel, by decide +kernel, by decide +kernel⟩⟩, List.forall_mem_cons.mpr ⟨tw932, List.forall_mem_cons.mpr ⟨tw933, fun _ h => nomatch h⟩⟩, ⟨_, _, _, rfl, rfl⟩⟩
theorem tw542 : Cond.methodLink RX8 262 yX8_mixGraph ∈ TG := tg_mem 542 (by decide +kernel) rfl
theorem tw544 : Cond.instanceMethod yX8_mixGraph ∈ TG := tg_mem 544 (by decide +kernel) rfl
theorem tw21 : Cond.selects RX8 yX8_mixGraph yX8_mixGraph ∈ TG := tg_mem 21 (by decide +kernel) rfl
theorem kX8_262 : cVw RX8 262 8 mX8_mixGraph 1 := ⟨⟨rfl, List.forall_mem_cons.mpr ⟨tw542, List.forall_mem_cons.mpr ⟨tcX8_mixGraph, List.forall_mem_cons.mpr ⟨tw80, fun _ h => nomatch h⟩⟩⟩, ⟨by decide +kernel, by decide +kernel, by decide +kernel⟩⟩, List.forall_mem_cons.mpr ⟨tw544, List.forall_mem_cons.mpr ⟨tw21, fun _ h => nomatch h⟩⟩, ⟨_, _, _, rfl, rfl⟩⟩
theorem tw546 : Cond.methodLink RX8 266 yX8_mix ∈ TG := tg_mem 546 (by decide +kernel) rfl
theorem tw547 : Cond.static yX8_mix ∈ TG := tg_mem 547 (by decide +kernel) rfl
theorem kX8_266 : cSw RX8 266 mX8_mix 2 := ⟨⟨rfl, List.forall_mem_cons.mpr ⟨tw546, List.forall_mem_cons.mpr ⟨tcX8_mix, List.forall_mem_cons.mpr ⟨tw80, fun _ h => nomatch h⟩⟩⟩, ⟨by decide +kernel, by decide +kernel, by decide +kernel⟩⟩, tw547⟩
theorem tw550 : Cond.methodLink RX8 270 yX8_mixAnalysis ∈ TG := tg_mem 550 (by decide +kernel) rfl
theorem tw552 : Cond.instanceMethod yX8_mixAnalysis ∈ TG := tg_mem 552 (by decide +kernel) rfl
theorem tw22 : Cond.selects RX8 yX8_mixAnalysis yX8_mixAnalysis ∈ TG := tg_mem 22 (by decide +kernel) rfl
theorem kX8_270 : cVw RX8 270 8 mX8_mixAnalysis 1 := ⟨⟨rfl, List.forall_mem_cons.mpr ⟨tw550, List.forall_mem_cons.mpr ⟨tcX8_mixAnalysis, List.forall_mem_cons.mpr ⟨tw80, fun _ h => nomatch h⟩⟩⟩, ⟨by decide +kernel, by decide +kernel, by decide +kernel⟩⟩, List.forall_mem_cons.mpr ⟨tw552, List.forall_mem_cons.mpr ⟨tw22, fun _ h => nomatch h⟩⟩, ⟨_, _, _, rfl, rfl⟩⟩
theorem tw562 : Cond.methodLink RX8 273 yX8_mixCounts ∈ TG := tg_mem 562 (by decide +kernel) rfl
theorem tw564 : Cond.instanceMethod yX8_mixCounts ∈ TG := tg_mem 564 (by decide +kernel) rfl
theorem tw24 : Cond.selects RX8 yX8_mixCounts yX8_mixCounts ∈ TG := tg_mem 24 (by decide +kernel) rfl
theorem kX8_273 : cVw RX8 273 8 mX8_mixCounts 1 := ⟨⟨rfl, List.forall_mem_cons.mpr ⟨tw562, List.forall_mem_cons.mpr ⟨tcX8_mixCounts, List.forall_mem_cons.mpr ⟨tw80, fun _ h => nomatch h⟩⟩⟩, ⟨by decide +kernel, by decide +kernel, by decide +kernel⟩⟩, List.forall_mem_cons.mpr ⟨tw564, List.forall_mem_cons.mpr ⟨tw24, fun _ h => nomatch h⟩⟩, ⟨_, _, _, rfl, rfl⟩⟩
theorem tw570 : Cond.methodLink RX8 276 yX8_mixText ∈ TG := tg_mem 570 (by decide +kernel) rfl
theorem tw572 : Cond.instanceMethod yX8_mixText ∈ TG := tg_mem 572 (by decide +kernel) rfl
theorem tw26 : Cond.selects RX8 yX8_mixText yX8_mixText ∈ TG := tg_mem 26 (by decide +kernel) rfl
theorem kX8_276 : cVw RX8 276 8 mX8_mixText 1 := ⟨⟨rfl, List.forall_mem_cons.mpr ⟨tw570, List.forall_mem_cons.mpr ⟨tcX8_mixText, List.forall_mem_cons.mpr ⟨tw80, fun _ h => nomatch h⟩⟩⟩, ⟨by decide +kernel, by decide +kernel, by decide +kernel⟩⟩, List.forall_mem_cons.mpr ⟨tw572, List.forall_mem_cons.mpr ⟨tw26, fun _ h => nomatch h⟩⟩, ⟨_, _, _, rfl, rfl⟩⟩
theorem tw426 : Cond.methodLink RX8 279 yX7_forget ∈ TG := tg_mem 426 (by decide +kernel) rfl
theorem tw427 : Cond.instanceMethod yX7_forget ∈ TG := tg_mem 427 (by decide +kernel) rfl
theorem tw428 : Cond.selects RX7 yX7_forget yX7_forget ∈ TG := tg_mem 428 (by decide +kernel) rfl
theorem kX8_279 : cVw RX8 279 7 mX7_forget 0 := ⟨⟨rfl, List.forall_mem_cons.mpr ⟨tw426, List.forall_mem_cons.mpr ⟨tcX7_forget, List.forall_mem_cons.mpr ⟨tw88, fun _ h => nomatch h⟩⟩⟩, ⟨by decide +kernel, by decide +kernel, by decide +kernel⟩⟩, List.forall_mem_cons.mpr ⟨tw427, List.forall_mem_cons.mpr ⟨tw428, fun _ h => nomatch h⟩⟩, ⟨_, _, _, rfl, rfl⟩⟩
theorem tw566 : Cond.methodLink RX8 284 yX8_isCountable ∈ TG := tg_mem 566 (by decide +kernel) rfl
theorem tw568 : Cond.instanceMethod yX8_isCountable ∈ TG := tg_mem 568 (by decide +kernel) rfl
theorem tw25 : Cond.selects RX8 yX8_isCountable yX8_isCountable ∈ TG := tg_mem 25 (by decide +kernel) rfl
theorem kX8_284 : cVw RX8 284 8 mX8_isCountable 0 := ⟨⟨rfl, List.forall_mem_cons.mpr ⟨tw566, List.forall_mem_cons.mpr ⟨tcX8_isCountable, List.forall_mem_cons.mpr ⟨tw80, fun _ h => nomatch h⟩⟩⟩, ⟨by decide +kernel, by decide +kernel, by decide +kernel⟩⟩, List.forall_mem_cons.mpr ⟨tw568, List.forall_mem_cons.mpr ⟨tw25, fun _ h => nomatch h⟩⟩, ⟨_, _, _, rfl, rfl⟩⟩
theorem tw691 : Cond.methodLink RX8 289 yX0_hasEdge ∈ TG := tg_mem 691 (by decide +kernel) rfl
theorem tw692 : Cond.instanceMethod yX0_hasEdge ∈ TG := tg_mem 692 (by decide +kernel) rfl
theorem tw693 : Cond.selects RX0 yX0_hasEdge yX0_hasEdge ∈ TG := tg_mem 693 (by decide +kernel) rfl
theorem kX8_289 : cVw RX8 289 0 mX0_hasEdge 1 := ⟨⟨rfl, List.forall_mem_cons.mpr ⟨tw691, List.forall_mem_cons.mpr ⟨tcX0_hasEdge, List.forall_mem_cons.mpr ⟨tw81, fun _ h => nomatch h⟩⟩⟩, ⟨by decide +kernel, by decide +kernel, by decide +kernel⟩⟩, List.forall_mem_cons.mpr ⟨tw692, List.forall_mem_cons.mpr ⟨tw693, fun _ h => nomatch h⟩⟩, ⟨_, _, _, rfl, rfl⟩⟩
theorem tw906 : Cond.methodLink RX8 299 yX7_countPath ∈ TG := tg_mem 906 (by decide +kernel) rfl
theorem tw907 : Cond.instanceMethod yX7_countPath ∈ TG := tg_mem 907 (by decide +kernel) rfl
theorem tw908 : Cond.selects RX7 yX7_countPath yX7_countPath ∈ TG := tg_mem 908 (by decide +kernel) rfl
theorem kX8_299 : cVw RX8 299 7 mX7_countPath 0 := ⟨⟨rfl, List.forall_mem_cons.mpr ⟨tw906, List.forall_mem_cons.mpr ⟨tcX7_countPath, List.forall_mem_cons.mpr ⟨tw88, fun _ h => nomatch h⟩⟩⟩, ⟨by decide +kernel, by decide +kernel, by decide +kernel⟩⟩, List.forall_mem_cons.mpr ⟨tw907, List.forall_mem_cons.mpr ⟨tw908, fun _ h => nomatch h⟩⟩, ⟨_, _, _, rfl, rfl⟩⟩
theorem tw558 : Cond.methodLink RX8 310 yX8_mixLink ∈ TG := tg_mem 558 (by decide +kernel) rfl
theorem tw560 : Cond.instanceMethod yX8_mixLink ∈ TG := tg_mem 560 (by decide +kernel) rfl
theorem tw23 : Cond.selects RX8 yX8_mixLink yX8_mixLink ∈ TG := tg_mem 23 (by decide +kernel) rfl
theorem kX8_310 : cVw RX8 310 8 mX8_mixLink 2 := ⟨⟨rfl, List.forall_mem_cons.mpr ⟨tw558, List.forall_mem_cons.mpr ⟨tcX8_mixLink, List.forall_mem_cons.mpr ⟨tw80, fun _ h => nomatch h⟩⟩⟩, ⟨by decide +kernel, by decide +kernel, by decide +kernel⟩⟩, List.forall_mem_cons.mpr ⟨tw560, List.forall_mem_cons.mpr ⟨tw23, fun _ h => nomatch h⟩⟩, ⟨_, _, _, rfl, rfl⟩⟩
theorem tw940 : Cond.methodLink RX9 1 Lib.objectInit ∈ TG := tg_mem 940 (by decide +kernel) rfl
theorem oX9_1 : ∀ w ∈ ([.methodLink RX9 1 Lib.objectInit, .instanceMethod Lib.objectInit, .code Lib.objectInit ⟨#[0xb1]⟩ 1 none] : List Cond), w ∈ TG := List.forall_mem_cons.mpr ⟨tw940, List.forall_mem_cons.mpr ⟨tw102, List.forall_mem_cons.mpr ⟨tw103, fun _ h => nomatch h⟩⟩⟩
theorem tw1061 : Cond.methodLink RX9 97 yX9_within ∈ TG := tg_mem 1061 (by decide +kernel) rfl
theorem tw1062 : Cond.static yX9_within ∈ TG := tg_mem 1062 (by decide +kernel) rfl
theorem kX9_97 : cSw RX9 97 mX9_within 3 := ⟨⟨rfl, List.forall_mem_cons.mpr ⟨tw1061, List.forall_mem_cons.mpr ⟨tcX9_within, List.forall_mem_cons.mpr ⟨tw89, fun _ h => nomatch h⟩⟩⟩, ⟨by decide +kernel, by decide +kernel, by decide +kernel⟩⟩, tw1062⟩
theorem tw1064 : Cond.methodLink RX9 104 yX9_discard ∈ TG := tg_mem 1064 (by decide +kernel) rfl
theorem tw1066 : Cond.instanceMethod yX9_discard ∈ TG := tg_mem 1066 (by decide +kernel) rfl
theorem tw35 : Cond.selects RX9 yX9_discard yX9_discard ∈ TG := tg_mem 35 (by decide +kernel) rfl
theorem kX9_104 : cVw RX9 104 9 mX9_discard 0 := ⟨⟨rfl, List.forall_mem_cons.mpr ⟨tw1064, List.forall_mem_cons.mpr ⟨tcX9_discard, List.forall_mem_cons.mpr ⟨tw89, fun _ h => nomatch h⟩⟩⟩, ⟨by decide +kernel, by decide +kernel, by decide +kernel⟩⟩, List.forall_mem_cons.mpr ⟨tw1066, List.forall_mem_cons.mpr ⟨tw35, fun _ h => nomatch h⟩⟩, ⟨_, _, _, rfl, rfl⟩⟩
theorem tw1072 : Cond.methodLink RX9 107 yX9_isNode ∈ TG := tg_mem 1072 (by decide +kernel) rfl
theorem tw1074 : Cond.instanceMethod yX9_isNode ∈ TG := tg_mem 1074 (by decide +kernel) rfl
theorem tw36 : Cond.selects RX9 yX9_isNode yX9_isNode ∈ TG := tg_mem 36 (by decide +kernel) rfl
theorem kX9_107 : cVw RX9 107 9 mX9_isNode 1 := ⟨⟨rfl, List.forall_mem_cons.mpr ⟨tw1072, List.forall_mem_cons.mpr ⟨tcX9_isNode, List.forall_mem_cons.mpr ⟨tw89, fun _ h => nomatch h⟩⟩⟩, ⟨by decide +kernel, by decide +kernel, by decide +kernel⟩⟩, List.forall_mem_cons.mpr ⟨tw1074, List.forall_mem_cons.mpr ⟨tw36, fun _ h => nomatch h⟩⟩, ⟨_, _, _, rfl, rfl⟩⟩
theorem tw1076 : Cond.methodLink RX9 111 yX9_edgeBetween ∈ TG := tg_mem 1076 (by decide +kernel) rfl
theorem tw1078 : Cond.instanceMethod yX9_edgeBetween ∈ TG := tg_mem 1078 (by decide +kernel) rfl
theorem tw37 : Cond.selects RX9 yX9_edgeBetween yX9_edgeBetween ∈ TG := tg_mem 37 (by decide +kernel) rfl
theorem kX9_111 : cVw RX9 111 9 mX9_edgeBetween 2 := ⟨⟨rfl, List.forall_mem_cons.mpr ⟨tw1076, List.forall_mem_cons.mpr ⟨tcX9_edgeBetween, List.forall_mem_cons.mpr ⟨tw89, fun _ h => nomatch h⟩⟩⟩, ⟨by decide +kernel, by decide +kernel, by decide +kernel⟩⟩, List.forall_mem_cons.mpr ⟨tw1078, List.forall_mem_cons.mpr ⟨tw37, fun _ h => nomatch h⟩⟩, ⟨_, _, _, rfl, rfl⟩⟩
theorem tw1080 : Cond.methodLink RX9 115 yX9_put ∈ TG := tg_mem 1080 (by decide +kernel) rfl
theorem tw1082 : Cond.instanceMethod yX9_put ∈ TG := tg_mem 1082 (by decide +kernel) rfl
theorem tw38 : Cond.selects RX9 yX9_put yX9_put ∈ TG := tg_mem 38 (by decide +kernel) rfl
theorem kX9_115 : cVw RX9 115 9 mX9_put 2 := ⟨⟨rfl, List.forall_mem_cons.mpr ⟨tw1080, List.forall_mem_cons.mpr ⟨tcX9_put, List.forall_mem_cons.mpr ⟨tw89, fun _ h => nomatch h⟩⟩⟩, ⟨by decide +kernel, by decide +kernel, by decide +kernel⟩⟩, List.forall_mem_cons.mpr ⟨tw1082, List.forall_mem_cons.mpr ⟨tw38, fun _ h => nomatch h⟩⟩, ⟨_, _, _, rfl, rfl⟩⟩
theorem tw1088 : Cond.methodLink RX9 119 yX9_isEdge ∈ TG := tg_mem 1088 (by decide +kernel) rfl
theorem tw1090 : Cond.instanceMethod yX9_isEdge ∈ TG := tg_mem 1090 (by decide +kernel) rfl
theorem tw39 : Cond.selects RX9 yX9_isEdge yX9_isEdge ∈ TG := tg_mem 39 (by decide +kernel) rfl
theorem kX9_119 : cVw RX9 119 9 mX9_isEdge 1 := ⟨⟨rfl, List.forall_mem_cons.mpr ⟨tw1088, List.forall_mem_cons.mpr ⟨tcX9_isEdge, List.forall_mem_cons.mpr ⟨tw89, fun _ h => nomatch h⟩⟩⟩, ⟨by decide +kernel, by decide +kernel, by decide +kernel⟩⟩, List.forall_mem_cons.mpr ⟨tw1090, List.forall_mem_cons.mpr ⟨tw39, fun _ h => nomatch h⟩⟩, ⟨_, _, _, rfl, rfl⟩⟩
theorem tw1116 : Cond.methodLink RX9 134 yX9_isNew ∈ TG := tg_mem 1116 (by decide +kernel) rfl
theorem tw1118 : Cond.instanceMethod yX9_isNew ∈ TG := tg_mem 1118 (by decide +kernel) rfl
theorem tw42 : Cond.selects RX9 yX9_isNew yX9_isNew ∈ TG := tg_mem 42 (by decide +kernel) rfl
theorem kX9_134 : cVw RX9 134 9 mX9_isNew 0 := ⟨⟨rfl, List.forall_mem_cons.mpr ⟨tw1116, List.forall_mem_cons.mpr ⟨tcX9_isNew, List.forall_mem_cons.mpr ⟨tw89, fun _ h => nomatch h⟩⟩⟩, ⟨by decide +kernel, by decide +kernel, by decide +kernel⟩⟩, List.forall_mem_cons.mpr ⟨tw1118, List.forall_mem_cons.mpr ⟨tw42, fun _ h => nomatch h⟩⟩, ⟨_, _, _, rfl, rfl⟩⟩
theorem tw1112 : Cond.methodLink RX9 138 yX9_takes ∈ TG := tg_mem 1112 (by decide +kernel) rfl
theorem tw1114 : Cond.instanceMethod yX9_takes ∈ TG := tg_mem 1114 (by decide +kernel) rfl
theorem tw41 : Cond.selects RX9 yX9_takes yX9_takes ∈ TG := tg_mem 41 (by decide +kernel) rfl
theorem kX9_138 : cVw RX9 138 9 mX9_takes 1 := ⟨⟨rfl, List.forall_mem_cons.mpr ⟨tw1112, List.forall_mem_cons.mpr ⟨tcX9_takes, List.forall_mem_cons.mpr ⟨tw89, fun _ h => nomatch h⟩⟩⟩, ⟨by decide +kernel, by decide +kernel, by decide +kernel⟩⟩, List.forall_mem_cons.mpr ⟨tw1114, List.forall_mem_cons.mpr ⟨tw41, fun _ h => nomatch h⟩⟩, ⟨_, _, _, rfl, rfl⟩⟩
theorem tw1108 : Cond.methodLink RX9 141 yX9_rightLength ∈ TG := tg_mem 1108 (by decide +kernel) rfl
theorem tw1110 : Cond.instanceMethod yX9_rightLength ∈ TG := tg_mem 1110 (by decide +kernel) rfl
theorem tw40 : Cond.selects RX9 yX9_rightLength yX9_rightLength ∈ TG := tg_mem 40 (by decide +kernel) rfl
theorem kX9_141 : cVw RX9 141 9 mX9_rightLength 0 := ⟨⟨rfl, List.forall_mem_cons.mpr ⟨tw1108, List.forall_mem_cons.mpr ⟨tcX9_rightLength, List.forall_mem_cons.mpr ⟨tw89, fun _ h => nomatch h⟩⟩⟩, ⟨by decide +kernel, by decide +kernel, by decide +kernel⟩⟩, List.forall_mem_cons.mpr ⟨tw1110, List.forall_mem_cons.mpr ⟨tw40, fun _ h => nomatch h⟩⟩, ⟨_, _, _, rfl, rfl⟩⟩
theorem tw1144 : Cond.methodLink RX9 148 yX9_isLink ∈ TG := tg_mem 1144 (by decide +kernel) rfl
theorem tw1146 : Cond.instanceMethod yX9_isLink ∈ TG := tg_mem 1146 (by decide +kernel) rfl
theorem tw47 : Cond.selects RX9 yX9_isLink yX9_isLink ∈ TG := tg_mem 47 (by decide +kernel) rfl
theorem kX9_148 : cVw RX9 148 9 mX9_isLink 1 := ⟨⟨rfl, List.forall_mem_cons.mpr ⟨tw1144, List.forall_mem_cons.mpr ⟨tcX9_isLink, List.forall_mem_cons.mpr ⟨tw89, fun _ h => nomatch h⟩⟩⟩, ⟨by decide +kernel, by decide +kernel, by decide +kernel⟩⟩, List.forall_mem_cons.mpr ⟨tw1146, List.forall_mem_cons.mpr ⟨tw47, fun _ h => nomatch h⟩⟩, ⟨_, _, _, rfl, rfl⟩⟩
theorem tw1148 : Cond.methodLink RX9 151 yX9_linkFrom ∈ TG := tg_mem 1148 (by decide +kernel) rfl
theorem tw1150 : Cond.instanceMethod yX9_linkFrom ∈ TG := tg_mem 1150 (by decide +kernel) rfl
theorem tw48 : Cond.selects RX9 yX9_linkFrom yX9_linkFrom ∈ TG := tg_mem 48 (by decide +kernel) rfl
theorem kX9_151 : cVw RX9 151 9 mX9_linkFrom 1 := ⟨⟨rfl, List.forall_mem_cons.mpr ⟨tw1148, List.forall_mem_cons.mpr ⟨tcX9_linkFrom, List.forall_mem_cons.mpr ⟨tw89, fun _ h => nomatch h⟩⟩⟩, ⟨by decide +kernel, by decide +kernel, by decide +kernel⟩⟩, List.forall_mem_cons.mpr ⟨tw1150, List.forall_mem_cons.mpr ⟨tw48, fun _ h => nomatch h⟩⟩, ⟨_, _, _, rfl, rfl⟩⟩
theorem tw1152 : Cond.methodLink RX9 155 yX9_comesBefore ∈ TG := tg_mem 1152 (by decide +kernel) rfl
theorem tw1154 : Cond.instanceMethod yX9_comesBefore ∈ TG := tg_mem 1154 (by decide +kernel) rfl
theorem tw49 : Cond.selects RX9 yX9_comesBefore yX9_comesBefore ∈ TG := tg_mem 49 (by decide +kernel) rfl
theorem kX9_155 : cVw RX9 155 9 mX9_comesBefore 2 := ⟨⟨rfl, List.forall_mem_cons.mpr ⟨tw1152, List.forall_mem_cons.mpr ⟨tcX9_comesBefore, List.forall_mem_cons.mpr ⟨tw89, fun _ h => nomatch h⟩⟩⟩, ⟨by decide +kernel, by decide +kernel, by decide +kernel⟩⟩, List.forall_mem_cons.mpr ⟨tw1154, List.forall_mem_cons.mpr ⟨tw49, fun _ h => nomatch h⟩⟩, ⟨_, _, _, rfl, rfl⟩⟩
theorem tw1156 : Cond.methodLink RX9 159 yX9_kind ∈ TG := tg_mem 1156 (by decide +kernel) rfl
theorem tw1158 : Cond.instanceMethod yX9_kind ∈ TG := tg_mem 1158 (by decide +kernel) rfl
theorem tw50 : Cond.selects RX9 yX9_kind yX9_kind ∈ TG := tg_mem 50 (by decide +kernel) rfl
theorem kX9_159 : cVw RX9 159 9 mX9_kind 1 := ⟨⟨rfl, List.forall_mem_cons.mpr ⟨tw1156, List.forall_mem_cons.mpr ⟨tcX9_kind, List.forall_mem_cons.mpr ⟨tw89, fun _ h => nomatch h⟩⟩⟩, ⟨by decide +kernel, by decide +kernel, by decide +kernel⟩⟩, List.forall_mem_cons.mpr ⟨tw1158, List.forall_mem_cons.mpr ⟨tw50, fun _ h => nomatch h⟩⟩, ⟨_, _, _, rfl, rfl⟩⟩
theorem tw1140 : Cond.methodLink RX9 162 yX9_linkBehind ∈ TG := tg_mem 1140 (by decide +kernel) rfl
theorem tw1142 : Cond.instanceMethod yX9_linkBehind ∈ TG := tg_mem 1142 (by decide +kernel) rfl
theorem tw46 : Cond.selects RX9 yX9_linkBehind yX9_linkBehind ∈ TG := tg_mem 46 (by decide +kernel) rfl
theorem kX9_162 : cVw RX9 162 9 mX9_linkBehind 2 := ⟨⟨rfl, List.forall_mem_cons.mpr ⟨tw1140, List.forall_mem_cons.mpr ⟨tcX9_linkBehind, List.forall_mem_cons.mpr ⟨tw89, fun _ h => nomatch h⟩⟩⟩, ⟨by decide +kernel, by decide +kernel, by decide +kernel⟩⟩, List.forall_mem_cons.mpr ⟨tw1142, List.forall_mem_cons.mpr ⟨tw46, fun _ h => nomatch h⟩⟩, ⟨_, _, _, rfl, rfl⟩⟩
theorem tw1160 : Cond.methodLink RX9 165 yX9_linkTo ∈ TG := tg_mem 1160 (by decide +kernel) rfl
theorem tw1162 : Cond.instanceMethod yX9_linkTo ∈ TG := tg_mem 1162 (by decide +kernel) rfl
theorem tw51 : Cond.selects RX9 yX9_linkTo yX9_linkTo ∈ TG := tg_mem 51 (by decide +kernel) rfl
theorem kX9_165 : cVw RX9 165 9 mX9_linkTo 1 := ⟨⟨rfl, List.forall_mem_cons.mpr ⟨tw1160, List.forall_mem_cons.mpr ⟨tcX9_linkTo, List.forall_mem_cons.mpr ⟨tw89, fun _ h => nomatch h⟩⟩⟩, ⟨by decide +kernel, by decide +kernel, by decide +kernel⟩⟩, List.forall_mem_cons.mpr ⟨tw1162, List.forall_mem_cons.mpr ⟨tw51, fun _ h => nomatch h⟩⟩, ⟨_, _, _, rfl, rfl⟩⟩
theorem tw1168 : Cond.methodLink RX9 168 yX9_join ∈ TG := tg_mem 1168 (by decide +kernel) rfl
theorem tw1170 : Cond.instanceMethod yX9_join ∈ TG := tg_mem 1170 (by decide +kernel) rfl
theorem tw53 : Cond.selects RX9 yX9_join yX9_join ∈ TG := tg_mem 53 (by decide +kernel) rfl
theorem kX9_168 : cVw RX9 168 9 mX9_join 2 := ⟨⟨rfl, List.forall_mem_cons.mpr ⟨tw1168, List.forall_mem_cons.mpr ⟨tcX9_join, List.forall_mem_cons.mpr ⟨tw89, fun _ h => nomatch h⟩⟩⟩, ⟨by decide +kernel, by decide +kernel, by decide +kernel⟩⟩, List.forall_mem_cons.mpr ⟨tw1170, List.forall_mem_cons.mpr ⟨tw53, fun _ h => nomatch h⟩⟩, ⟨_, _, _, rfl, rfl⟩⟩
theorem tw1172 : Cond.methodLink RX9 171 yX9_heaviest ∈ TG := tg_mem 1172 (by decide +kernel) rfl
theorem tw1174 : Cond.instanceMethod yX9_heaviest ∈ TG := tg_mem 1174 (by decide +kernel) rfl
theorem tw54 : Cond.selects RX9 yX9_heaviest yX9_heaviest ∈ TG := tg_mem 54 (by decide +kernel) rfl
theorem kX9_171 : cVw RX9 171 9 mX9_heaviest 0 := ⟨⟨rfl, List.forall_mem_cons.mpr ⟨tw1172, List.forall_mem_cons.mpr ⟨tcX9_heaviest, List.forall_mem_cons.mpr ⟨tw89, fun _ h => nomatch h⟩⟩⟩, ⟨by decide +kernel, by decide +kernel, by decide +kernel⟩⟩, List.forall_mem_cons.mpr ⟨tw1174, List.forall_mem_cons.mpr ⟨tw54, fun _ h => nomatch h⟩⟩, ⟨_, _, _, rfl, rfl⟩⟩
theorem tw1176 : Cond.methodLink RX9 174 yX9_isHeavier ∈ TG := tg_mem 1176 (by decide +kernel) rfl
theorem tw1178 : Cond.instanceMethod yX9_isHeavier ∈ TG := tg_mem 1178 (by decide +kernel) rfl
theorem tw55 : Cond.selects RX9 yX9_isHeavier yX9_isHeavier ∈ TG := tg_mem 55 (by decide +kernel) rfl
theorem kX9_174 : cVw RX9 174 9 mX9_isHeavier 2 := ⟨⟨rfl, List.forall_mem_cons.mpr ⟨tw1176, List.forall_mem_cons.mpr ⟨tcX9_isHeavier, List.forall_mem_cons.mpr ⟨tw89, fun _ h => nomatch h⟩⟩⟩, ⟨by decide +kernel, by decide +kernel, by decide +kernel⟩⟩, List.forall_mem_cons.mpr ⟨tw1178, List.forall_mem_cons.mpr ⟨tw55, fun _ h => nomatch h⟩⟩, ⟨_, _, _, rfl, rfl⟩⟩
theorem tw1128 : Cond.methodLink RX9 177 yX9_search ∈ TG := tg_mem 1128 (by decide +kernel) rfl
theorem tw1130 : Cond.instanceMethod yX9_search ∈ TG := tg_mem 1130 (by decide +kernel) rfl
theorem tw43 : Cond.selects RX9 yX9_search yX9_search ∈ TG := tg_mem 43 (by decide +kernel) rfl
theorem kX9_177 : cVw RX9 177 9 mX9_search 0 := ⟨⟨rfl, List.forall_mem_cons.mpr ⟨tw1128, List.forall_mem_cons.mpr ⟨tcX9_search, List.forall_mem_cons.mpr ⟨tw89, fun _ h => nomatch h⟩⟩⟩, ⟨by decide +kernel, by decide +kernel, by decide +kernel⟩⟩, List.forall_mem_cons.mpr ⟨tw1130, List.forall_mem_cons.mpr ⟨tw43, fun _ h => nomatch h⟩⟩, ⟨_, _, _, rfl, rfl⟩⟩
theorem tw1132 : Cond.methodLink RX9 180 yX9_allEnd ∈ TG := tg_mem 1132 (by decide +kernel) rfl
theorem tw1134 : Cond.instanceMethod yX9_allEnd ∈ TG := tg_mem 1134 (by decide +kernel) rfl
theorem tw44 : Cond.selects RX9 yX9_allEnd yX9_allEnd ∈ TG := tg_mem 44 (by decide +kernel) rfl
theorem kX9_180 : cVw RX9 180 9 mX9_allEnd 0 := ⟨⟨rfl, List.forall_mem_cons.mpr ⟨tw1132, List.forall_mem_cons.mpr ⟨tcX9_allEnd, List.forall_mem_cons.mpr ⟨tw89, fun _ h => nomatch h⟩⟩⟩, ⟨by decide +kernel, by decide +kernel, by decide +kernel⟩⟩, List.forall_mem_cons.mpr ⟨tw1134, List.forall_mem_cons.mpr ⟨tw44, fun _ h => nomatch h⟩⟩, ⟨_, _, _, rfl, rfl⟩⟩
theorem tw1136 : Cond.methodLink RX9 183 yX9_number ∈ TG := tg_mem 1136 (by decide +kernel) rfl
theorem tw1138 : Cond.instanceMethod yX9_number ∈ TG := tg_mem 1138 (by decide +kernel) rfl
theorem tw45 : Cond.selects RX9 yX9_number yX9_number ∈ TG := tg_mem 45 (by decide +kernel) rfl
theorem kX9_183 : cVw RX9 183 9 mX9_number 0 := ⟨⟨rfl, List.forall_mem_cons.mpr ⟨tw1136, List.forall_mem_cons.mpr ⟨tcX9_number, List.forall_mem_cons.mpr ⟨tw89, fun _ h => nomatch h⟩⟩⟩, ⟨by decide +kernel, by decide +kernel, by decide +kernel⟩⟩, List.forall_mem_cons.mpr ⟨tw1138, List.forall_mem_cons.mpr ⟨tw45, fun _ h => nomatch h⟩⟩, ⟨_, _, _, rfl, rfl⟩⟩
theorem tw1164 : Cond.methodLink RX9 186 yX9_growTree ∈ TG := tg_mem 1164 (by decide +kernel) rfl
theorem tw1166 : Cond.instanceMethod yX9_growTree ∈ TG := tg_mem 1166 (by decide +kernel) rfl
theorem tw52 : Cond.selects RX9 yX9_growTree yX9_growTree ∈ TG := tg_mem 52 (by decide +kernel) rfl
theorem kX9_186 : cVw RX9 186 9 mX9_growTree 0 := ⟨⟨rfl, List.forall_mem_cons.mpr ⟨tw1164, List.forall_mem_cons.mpr ⟨tcX9_growTree, List.forall_mem_cons.mpr ⟨tw89, fun _ h => nomatch h⟩⟩⟩, ⟨by decide +kernel, by decide +kernel, by decide +kernel⟩⟩, List.forall_mem_cons.mpr ⟨tw1166, List.forall_mem_cons.mpr ⟨tw52, fun _ h => nomatch h⟩⟩, ⟨_, _, _, rfl, rfl⟩⟩
theorem tw1180 : Cond.methodLink RX9 189 yX9_layPotentials ∈ TG := tg_mem 1180 (by decide +kernel) rfl
theorem tw1182 : Cond.instanceMethod yX9_layPotentials ∈ TG := tg_mem 1182 (by decide +kernel) rfl
theorem tw56 : Cond.selects RX9 yX9_layPotentials yX9_layPotentials ∈ TG := tg_mem 56 (by decide +kernel) rfl
theorem kX9_189 : cVw RX9 189 9 mX9_layPotentials 0 := ⟨⟨rfl, List.forall_mem_cons.mpr ⟨tw1180, List.forall_mem_cons.mpr ⟨tcX9_layPotentials, List.forall_mem_cons.mpr ⟨tw89, fun _ h => nomatch h⟩⟩⟩, ⟨by decide +kernel, by decide +kernel, by decide +kernel⟩⟩, List.forall_mem_cons.mpr ⟨tw1182, List.forall_mem_cons.mpr ⟨tw56, fun _ h => nomatch h⟩⟩, ⟨_, _, _, rfl, rfl⟩⟩
theorem tw1188 : Cond.methodLink RX9 192 yX9_lack ∈ TG := tg_mem 1188 (by decide +kernel) rfl
theorem tw1190 : Cond.instanceMethod yX9_lack ∈ TG := tg_mem 1190 (by decide +kernel) rfl
theorem tw57 : Cond.selects RX9 yX9_lack yX9_lack ∈ TG := tg_mem 57 (by decide +kernel) rfl
theorem kX9_192 : cVw RX9 192 9 mX9_lack 1 := ⟨⟨rfl, List.forall_mem_cons.mpr ⟨tw1188, List.forall_mem_cons.mpr ⟨tcX9_lack, List.forall_mem_cons.mpr ⟨tw89, fun _ h => nomatch h⟩⟩⟩, ⟨by decide +kernel, by decide +kernel, by decide +kernel⟩⟩, List.forall_mem_cons.mpr ⟨tw1190, List.forall_mem_cons.mpr ⟨tw57, fun _ h => nomatch h⟩⟩, ⟨_, _, _, rfl, rfl⟩⟩
theorem tw1200 : Cond.methodLink RX9 196 yX9_linkOf ∈ TG := tg_mem 1200 (by decide +kernel) rfl
theorem tw1202 : Cond.instanceMethod yX9_linkOf ∈ TG := tg_mem 1202 (by decide +kernel) rfl
theorem tw58 : Cond.selects RX9 yX9_linkOf yX9_linkOf ∈ TG := tg_mem 58 (by decide +kernel) rfl
theorem kX9_196 : cVw RX9 196 9 mX9_linkOf 2 := ⟨⟨rfl, List.forall_mem_cons.mpr ⟨tw1200, List.forall_mem_cons.mpr ⟨tcX9_linkOf, List.forall_mem_cons.mpr ⟨tw89, fun _ h => nomatch h⟩⟩⟩, ⟨by decide +kernel, by decide +kernel, by decide +kernel⟩⟩, List.forall_mem_cons.mpr ⟨tw1202, List.forall_mem_cons.mpr ⟨tw58, fun _ h => nomatch h⟩⟩, ⟨_, _, _, rfl, rfl⟩⟩
theorem tw1212 : Cond.methodLink RX9 200 yX9_chordSum ∈ TG := tg_mem 1212 (by decide +kernel) rfl
theorem tw1214 : Cond.instanceMethod yX9_chordSum ∈ TG := tg_mem 1214 (by decide +kernel) rfl
theorem tw59 : Cond.selects RX9 yX9_chordSum yX9_chordSum ∈ TG := tg_mem 59 (by decide +kernel) rfl
theorem kX9_200 : cVw RX9 200 9 mX9_chordSum 1 := ⟨⟨rfl, List.forall_mem_cons.mpr ⟨tw1212, List.forall_mem_cons.mpr ⟨tcX9_chordSum, List.forall_mem_cons.mpr ⟨tw89, fun _ h => nomatch h⟩⟩⟩, ⟨by decide +kernel, by decide +kernel, by decide +kernel⟩⟩, List.forall_mem_cons.mpr ⟨tw1214, List.forall_mem_cons.mpr ⟨tw59, fun _ h => nomatch h⟩⟩, ⟨_, _, _, rfl, rfl⟩⟩
theorem tw1236 : Cond.methodLink RX9 206 yX9_beginsInside ∈ TG := tg_mem 1236 (by decide +kernel) rfl
theorem tw1238 : Cond.instanceMethod yX9_beginsInside ∈ TG := tg_mem 1238 (by decide +kernel) rfl
theorem tw64 : Cond.selects RX9 yX9_beginsInside yX9_beginsInside ∈ TG := tg_mem 64 (by decide +kernel) rfl
theorem kX9_206 : cVw RX9 206 9 mX9_beginsInside 0 := ⟨⟨rfl, List.forall_mem_cons.mpr ⟨tw1236, List.forall_mem_cons.mpr ⟨tcX9_beginsInside, List.forall_mem_cons.mpr ⟨tw89, fun _ h => nomatch h⟩⟩⟩, ⟨by decide +kernel, by decide +kernel, by decide +kernel⟩⟩, List.forall_mem_cons.mpr ⟨tw1238, List.forall_mem_cons.mpr ⟨tw64, fun _ h => nomatch h⟩⟩, ⟨_, _, _, rfl, rfl⟩⟩
theorem tw1240 : Cond.methodLink RX9 209 yX9_endsInside ∈ TG := tg_mem 1240 (by decide +kernel) rfl
theorem tw1242 : Cond.instanceMethod yX9_endsInside ∈ TG := tg_mem 1242 (by decide +kernel) rfl
theorem tw65 : Cond.selects RX9 yX9_endsInside yX9_endsInside ∈ TG := tg_mem 65 (by decide +kernel) rfl
theorem kX9_209 : cVw RX9 209 9 mX9_endsInside 0 := ⟨⟨rfl, List.forall_mem_cons.mpr ⟨tw1240, List.forall_mem_cons.mpr ⟨tcX9_endsInside, List.forall_mem_cons.mpr ⟨tw89, fun _ h => nomatch h⟩⟩⟩, ⟨by decide +kernel, by decide +kernel, by decide +kernel⟩⟩, List.forall_mem_cons.mpr ⟨tw1242, List.forall_mem_cons.mpr ⟨tw65, fun _ h => nomatch h⟩⟩, ⟨_, _, _, rfl, rfl⟩⟩
theorem tw1228 : Cond.methodLink RX9 212 yX9_follow ∈ TG := tg_mem 1228 (by decide +kernel) rfl
theorem tw1230 : Cond.instanceMethod yX9_follow ∈ TG := tg_mem 1230 (by decide +kernel) rfl
theorem tw62 : Cond.selects RX9 yX9_follow yX9_follow ∈ TG := tg_mem 62 (by decide +kernel) rfl
theorem kX9_212 : cVw RX9 212 9 mX9_follow 1 := ⟨⟨rfl, List.forall_mem_cons.mpr ⟨tw1228, List.forall_mem_cons.mpr ⟨tcX9_follow, List.forall_mem_cons.mpr ⟨tw89, fun _ h => nomatch h⟩⟩⟩, ⟨by decide +kernel, by decide +kernel, by decide +kernel⟩⟩, List.forall_mem_cons.mpr ⟨tw1230, List.forall_mem_cons.mpr ⟨tw62, fun _ h => nomatch h⟩⟩, ⟨_, _, _, rfl, rfl⟩⟩
theorem tw1232 : Cond.methodLink RX9 216 yX9_visited ∈ TG := tg_mem 1232 (by decide +kernel) rfl
theorem tw1234 : Cond.instanceMethod yX9_visited ∈ TG := tg_mem 1234 (by decide +kernel) rfl
theorem tw63 : Cond.selects RX9 yX9_visited yX9_visited ∈ TG := tg_mem 63 (by decide +kernel) rfl
theorem kX9_216 : cVw RX9 216 9 mX9_visited 0 := ⟨⟨rfl, List.forall_mem_cons.mpr ⟨tw1232, List.forall_mem_cons.mpr ⟨tcX9_visited, List.forall_mem_cons.mpr ⟨tw89, fun _ h => nomatch h⟩⟩⟩, ⟨by decide +kernel, by decide +kernel, by decide +kernel⟩⟩, List.forall_mem_cons.mpr ⟨tw1234, List.forall_mem_cons.mpr ⟨tw63, fun _ h => nomatch h⟩⟩, ⟨_, _, _, rfl, rfl⟩⟩
theorem tw1220 : Cond.methodLink RX9 219 yX9_isPath ∈ TG := tg_mem 1220 (by decide +kernel) rfl
theorem tw1222 : Cond.instanceMethod yX9_isPath ∈ TG := tg_mem 1222 (by decide +kernel) rfl
theorem tw60 : Cond.selects RX9 yX9_isPath yX9_isPath ∈ TG := tg_mem 60 (by decide +kernel) rfl
theorem kX9_219 : cVw RX9 219 9 mX9_isPath 1 := ⟨⟨rfl, List.forall_mem_cons.mpr ⟨tw1220, List.forall_mem_cons.mpr ⟨tcX9_isPath, List.forall_mem_cons.mpr ⟨tw89, fun _ h => nomatch h⟩⟩⟩, ⟨by decide +kernel, by decide +kernel, by decide +kernel⟩⟩, List.forall_mem_cons.mpr ⟨tw1222, List.forall_mem_cons.mpr ⟨tw60, fun _ h => nomatch h⟩⟩, ⟨_, _, _, rfl, rfl⟩⟩
theorem tw1224 : Cond.methodLink RX9 222 yX9_lengthNow ∈ TG := tg_mem 1224 (by decide +kernel) rfl
theorem tw1226 : Cond.instanceMethod yX9_lengthNow ∈ TG := tg_mem 1226 (by decide +kernel) rfl
theorem tw61 : Cond.selects RX9 yX9_lengthNow yX9_lengthNow ∈ TG := tg_mem 61 (by decide +kernel) rfl
theorem kX9_222 : cVw RX9 222 9 mX9_lengthNow 1 := ⟨⟨rfl, List.forall_mem_cons.mpr ⟨tw1224, List.forall_mem_cons.mpr ⟨tcX9_lengthNow, List.forall_mem_cons.mpr ⟨tw89, fun _ h => nomatch h⟩⟩⟩, ⟨by decide +kernel, by decide +kernel, by decide +kernel⟩⟩, List.forall_mem_cons.mpr ⟨tw1226, List.forall_mem_cons.mpr ⟨tw61, fun _ h => nomatch h⟩⟩, ⟨_, _, _, rfl, rfl⟩⟩
theorem tw1248 : Cond.methodLink RX9 225 yX9_visitedNode ∈ TG := tg_mem 1248 (by decide +kernel) rfl
theorem tw1250 : Cond.instanceMethod yX9_visitedNode ∈ TG := tg_mem 1250 (by decide +kernel) rfl
theorem tw66 : Cond.selects RX9 yX9_visitedNode yX9_visitedNode ∈ TG := tg_mem 66 (by decide +kernel) rfl
theorem kX9_225 : cVw RX9 225 9 mX9_visitedNode 1 := ⟨⟨rfl, List.forall_mem_cons.mpr ⟨tw1248, List.forall_mem_cons.mpr ⟨tcX9_visitedNode, List.forall_mem_cons.mpr ⟨tw89, fun _ h => nomatch h⟩⟩⟩, ⟨by decide +kernel, by decide +kernel, by decide +kernel⟩⟩, List.forall_mem_cons.mpr ⟨tw1250, List.forall_mem_cons.mpr ⟨tw66, fun _ h => nomatch h⟩⟩, ⟨_, _, _, rfl, rfl⟩⟩
theorem tw1256 : Cond.methodLink RX9 228 yX9_edgeNow ∈ TG := tg_mem 1256 (by decide +kernel) rfl
theorem tw1258 : Cond.instanceMethod yX9_edgeNow ∈ TG := tg_mem 1258 (by decide +kernel) rfl
theorem tw67 : Cond.selects RX9 yX9_edgeNow yX9_edgeNow ∈ TG := tg_mem 67 (by decide +kernel) rfl
theorem kX9_228 : cVw RX9 228 9 mX9_edgeNow 2 := ⟨⟨rfl, List.forall_mem_cons.mpr ⟨tw1256, List.forall_mem_cons.mpr ⟨tcX9_edgeNow, List.forall_mem_cons.mpr ⟨tw89, fun _ h => nomatch h⟩⟩⟩, ⟨by decide +kernel, by decide +kernel, by decide +kernel⟩⟩, List.forall_mem_cons.mpr ⟨tw1258, List.forall_mem_cons.mpr ⟨tw67, fun _ h => nomatch h⟩⟩, ⟨_, _, _, rfl, rfl⟩⟩
theorem tw1268 : Cond.methodLink RX9 231 yX9_leastValue ∈ TG := tg_mem 1268 (by decide +kernel) rfl
theorem tw1270 : Cond.instanceMethod yX9_leastValue ∈ TG := tg_mem 1270 (by decide +kernel) rfl
theorem tw69 : Cond.selects RX9 yX9_leastValue yX9_leastValue ∈ TG := tg_mem 69 (by decide +kernel) rfl
theorem kX9_231 : cVw RX9 231 9 mX9_leastValue 2 := ⟨⟨rfl, List.forall_mem_cons.mpr ⟨tw1268, List.forall_mem_cons.mpr ⟨tcX9_leastValue, List.forall_mem_cons.mpr ⟨tw89, fun _ h => nomatch h⟩⟩⟩, ⟨by decide +kernel, by decide +kernel, by decide +kernel⟩⟩, List.forall_mem_cons.mpr ⟨tw1270, List.forall_mem_cons.mpr ⟨tw69, fun _ h => nomatch h⟩⟩, ⟨_, _, _, rfl, rfl⟩⟩
theorem tw1264 : Cond.methodLink RX9 234 yX9_findNow ∈ TG := tg_mem 1264 (by decide +kernel) rfl
theorem tw1266 : Cond.instanceMethod yX9_findNow ∈ TG := tg_mem 1266 (by decide +kernel) rfl
theorem tw68 : Cond.selects RX9 yX9_findNow yX9_findNow ∈ TG := tg_mem 68 (by decide +kernel) rfl
theorem kX9_234 : cVw RX9 234 9 mX9_findNow 0 := ⟨⟨rfl, List.forall_mem_cons.mpr ⟨tw1264, List.forall_mem_cons.mpr ⟨tcX9_findNow, List.forall_mem_cons.mpr ⟨tw89, fun _ h => nomatch h⟩⟩⟩, ⟨by decide +kernel, by decide +kernel, by decide +kernel⟩⟩, List.forall_mem_cons.mpr ⟨tw1266, List.forall_mem_cons.mpr ⟨tw68, fun _ h => nomatch h⟩⟩, ⟨_, _, _, rfl, rfl⟩⟩
theorem tw1276 : Cond.methodLink RX9 237 yX9_counts ∈ TG := tg_mem 1276 (by decide +kernel) rfl
theorem tw1278 : Cond.instanceMethod yX9_counts ∈ TG := tg_mem 1278 (by decide +kernel) rfl
theorem tw70 : Cond.selects RX9 yX9_counts yX9_counts ∈ TG := tg_mem 70 (by decide +kernel) rfl
theorem kX9_237 : cVw RX9 237 9 mX9_counts 0 := ⟨⟨rfl, List.forall_mem_cons.mpr ⟨tw1276, List.forall_mem_cons.mpr ⟨tcX9_counts, List.forall_mem_cons.mpr ⟨tw89, fun _ h => nomatch h⟩⟩⟩, ⟨by decide +kernel, by decide +kernel, by decide +kernel⟩⟩, List.forall_mem_cons.mpr ⟨tw1278, List.forall_mem_cons.mpr ⟨tw70, fun _ h => nomatch h⟩⟩, ⟨_, _, _, rfl, rfl⟩⟩
theorem tw1284 : Cond.methodLink RX9 242 yX9_edgeAt ∈ TG := tg_mem 1284 (by decide +kernel) rfl
theorem tw1286 : Cond.instanceMethod yX9_edgeAt ∈ TG := tg_mem 1286 (by decide +kernel) rfl
theorem tw71 : Cond.selects RX9 yX9_edgeAt yX9_edgeAt ∈ TG := tg_mem 71 (by decide +kernel) rfl
theorem kX9_242 : cVw RX9 242 9 mX9_edgeAt 2 := ⟨⟨rfl, List.forall_mem_cons.mpr ⟨tw1284, List.forall_mem_cons.mpr ⟨tcX9_edgeAt, List.forall_mem_cons.mpr ⟨tw89, fun _ h => nomatch h⟩⟩⟩, ⟨by decide +kernel, by decide +kernel, by decide +kernel⟩⟩, List.forall_mem_cons.mpr ⟨tw1286, List.forall_mem_cons.mpr ⟨tw71, fun _ h => nomatch h⟩⟩, ⟨_, _, _, rfl, rfl⟩⟩
theorem tw1292 : Cond.methodLink RX9 245 yX9_currentNow ∈ TG := tg_mem 1292 (by decide +kernel) rfl
theorem tw1294 : Cond.instanceMethod yX9_currentNow ∈ TG := tg_mem 1294 (by decide +kernel) rfl
theorem tw72 : Cond.selects RX9 yX9_currentNow yX9_currentNow ∈ TG := tg_mem 72 (by decide +kernel) rfl
theorem kX9_245 : cVw RX9 245 9 mX9_currentNow 0 := ⟨⟨rfl, List.forall_mem_cons.mpr ⟨tw1292, List.forall_mem_cons.mpr ⟨tcX9_currentNow, List.forall_mem_cons.mpr ⟨tw89, fun _ h => nomatch h⟩⟩⟩, ⟨by decide +kernel, by decide +kernel, by decide +kernel⟩⟩, List.forall_mem_cons.mpr ⟨tw1294, List.forall_mem_cons.mpr ⟨tw72, fun _ h => nomatch h⟩⟩, ⟨_, _, _, rfl, rfl⟩⟩
theorem tw1304 : Cond.methodLink RX9 248 yX9_lackOfCounts ∈ TG := tg_mem 1304 (by decide +kernel) rfl
theorem tw1306 : Cond.instanceMethod yX9_lackOfCounts ∈ TG := tg_mem 1306 (by decide +kernel) rfl
theorem tw73 : Cond.selects RX9 yX9_lackOfCounts yX9_lackOfCounts ∈ TG := tg_mem 73 (by decide +kernel) rfl
theorem kX9_248 : cVw RX9 248 9 mX9_lackOfCounts 1 := ⟨⟨rfl, List.forall_mem_cons.mpr ⟨tw1304, List.forall_mem_cons.mpr ⟨tcX9_lackOfCounts, List.forall_mem_cons.mpr ⟨tw89, fun _ h => nomatch h⟩⟩⟩, ⟨by decide +kernel, by decide +kernel, by decide +kernel⟩⟩, List.forall_mem_cons.mpr ⟨tw1306, List.forall_mem_cons.mpr ⟨tw73, fun _ h => nomatch h⟩⟩, ⟨_, _, _, rfl, rfl⟩⟩
theorem tw1312 : Cond.methodLink RX9 251 yX9_allCounts ∈ TG := tg_mem 1312 (by decide +kernel) rfl
theorem tw1314 : Cond.instanceMethod yX9_allCounts ∈ TG := tg_mem 1314 (by decide +kernel) rfl
theorem tw74 : Cond.selects RX9 yX9_allCounts yX9_allCounts ∈ TG := tg_mem 74 (by decide +kernel) rfl
theorem kX9_251 : cVw RX9 251 9 mX9_allCounts 0 := ⟨⟨rfl, List.forall_mem_cons.mpr ⟨tw1312, List.forall_mem_cons.mpr ⟨tcX9_allCounts, List.forall_mem_cons.mpr ⟨tw89, fun _ h => nomatch h⟩⟩⟩, ⟨by decide +kernel, by decide +kernel, by decide +kernel⟩⟩, List.forall_mem_cons.mpr ⟨tw1314, List.forall_mem_cons.mpr ⟨tw74, fun _ h => nomatch h⟩⟩, ⟨_, _, _, rfl, rfl⟩⟩
theorem tw1320 : Cond.methodLink RX9 254 yX9_hottestNow ∈ TG := tg_mem 1320 (by decide +kernel) rfl
theorem tw1322 : Cond.instanceMethod yX9_hottestNow ∈ TG := tg_mem 1322 (by decide +kernel) rfl
theorem tw75 : Cond.selects RX9 yX9_hottestNow yX9_hottestNow ∈ TG := tg_mem 75 (by decide +kernel) rfl
theorem kX9_254 : cVw RX9 254 9 mX9_hottestNow 0 := ⟨⟨rfl, List.forall_mem_cons.mpr ⟨tw1320, List.forall_mem_cons.mpr ⟨tcX9_hottestNow, List.forall_mem_cons.mpr ⟨tw89, fun _ h => nomatch h⟩⟩⟩, ⟨by decide +kernel, by decide +kernel, by decide +kernel⟩⟩, List.forall_mem_cons.mpr ⟨tw1322, List.forall_mem_cons.mpr ⟨tw75, fun _ h => nomatch h⟩⟩, ⟨_, _, _, rfl, rfl⟩⟩
theorem tw1328 : Cond.methodLink RX9 257 yX9_frequency ∈ TG := tg_mem 1328 (by decide +kernel) rfl
theorem tw1330 : Cond.instanceMethod yX9_frequency ∈ TG := tg_mem 1330 (by decide +kernel) rfl
theorem tw76 : Cond.selects RX9 yX9_frequency yX9_frequency ∈ TG := tg_mem 76 (by decide +kernel) rfl
theorem kX9_257 : cVw RX9 257 9 mX9_frequency 1 := ⟨⟨rfl, List.forall_mem_cons.mpr ⟨tw1328, List.forall_mem_cons.mpr ⟨tcX9_frequency, List.forall_mem_cons.mpr ⟨tw89, fun _ h => nomatch h⟩⟩⟩, ⟨by decide +kernel, by decide +kernel, by decide +kernel⟩⟩, List.forall_mem_cons.mpr ⟨tw1330, List.forall_mem_cons.mpr ⟨tw76, fun _ h => nomatch h⟩⟩, ⟨_, _, _, rfl, rfl⟩⟩
theorem tw1337 : Cond.methodLink RX9 266 yX9_mix ∈ TG := tg_mem 1337 (by decide +kernel) rfl
theorem tw1339 : Cond.instanceMethod yX9_mix ∈ TG := tg_mem 1339 (by decide +kernel) rfl
theorem tw77 : Cond.selects RX9 yX9_mix yX9_mix ∈ TG := tg_mem 77 (by decide +kernel) rfl
theorem kX9_266 : cVw RX9 266 9 mX9_mix 1 := ⟨⟨rfl, List.forall_mem_cons.mpr ⟨tw1337, List.forall_mem_cons.mpr ⟨tcX9_mix, List.forall_mem_cons.mpr ⟨tw89, fun _ h => nomatch h⟩⟩⟩, ⟨by decide +kernel, by decide +kernel, by decide +kernel⟩⟩, List.forall_mem_cons.mpr ⟨tw1339, List.forall_mem_cons.mpr ⟨tw77, fun _ h => nomatch h⟩⟩, ⟨_, _, _, rfl, rfl⟩⟩
theorem tw1342 : Cond.methodLink RX9 272 yX9_mixAnalysis ∈ TG := tg_mem 1342 (by decide +kernel) rfl
theorem tw1344 : Cond.instanceMethod yX9_mixAnalysis ∈ TG := tg_mem 1344 (by decide +kernel) rfl
theorem tw78 : Cond.selects RX9 yX9_mixAnalysis yX9_mixAnalysis ∈ TG := tg_mem 78 (by decide +kernel) rfl
theorem kX9_272 : cVw RX9 272 9 mX9_mixAnalysis 0 := ⟨⟨rfl, List.forall_mem_cons.mpr ⟨tw1342, List.forall_mem_cons.mpr ⟨tcX9_mixAnalysis, List.forall_mem_cons.mpr ⟨tw89, fun _ h => nomatch h⟩⟩⟩, ⟨by decide +kernel, by decide +kernel, by decide +kernel⟩⟩, List.forall_mem_cons.mpr ⟨tw1344, List.forall_mem_cons.mpr ⟨tw78, fun _ h => nomatch h⟩⟩, ⟨_, _, _, rfl, rfl⟩⟩
theorem tw578 : Cond.methodLink RL 7 yX8_setNodes ∈ TG := tg_mem 578 (by decide +kernel) rfl
theorem tw579 : Cond.instanceMethod yX8_setNodes ∈ TG := tg_mem 579 (by decide +kernel) rfl
theorem tw580 : Cond.selects RX8 yX8_setNodes yX8_setNodes ∈ TG := tg_mem 580 (by decide +kernel) rfl
theorem kL_7 : cVw RL 7 8 mX8_setNodes 1 := ⟨⟨rfl, List.forall_mem_cons.mpr ⟨tw578, List.forall_mem_cons.mpr ⟨tcX8_setNodes, List.forall_mem_cons.mpr ⟨tw80, fun _ h => nomatch h⟩⟩⟩, ⟨by decide +kernel, by decide +kernel, by decide +kernel⟩⟩, List.forall_mem_cons.mpr ⟨tw579, List.forall_mem_cons.mpr ⟨tw580, fun _ h => nomatch h⟩⟩, ⟨_, _, _, rfl, rfl⟩⟩
theorem tw655 : Cond.methodLink RL 15 yX8_addEdge ∈ TG := tg_mem 655 (by decide +kernel) rfl
theorem tw656 : Cond.instanceMethod yX8_addEdge ∈ TG := tg_mem 656 (by decide +kernel) rfl
theorem tw657 : Cond.selects RX8 yX8_addEdge yX8_addEdge ∈ TG := tg_mem 657 (by decide +kernel) rfl
theorem kL_15 : cVw RL 15 8 mX8_addEdge 2 := ⟨⟨rfl, List.forall_mem_cons.mpr ⟨tw655, List.forall_mem_cons.mpr ⟨tcX8_addEdge, List.forall_mem_cons.mpr ⟨tw80, fun _ h => nomatch h⟩⟩⟩, ⟨by decide +kernel, by decide +kernel, by decide +kernel⟩⟩, List.forall_mem_cons.mpr ⟨tw656, List.forall_mem_cons.mpr ⟨tw657, fun _ h => nomatch h⟩⟩, ⟨_, _, _, rfl, rfl⟩⟩
theorem tw683 : Cond.methodLink RL 21 yX8_setWeight ∈ TG := tg_mem 683 (by decide +kernel) rfl
theorem tw684 : Cond.instanceMethod yX8_setWeight ∈ TG := tg_mem 684 (by decide +kernel) rfl
theorem tw685 : Cond.selects RX8 yX8_setWeight yX8_setWeight ∈ TG := tg_mem 685 (by decide +kernel) rfl
theorem kL_21 : cVw RL 21 8 mX8_setWeight 2 := ⟨⟨rfl, List.forall_mem_cons.mpr ⟨tw683, List.forall_mem_cons.mpr ⟨tcX8_setWeight, List.forall_mem_cons.mpr ⟨tw80, fun _ h => nomatch h⟩⟩⟩, ⟨by decide +kernel, by decide +kernel, by decide +kernel⟩⟩, List.forall_mem_cons.mpr ⟨tw684, List.forall_mem_cons.mpr ⟨tw685, fun _ h => nomatch h⟩⟩, ⟨_, _, _, rfl, rfl⟩⟩
theorem tw715 : Cond.methodLink RL 26 yX8_append ∈ TG := tg_mem 715 (by decide +kernel) rfl
theorem tw716 : Cond.instanceMethod yX8_append ∈ TG := tg_mem 716 (by decide +kernel) rfl
theorem tw717 : Cond.selects RX8 yX8_append yX8_append ∈ TG := tg_mem 717 (by decide +kernel) rfl
theorem kL_26 : cVw RL 26 8 mX8_append 1 := ⟨⟨rfl, List.forall_mem_cons.mpr ⟨tw715, List.forall_mem_cons.mpr ⟨tcX8_append, List.forall_mem_cons.mpr ⟨tw80, fun _ h => nomatch h⟩⟩⟩, ⟨by decide +kernel, by decide +kernel, by decide +kernel⟩⟩, List.forall_mem_cons.mpr ⟨tw716, List.forall_mem_cons.mpr ⟨tw717, fun _ h => nomatch h⟩⟩, ⟨_, _, _, rfl, rfl⟩⟩
theorem tw732 : Cond.methodLink RL 30 yX8_load ∈ TG := tg_mem 732 (by decide +kernel) rfl
theorem tw733 : Cond.instanceMethod yX8_load ∈ TG := tg_mem 733 (by decide +kernel) rfl
theorem tw734 : Cond.selects RX8 yX8_load yX8_load ∈ TG := tg_mem 734 (by decide +kernel) rfl
theorem kL_30 : cVw RL 30 8 mX8_load 0 := ⟨⟨rfl, List.forall_mem_cons.mpr ⟨tw732, List.forall_mem_cons.mpr ⟨tcX8_load, List.forall_mem_cons.mpr ⟨tw80, fun _ h => nomatch h⟩⟩⟩, ⟨by decide +kernel, by decide +kernel, by decide +kernel⟩⟩, List.forall_mem_cons.mpr ⟨tw733, List.forall_mem_cons.mpr ⟨tw734, fun _ h => nomatch h⟩⟩, ⟨_, _, _, rfl, rfl⟩⟩
theorem tw755 : Cond.methodLink RL 34 yX8_pathsFrom ∈ TG := tg_mem 755 (by decide +kernel) rfl
theorem tw756 : Cond.instanceMethod yX8_pathsFrom ∈ TG := tg_mem 756 (by decide +kernel) rfl
theorem tw757 : Cond.selects RX8 yX8_pathsFrom yX8_pathsFrom ∈ TG := tg_mem 757 (by decide +kernel) rfl
theorem kL_34 : cVw RL 34 8 mX8_pathsFrom 1 := ⟨⟨rfl, List.forall_mem_cons.mpr ⟨tw755, List.forall_mem_cons.mpr ⟨tcX8_pathsFrom, List.forall_mem_cons.mpr ⟨tw80, fun _ h => nomatch h⟩⟩⟩, ⟨by decide +kernel, by decide +kernel, by decide +kernel⟩⟩, List.forall_mem_cons.mpr ⟨tw756, List.forall_mem_cons.mpr ⟨tw757, fun _ h => nomatch h⟩⟩, ⟨_, _, _, rfl, rfl⟩⟩
theorem tw769 : Cond.methodLink RL 37 yX8_isBack ∈ TG := tg_mem 769 (by decide +kernel) rfl
theorem tw770 : Cond.instanceMethod yX8_isBack ∈ TG := tg_mem 770 (by decide +kernel) rfl
theorem tw771 : Cond.selects RX8 yX8_isBack yX8_isBack ∈ TG := tg_mem 771 (by decide +kernel) rfl
theorem kL_37 : cVw RL 37 8 mX8_isBack 1 := ⟨⟨rfl, List.forall_mem_cons.mpr ⟨tw769, List.forall_mem_cons.mpr ⟨tcX8_isBack, List.forall_mem_cons.mpr ⟨tw80, fun _ h => nomatch h⟩⟩⟩, ⟨by decide +kernel, by decide +kernel, by decide +kernel⟩⟩, List.forall_mem_cons.mpr ⟨tw770, List.forall_mem_cons.mpr ⟨tw771, fun _ h => nomatch h⟩⟩, ⟨_, _, _, rfl, rfl⟩⟩
theorem tw776 : Cond.methodLink RL 41 yX8_value ∈ TG := tg_mem 776 (by decide +kernel) rfl
theorem tw777 : Cond.instanceMethod yX8_value ∈ TG := tg_mem 777 (by decide +kernel) rfl
theorem tw778 : Cond.selects RX8 yX8_value yX8_value ∈ TG := tg_mem 778 (by decide +kernel) rfl
theorem kL_41 : cVw RL 41 8 mX8_value 2 := ⟨⟨rfl, List.forall_mem_cons.mpr ⟨tw776, List.forall_mem_cons.mpr ⟨tcX8_value, List.forall_mem_cons.mpr ⟨tw80, fun _ h => nomatch h⟩⟩⟩, ⟨by decide +kernel, by decide +kernel, by decide +kernel⟩⟩, List.forall_mem_cons.mpr ⟨tw777, List.forall_mem_cons.mpr ⟨tw778, fun _ h => nomatch h⟩⟩, ⟨_, _, _, rfl, rfl⟩⟩
theorem tw783 : Cond.methodLink RL 45 yX8_increment ∈ TG := tg_mem 783 (by decide +kernel) rfl
theorem tw784 : Cond.instanceMethod yX8_increment ∈ TG := tg_mem 784 (by decide +kernel) rfl
theorem tw785 : Cond.selects RX8 yX8_increment yX8_increment ∈ TG := tg_mem 785 (by decide +kernel) rfl
theorem kL_45 : cVw RL 45 8 mX8_increment 2 := ⟨⟨rfl, List.forall_mem_cons.mpr ⟨tw783, List.forall_mem_cons.mpr ⟨tcX8_increment, List.forall_mem_cons.mpr ⟨tw80, fun _ h => nomatch h⟩⟩⟩, ⟨by decide +kernel, by decide +kernel, by decide +kernel⟩⟩, List.forall_mem_cons.mpr ⟨tw784, List.forall_mem_cons.mpr ⟨tw785, fun _ h => nomatch h⟩⟩, ⟨_, _, _, rfl, rfl⟩⟩
theorem tw790 : Cond.methodLink RL 48 yX8_chords ∈ TG := tg_mem 790 (by decide +kernel) rfl
theorem tw791 : Cond.instanceMethod yX8_chords ∈ TG := tg_mem 791 (by decide +kernel) rfl
theorem tw792 : Cond.selects RX8 yX8_chords yX8_chords ∈ TG := tg_mem 792 (by decide +kernel) rfl
theorem kL_48 : cVw RL 48 8 mX8_chords 1 := ⟨⟨rfl, List.forall_mem_cons.mpr ⟨tw790, List.forall_mem_cons.mpr ⟨tcX8_chords, List.forall_mem_cons.mpr ⟨tw80, fun _ h => nomatch h⟩⟩⟩, ⟨by decide +kernel, by decide +kernel, by decide +kernel⟩⟩, List.forall_mem_cons.mpr ⟨tw791, List.forall_mem_cons.mpr ⟨tw792, fun _ h => nomatch h⟩⟩, ⟨_, _, _, rfl, rfl⟩⟩
theorem tw797 : Cond.methodLink RL 52 yX8_pathLength ∈ TG := tg_mem 797 (by decide +kernel) rfl
theorem tw798 : Cond.instanceMethod yX8_pathLength ∈ TG := tg_mem 798 (by decide +kernel) rfl
theorem tw799 : Cond.selects RX8 yX8_pathLength yX8_pathLength ∈ TG := tg_mem 799 (by decide +kernel) rfl
theorem kL_52 : cVw RL 52 8 mX8_pathLength 1 := ⟨⟨rfl, List.forall_mem_cons.mpr ⟨tw797, List.forall_mem_cons.mpr ⟨tcX8_pathLength, List.forall_mem_cons.mpr ⟨tw80, fun _ h => nomatch h⟩⟩⟩, ⟨by decide +kernel, by decide +kernel, by decide +kernel⟩⟩, List.forall_mem_cons.mpr ⟨tw798, List.forall_mem_cons.mpr ⟨tw799, fun _ h => nomatch h⟩⟩, ⟨_, _, _, rfl, rfl⟩⟩
theorem tw830 : Cond.methodLink RL 55 yX8_pathNode ∈ TG := tg_mem 830 (by decide +kernel) rfl
theorem tw831 : Cond.instanceMethod yX8_pathNode ∈ TG := tg_mem 831 (by decide +kernel) rfl
theorem tw832 : Cond.selects RX8 yX8_pathNode yX8_pathNode ∈ TG := tg_mem 832 (by decide +kernel) rfl
theorem kL_55 : cVw RL 55 8 mX8_pathNode 2 := ⟨⟨rfl, List.forall_mem_cons.mpr ⟨tw830, List.forall_mem_cons.mpr ⟨tcX8_pathNode, List.forall_mem_cons.mpr ⟨tw80, fun _ h => nomatch h⟩⟩⟩, ⟨by decide +kernel, by decide +kernel, by decide +kernel⟩⟩, List.forall_mem_cons.mpr ⟨tw831, List.forall_mem_cons.mpr ⟨tw832, fun _ h => nomatch h⟩⟩, ⟨_, _, _, rfl, rfl⟩⟩
theorem tw842 : Cond.methodLink RL 58 yX8_pathEdge ∈ TG := tg_mem 842 (by decide +kernel) rfl
theorem tw843 : Cond.instanceMethod yX8_pathEdge ∈ TG := tg_mem 843 (by decide +kernel) rfl
theorem tw844 : Cond.selects RX8 yX8_pathEdge yX8_pathEdge ∈ TG := tg_mem 844 (by decide +kernel) rfl
theorem kL_58 : cVw RL 58 8 mX8_pathEdge 2 := ⟨⟨rfl, List.forall_mem_cons.mpr ⟨tw842, List.forall_mem_cons.mpr ⟨tcX8_pathEdge, List.forall_mem_cons.mpr ⟨tw80, fun _ h => nomatch h⟩⟩⟩, ⟨by decide +kernel, by decide +kernel, by decide +kernel⟩⟩, List.forall_mem_cons.mpr ⟨tw843, List.forall_mem_cons.mpr ⟨tw844, fun _ h => nomatch h⟩⟩, ⟨_, _, _, rfl, rfl⟩⟩
theorem tw851 : Cond.methodLink RL 61 yX8_findPath ∈ TG := tg_mem 851 (by decide +kernel) rfl
theorem tw852 : Cond.instanceMethod yX8_findPath ∈ TG := tg_mem 852 (by decide +kernel) rfl
theorem tw853 : Cond.selects RX8 yX8_findPath yX8_findPath ∈ TG := tg_mem 853 (by decide +kernel) rfl
theorem kL_61 : cVw RL 61 8 mX8_findPath 0 := ⟨⟨rfl, List.forall_mem_cons.mpr ⟨tw851, List.forall_mem_cons.mpr ⟨tcX8_findPath, List.forall_mem_cons.mpr ⟨tw80, fun _ h => nomatch h⟩⟩⟩, ⟨by decide +kernel, by decide +kernel, by decide +kernel⟩⟩, List.forall_mem_cons.mpr ⟨tw852, List.forall_mem_cons.mpr ⟨tw853, fun _ h => nomatch h⟩⟩, ⟨_, _, _, rfl, rfl⟩⟩
theorem tw875 : Cond.methodLink RL 64 yX8_start ∈ TG := tg_mem 875 (by decide +kernel) rfl
theorem tw876 : Cond.instanceMethod yX8_start ∈ TG := tg_mem 876 (by decide +kernel) rfl
theorem tw877 : Cond.selects RX8 yX8_start yX8_start ∈ TG := tg_mem 877 (by decide +kernel) rfl
theorem kL_64 : cVw RL 64 8 mX8_start 0 := ⟨⟨rfl, List.forall_mem_cons.mpr ⟨tw875, List.forall_mem_cons.mpr ⟨tcX8_start, List.forall_mem_cons.mpr ⟨tw80, fun _ h => nomatch h⟩⟩⟩, ⟨by decide +kernel, by decide +kernel, by decide +kernel⟩⟩, List.forall_mem_cons.mpr ⟨tw876, List.forall_mem_cons.mpr ⟨tw877, fun _ h => nomatch h⟩⟩, ⟨_, _, _, rfl, rfl⟩⟩
theorem tw891 : Cond.methodLink RL 67 yX8_step ∈ TG := tg_mem 891 (by decide +kernel) rfl
theorem tw892 : Cond.instanceMethod yX8_step ∈ TG := tg_mem 892 (by decide +kernel) rfl
theorem tw893 : Cond.selects RX8 yX8_step yX8_step ∈ TG := tg_mem 893 (by decide +kernel) rfl
theorem kL_67 : cVw RL 67 8 mX8_step 1 := ⟨⟨rfl, List.forall_mem_cons.mpr ⟨tw891, List.forall_mem_cons.mpr ⟨tcX8_step, List.forall_mem_cons.mpr ⟨tw80, fun _ h => nomatch h⟩⟩⟩, ⟨by decide +kernel, by decide +kernel, by decide +kernel⟩⟩, List.forall_mem_cons.mpr ⟨tw892, List.forall_mem_cons.mpr ⟨tw893, fun _ h => nomatch h⟩⟩, ⟨_, _, _, rfl, rfl⟩⟩
theorem tw913 : Cond.methodLink RL 70 yX8_count ∈ TG := tg_mem 913 (by decide +kernel) rfl
theorem tw914 : Cond.instanceMethod yX8_count ∈ TG := tg_mem 914 (by decide +kernel) rfl
theorem tw915 : Cond.selects RX8 yX8_count yX8_count ∈ TG := tg_mem 915 (by decide +kernel) rfl
theorem kL_70 : cVw RL 70 8 mX8_count 1 := ⟨⟨rfl, List.forall_mem_cons.mpr ⟨tw913, List.forall_mem_cons.mpr ⟨tcX8_count, List.forall_mem_cons.mpr ⟨tw80, fun _ h => nomatch h⟩⟩⟩, ⟨by decide +kernel, by decide +kernel, by decide +kernel⟩⟩, List.forall_mem_cons.mpr ⟨tw914, List.forall_mem_cons.mpr ⟨tw915, fun _ h => nomatch h⟩⟩, ⟨_, _, _, rfl, rfl⟩⟩
theorem tw920 : Cond.methodLink RL 73 yX8_share ∈ TG := tg_mem 920 (by decide +kernel) rfl
theorem tw921 : Cond.instanceMethod yX8_share ∈ TG := tg_mem 921 (by decide +kernel) rfl
theorem tw922 : Cond.selects RX8 yX8_share yX8_share ∈ TG := tg_mem 922 (by decide +kernel) rfl
theorem kL_73 : cVw RL 73 8 mX8_share 1 := ⟨⟨rfl, List.forall_mem_cons.mpr ⟨tw920, List.forall_mem_cons.mpr ⟨tcX8_share, List.forall_mem_cons.mpr ⟨tw80, fun _ h => nomatch h⟩⟩⟩, ⟨by decide +kernel, by decide +kernel, by decide +kernel⟩⟩, List.forall_mem_cons.mpr ⟨tw921, List.forall_mem_cons.mpr ⟨tw922, fun _ h => nomatch h⟩⟩, ⟨_, _, _, rfl, rfl⟩⟩
theorem tw927 : Cond.methodLink RL 77 yX8_edgeFrequency ∈ TG := tg_mem 927 (by decide +kernel) rfl
theorem tw928 : Cond.instanceMethod yX8_edgeFrequency ∈ TG := tg_mem 928 (by decide +kernel) rfl
theorem tw929 : Cond.selects RX8 yX8_edgeFrequency yX8_edgeFrequency ∈ TG := tg_mem 929 (by decide +kernel) rfl
theorem kL_77 : cVw RL 77 8 mX8_edgeFrequency 1 := ⟨⟨rfl, List.forall_mem_cons.mpr ⟨tw927, List.forall_mem_cons.mpr ⟨tcX8_edgeFrequency, List.forall_mem_cons.mpr ⟨tw80, fun _ h => nomatch h⟩⟩⟩, ⟨by decide +kernel, by decide +kernel, by decide +kernel⟩⟩, List.forall_mem_cons.mpr ⟨tw928, List.forall_mem_cons.mpr ⟨tw929, fun _ h => nomatch h⟩⟩, ⟨_, _, _, rfl, rfl⟩⟩
theorem tw98 : Cond.methodLink RL 80 yX8_init ∈ TG := tg_mem 98 (by decide +kernel) rfl
theorem tw99 : Cond.instanceMethod yX8_init ∈ TG := tg_mem 99 (by decide +kernel) rfl
theorem kL_80 : cIw RL 80 mX8_init 0 := ⟨⟨rfl, List.forall_mem_cons.mpr ⟨tw98, List.forall_mem_cons.mpr ⟨tcX8_init, List.forall_mem_cons.mpr ⟨tw80, fun _ h => nomatch h⟩⟩⟩, ⟨by decide +kernel, by decide +kernel, by decide +kernel⟩⟩, tw99, rfl, rfl⟩
theorem tw937 : Cond.methodLink RL 83 yX9_init ∈ TG := tg_mem 937 (by decide +kernel) rfl
theorem tw938 : Cond.instanceMethod yX9_init ∈ TG := tg_mem 938 (by decide +kernel) rfl
theorem kL_83 : cIw RL 83 mX9_init 0 := ⟨⟨rfl, List.forall_mem_cons.mpr ⟨tw937, List.forall_mem_cons.mpr ⟨tcX9_init, List.forall_mem_cons.mpr ⟨tw89, fun _ h => nomatch h⟩⟩⟩, ⟨by decide +kernel, by decide +kernel, by decide +kernel⟩⟩, tw938, rfl, rfl⟩
theorem tw574 : Cond.methodLink RL 84 yL_setNodes ∈ TG := tg_mem 574 (by decide +kernel) rfl
theorem tw575 : Cond.static yL_setNodes ∈ TG := tg_mem 575 (by decide +kernel) rfl
theorem kL_84 : cHw RL 84 mL_setNodes 2 := ⟨rfl, List.forall_mem_cons.mpr ⟨tw574, List.forall_mem_cons.mpr ⟨tw575, List.forall_mem_cons.mpr ⟨tw79, List.forall_mem_cons.mpr ⟨tcL_setNodes, fun _ h => nomatch h⟩⟩⟩⟩, ⟨by decide +kernel, by decide +kernel, by decide +kernel⟩⟩
theorem tw1057 : Cond.methodLink RL 89 yX9_setNodes ∈ TG := tg_mem 1057 (by decide +kernel) rfl
theorem tw1058 : Cond.instanceMethod yX9_setNodes ∈ TG := tg_mem 1058 (by decide +kernel) rfl
theorem tw1059 : Cond.selects RX9 yX9_setNodes yX9_setNodes ∈ TG := tg_mem 1059 (by decide +kernel) rfl
theorem kL_89 : cVw RL 89 9 mX9_setNodes 1 := ⟨⟨rfl, List.forall_mem_cons.mpr ⟨tw1057, List.forall_mem_cons.mpr ⟨tcX9_setNodes, List.forall_mem_cons.mpr ⟨tw89, fun _ h => nomatch h⟩⟩⟩, ⟨by decide +kernel, by decide +kernel, by decide +kernel⟩⟩, List.forall_mem_cons.mpr ⟨tw1058, List.forall_mem_cons.mpr ⟨tw1059, fun _ h => nomatch h⟩⟩, ⟨_, _, _, rfl, rfl⟩⟩
theorem tw1053 : Cond.methodLink RL 90 yX9_thrown ∈ TG := tg_mem 1053 (by decide +kernel) rfl
theorem tw1054 : Cond.instanceMethod yX9_thrown ∈ TG := tg_mem 1054 (by decide +kernel) rfl
theorem tw1055 : Cond.selects RX9 yX9_thrown yX9_thrown ∈ TG := tg_mem 1055 (by decide +kernel) rfl
theorem kL_90 : cVw RL 90 9 mX9_thrown 0 := ⟨⟨rfl, List.forall_mem_cons.mpr ⟨tw1053, List.forall_mem_cons.mpr ⟨tcX9_thrown, List.forall_mem_cons.mpr ⟨tw89, fun _ h => nomatch h⟩⟩⟩, ⟨by decide +kernel, by decide +kernel, by decide +kernel⟩⟩, List.forall_mem_cons.mpr ⟨tw1054, List.forall_mem_cons.mpr ⟨tw1055, fun _ h => nomatch h⟩⟩, ⟨_, _, _, rfl, rfl⟩⟩
theorem tw651 : Cond.methodLink RL 93 yL_addEdge ∈ TG := tg_mem 651 (by decide +kernel) rfl
theorem tw652 : Cond.static yL_addEdge ∈ TG := tg_mem 652 (by decide +kernel) rfl
theorem kL_93 : cHw RL 93 mL_addEdge 4 := ⟨rfl, List.forall_mem_cons.mpr ⟨tw651, List.forall_mem_cons.mpr ⟨tw652, List.forall_mem_cons.mpr ⟨tw79, List.forall_mem_cons.mpr ⟨tcL_addEdge, fun _ h => nomatch h⟩⟩⟩⟩, ⟨by decide +kernel, by decide +kernel, by decide +kernel⟩⟩
theorem tw1068 : Cond.methodLink RL 96 yX9_addEdge ∈ TG := tg_mem 1068 (by decide +kernel) rfl
theorem tw1069 : Cond.instanceMethod yX9_addEdge ∈ TG := tg_mem 1069 (by decide +kernel) rfl
theorem tw1070 : Cond.selects RX9 yX9_addEdge yX9_addEdge ∈ TG := tg_mem 1070 (by decide +kernel) rfl
theorem kL_96 : cVw RL 96 9 mX9_addEdge 2 := ⟨⟨rfl, List.forall_mem_cons.mpr ⟨tw1068, List.forall_mem_cons.mpr ⟨tcX9_addEdge, List.forall_mem_cons.mpr ⟨tw89, fun _ h => nomatch h⟩⟩⟩, ⟨by decide +kernel, by decide +kernel, by decide +kernel⟩⟩, List.forall_mem_cons.mpr ⟨tw1069, List.forall_mem_cons.mpr ⟨tw1070, fun _ h => nomatch h⟩⟩, ⟨_, _, _, rfl, rfl⟩⟩
theorem tw679 : Cond.methodLink RL 97 yL_setWeight ∈ TG := tg_mem 679 (by decide +kernel) rfl
theorem tw680 : Cond.static yL_setWeight ∈ TG := tg_mem 680 (by decide +kernel) rfl
theorem kL_97 : cHw RL 97 mL_setWeight 4 := ⟨rfl, List.forall_mem_cons.mpr ⟨tw679, List.forall_mem_cons.mpr ⟨tw680, List.forall_mem_cons.mpr ⟨tw79, List.forall_mem_cons.mpr ⟨tcL_setWeight, fun _ h => nomatch h⟩⟩⟩⟩, ⟨by decide +kernel, by decide +kernel, by decide +kernel⟩⟩
theorem tw1084 : Cond.methodLink RL 99 yX9_setWeight ∈ TG := tg_mem 1084 (by decide +kernel) rfl
theorem tw1085 : Cond.instanceMethod yX9_setWeight ∈ TG := tg_mem 1085 (by decide +kernel) rfl
theorem tw1086 : Cond.selects RX9 yX9_setWeight yX9_setWeight ∈ TG := tg_mem 1086 (by decide +kernel) rfl
theorem kL_99 : cVw RL 99 9 mX9_setWeight 2 := ⟨⟨rfl, List.forall_mem_cons.mpr ⟨tw1084, List.forall_mem_cons.mpr ⟨tcX9_setWeight, List.forall_mem_cons.mpr ⟨tw89, fun _ h => nomatch h⟩⟩⟩, ⟨by decide +kernel, by decide +kernel, by decide +kernel⟩⟩, List.forall_mem_cons.mpr ⟨tw1085, List.forall_mem_cons.mpr ⟨tw1086, fun _ h => nomatch h⟩⟩, ⟨_, _, _, rfl, rfl⟩⟩
theorem tw356 : Cond.methodLink RL 100 yX8_edgeCount ∈ TG := tg_mem 356 (by decide +kernel) rfl
theorem tw357 : Cond.instanceMethod yX8_edgeCount ∈ TG := tg_mem 357 (by decide +kernel) rfl
theorem tw358 : Cond.selects RX8 yX8_edgeCount yX8_edgeCount ∈ TG := tg_mem 358 (by decide +kernel) rfl
theorem kL_100 : cVw RL 100 8 mX8_edgeCount 0 := ⟨⟨rfl, List.forall_mem_cons.mpr ⟨tw356, List.forall_mem_cons.mpr ⟨tcX8_edgeCount, List.forall_mem_cons.mpr ⟨tw80, fun _ h => nomatch h⟩⟩⟩, ⟨by decide +kernel, by decide +kernel, by decide +kernel⟩⟩, List.forall_mem_cons.mpr ⟨tw357, List.forall_mem_cons.mpr ⟨tw358, fun _ h => nomatch h⟩⟩, ⟨_, _, _, rfl, rfl⟩⟩
theorem tw1092 : Cond.methodLink RL 103 yX9_edgeCount ∈ TG := tg_mem 1092 (by decide +kernel) rfl
theorem tw1093 : Cond.instanceMethod yX9_edgeCount ∈ TG := tg_mem 1093 (by decide +kernel) rfl
theorem tw1094 : Cond.selects RX9 yX9_edgeCount yX9_edgeCount ∈ TG := tg_mem 1094 (by decide +kernel) rfl
theorem kL_103 : cVw RL 103 9 mX9_edgeCount 0 := ⟨⟨rfl, List.forall_mem_cons.mpr ⟨tw1092, List.forall_mem_cons.mpr ⟨tcX9_edgeCount, List.forall_mem_cons.mpr ⟨tw89, fun _ h => nomatch h⟩⟩⟩, ⟨by decide +kernel, by decide +kernel, by decide +kernel⟩⟩, List.forall_mem_cons.mpr ⟨tw1093, List.forall_mem_cons.mpr ⟨tw1094, fun _ h => nomatch h⟩⟩, ⟨_, _, _, rfl, rfl⟩⟩
theorem tw712 : Cond.methodLink RL 104 yL_append ∈ TG := tg_mem 712 (by decide +kernel) rfl
theorem tw713 : Cond.static yL_append ∈ TG := tg_mem 713 (by decide +kernel) rfl
theorem kL_104 : cHw RL 104 mL_append 3 := ⟨rfl, List.forall_mem_cons.mpr ⟨tw712, List.forall_mem_cons.mpr ⟨tw713, List.forall_mem_cons.mpr ⟨tw79, List.forall_mem_cons.mpr ⟨tcL_append, fun _ h => nomatch h⟩⟩⟩⟩, ⟨by decide +kernel, by decide +kernel, by decide +kernel⟩⟩
theorem tw1096 : Cond.methodLink RL 107 yX9_append ∈ TG := tg_mem 1096 (by decide +kernel) rfl
theorem tw1097 : Cond.instanceMethod yX9_append ∈ TG := tg_mem 1097 (by decide +kernel) rfl
theorem tw1098 : Cond.selects RX9 yX9_append yX9_append ∈ TG := tg_mem 1098 (by decide +kernel) rfl
theorem kL_107 : cVw RL 107 9 mX9_append 1 := ⟨⟨rfl, List.forall_mem_cons.mpr ⟨tw1096, List.forall_mem_cons.mpr ⟨tcX9_append, List.forall_mem_cons.mpr ⟨tw89, fun _ h => nomatch h⟩⟩⟩, ⟨by decide +kernel, by decide +kernel, by decide +kernel⟩⟩, List.forall_mem_cons.mpr ⟨tw1097, List.forall_mem_cons.mpr ⟨tw1098, fun _ h => nomatch h⟩⟩, ⟨_, _, _, rfl, rfl⟩⟩
theorem tw360 : Cond.methodLink RL 108 yX8_clearInput ∈ TG := tg_mem 360 (by decide +kernel) rfl
theorem tw361 : Cond.instanceMethod yX8_clearInput ∈ TG := tg_mem 361 (by decide +kernel) rfl
theorem tw362 : Cond.selects RX8 yX8_clearInput yX8_clearInput ∈ TG := tg_mem 362 (by decide +kernel) rfl
theorem kL_108 : cVw RL 108 8 mX8_clearInput 0 := ⟨⟨rfl, List.forall_mem_cons.mpr ⟨tw360, List.forall_mem_cons.mpr ⟨tcX8_clearInput, List.forall_mem_cons.mpr ⟨tw80, fun _ h => nomatch h⟩⟩⟩, ⟨by decide +kernel, by decide +kernel, by decide +kernel⟩⟩, List.forall_mem_cons.mpr ⟨tw361, List.forall_mem_cons.mpr ⟨tw362, fun _ h => nomatch h⟩⟩, ⟨_, _, _, rfl, rfl⟩⟩
theorem tw1100 : Cond.methodLink RL 111 yX9_clearInput ∈ TG := tg_mem 1100 (by decide +kernel) rfl
theorem tw1101 : Cond.instanceMethod yX9_clearInput ∈ TG := tg_mem 1101 (by decide +kernel) rfl
theorem tw1102 : Cond.selects RX9 yX9_clearInput yX9_clearInput ∈ TG := tg_mem 1102 (by decide +kernel) rfl
theorem kL_111 : cVw RL 111 9 mX9_clearInput 0 := ⟨⟨rfl, List.forall_mem_cons.mpr ⟨tw1100, List.forall_mem_cons.mpr ⟨tcX9_clearInput, List.forall_mem_cons.mpr ⟨tw89, fun _ h => nomatch h⟩⟩⟩, ⟨by decide +kernel, by decide +kernel, by decide +kernel⟩⟩, List.forall_mem_cons.mpr ⟨tw1101, List.forall_mem_cons.mpr ⟨tw1102, fun _ h => nomatch h⟩⟩, ⟨_, _, _, rfl, rfl⟩⟩
theorem tw364 : Cond.methodLink RL 112 yX8_firstError ∈ TG := tg_mem 364 (by decide +kernel) rfl
theorem tw365 : Cond.instanceMethod yX8_firstError ∈ TG := tg_mem 365 (by decide +kernel) rfl
theorem tw366 : Cond.selects RX8 yX8_firstError yX8_firstError ∈ TG := tg_mem 366 (by decide +kernel) rfl
theorem kL_112 : cVw RL 112 8 mX8_firstError 0 := ⟨⟨rfl, List.forall_mem_cons.mpr ⟨tw364, List.forall_mem_cons.mpr ⟨tcX8_firstError, List.forall_mem_cons.mpr ⟨tw80, fun _ h => nomatch h⟩⟩⟩, ⟨by decide +kernel, by decide +kernel, by decide +kernel⟩⟩, List.forall_mem_cons.mpr ⟨tw365, List.forall_mem_cons.mpr ⟨tw366, fun _ h => nomatch h⟩⟩, ⟨_, _, _, rfl, rfl⟩⟩
theorem tw1104 : Cond.methodLink RL 115 yX9_firstError ∈ TG := tg_mem 1104 (by decide +kernel) rfl
theorem tw1105 : Cond.instanceMethod yX9_firstError ∈ TG := tg_mem 1105 (by decide +kernel) rfl
theorem tw1106 : Cond.selects RX9 yX9_firstError yX9_firstError ∈ TG := tg_mem 1106 (by decide +kernel) rfl
theorem kL_115 : cVw RL 115 9 mX9_firstError 0 := ⟨⟨rfl, List.forall_mem_cons.mpr ⟨tw1104, List.forall_mem_cons.mpr ⟨tcX9_firstError, List.forall_mem_cons.mpr ⟨tw89, fun _ h => nomatch h⟩⟩⟩, ⟨by decide +kernel, by decide +kernel, by decide +kernel⟩⟩, List.forall_mem_cons.mpr ⟨tw1105, List.forall_mem_cons.mpr ⟨tw1106, fun _ h => nomatch h⟩⟩, ⟨_, _, _, rfl, rfl⟩⟩
theorem tw729 : Cond.methodLink RL 116 yL_load ∈ TG := tg_mem 729 (by decide +kernel) rfl
theorem tw730 : Cond.static yL_load ∈ TG := tg_mem 730 (by decide +kernel) rfl
theorem kL_116 : cHw RL 116 mL_load 2 := ⟨rfl, List.forall_mem_cons.mpr ⟨tw729, List.forall_mem_cons.mpr ⟨tw730, List.forall_mem_cons.mpr ⟨tw79, List.forall_mem_cons.mpr ⟨tcL_load, fun _ h => nomatch h⟩⟩⟩⟩, ⟨by decide +kernel, by decide +kernel, by decide +kernel⟩⟩
theorem tw1120 : Cond.methodLink RL 119 yX9_load ∈ TG := tg_mem 1120 (by decide +kernel) rfl
theorem tw1121 : Cond.instanceMethod yX9_load ∈ TG := tg_mem 1121 (by decide +kernel) rfl
theorem tw1122 : Cond.selects RX9 yX9_load yX9_load ∈ TG := tg_mem 1122 (by decide +kernel) rfl
theorem kL_119 : cVw RL 119 9 mX9_load 0 := ⟨⟨rfl, List.forall_mem_cons.mpr ⟨tw1120, List.forall_mem_cons.mpr ⟨tcX9_load, List.forall_mem_cons.mpr ⟨tw89, fun _ h => nomatch h⟩⟩⟩, ⟨by decide +kernel, by decide +kernel, by decide +kernel⟩⟩, List.forall_mem_cons.mpr ⟨tw1121, List.forall_mem_cons.mpr ⟨tw1122, fun _ h => nomatch h⟩⟩, ⟨_, _, _, rfl, rfl⟩⟩
theorem tw418 : Cond.methodLink RL 120 yX8_analyse ∈ TG := tg_mem 418 (by decide +kernel) rfl
theorem tw419 : Cond.instanceMethod yX8_analyse ∈ TG := tg_mem 419 (by decide +kernel) rfl
theorem tw420 : Cond.selects RX8 yX8_analyse yX8_analyse ∈ TG := tg_mem 420 (by decide +kernel) rfl
theorem kL_120 : cVw RL 120 8 mX8_analyse 0 := ⟨⟨rfl, List.forall_mem_cons.mpr ⟨tw418, List.forall_mem_cons.mpr ⟨tcX8_analyse, List.forall_mem_cons.mpr ⟨tw80, fun _ h => nomatch h⟩⟩⟩, ⟨by decide +kernel, by decide +kernel, by decide +kernel⟩⟩, List.forall_mem_cons.mpr ⟨tw419, List.forall_mem_cons.mpr ⟨tw420, fun _ h => nomatch h⟩⟩, ⟨_, _, _, rfl, rfl⟩⟩
theorem tw1124 : Cond.methodLink RL 123 yX9_analyse ∈ TG := tg_mem 1124 (by decide +kernel) rfl
theorem tw1125 : Cond.instanceMethod yX9_analyse ∈ TG := tg_mem 1125 (by decide +kernel) rfl
theorem tw1126 : Cond.selects RX9 yX9_analyse yX9_analyse ∈ TG := tg_mem 1126 (by decide +kernel) rfl
theorem kL_123 : cVw RL 123 9 mX9_analyse 0 := ⟨⟨rfl, List.forall_mem_cons.mpr ⟨tw1124, List.forall_mem_cons.mpr ⟨tcX9_analyse, List.forall_mem_cons.mpr ⟨tw89, fun _ h => nomatch h⟩⟩⟩, ⟨by decide +kernel, by decide +kernel, by decide +kernel⟩⟩, List.forall_mem_cons.mpr ⟨tw1125, List.forall_mem_cons.mpr ⟨tw1126, fun _ h => nomatch h⟩⟩, ⟨_, _, _, rfl, rfl⟩⟩
theorem tw752 : Cond.methodLink RL 124 yL_pathsFrom ∈ TG := tg_mem 752 (by decide +kernel) rfl
theorem tw753 : Cond.static yL_pathsFrom ∈ TG := tg_mem 753 (by decide +kernel) rfl
theorem kL_124 : cHw RL 124 mL_pathsFrom 3 := ⟨rfl, List.forall_mem_cons.mpr ⟨tw752, List.forall_mem_cons.mpr ⟨tw753, List.forall_mem_cons.mpr ⟨tw79, List.forall_mem_cons.mpr ⟨tcL_pathsFrom, fun _ h => nomatch h⟩⟩⟩⟩, ⟨by decide +kernel, by decide +kernel, by decide +kernel⟩⟩
theorem tw1184 : Cond.methodLink RL 126 yX9_pathsFrom ∈ TG := tg_mem 1184 (by decide +kernel) rfl
theorem tw1185 : Cond.instanceMethod yX9_pathsFrom ∈ TG := tg_mem 1185 (by decide +kernel) rfl
theorem tw1186 : Cond.selects RX9 yX9_pathsFrom yX9_pathsFrom ∈ TG := tg_mem 1186 (by decide +kernel) rfl
theorem kL_126 : cVw RL 126 9 mX9_pathsFrom 1 := ⟨⟨rfl, List.forall_mem_cons.mpr ⟨tw1184, List.forall_mem_cons.mpr ⟨tcX9_pathsFrom, List.forall_mem_cons.mpr ⟨tw89, fun _ h => nomatch h⟩⟩⟩, ⟨by decide +kernel, by decide +kernel, by decide +kernel⟩⟩, List.forall_mem_cons.mpr ⟨tw1185, List.forall_mem_cons.mpr ⟨tw1186, fun _ h => nomatch h⟩⟩, ⟨_, _, _, rfl, rfl⟩⟩
theorem tw766 : Cond.methodLink RL 127 yL_isBack ∈ TG := tg_mem 766 (by decide +kernel) rfl
theorem tw767 : Cond.static yL_isBack ∈ TG := tg_mem 767 (by decide +kernel) rfl
theorem kL_127 : cHw RL 127 mL_isBack 3 := ⟨rfl, List.forall_mem_cons.mpr ⟨tw766, List.forall_mem_cons.mpr ⟨tw767, List.forall_mem_cons.mpr ⟨tw79, List.forall_mem_cons.mpr ⟨tcL_isBack, fun _ h => nomatch h⟩⟩⟩⟩, ⟨by decide +kernel, by decide +kernel, by decide +kernel⟩⟩
theorem tw1192 : Cond.methodLink RL 129 yX9_isBack ∈ TG := tg_mem 1192 (by decide +kernel) rfl
theorem tw1193 : Cond.instanceMethod yX9_isBack ∈ TG := tg_mem 1193 (by decide +kernel) rfl
theorem tw1194 : Cond.selects RX9 yX9_isBack yX9_isBack ∈ TG := tg_mem 1194 (by decide +kernel) rfl
theorem kL_129 : cVw RL 129 9 mX9_isBack 1 := ⟨⟨rfl, List.forall_mem_cons.mpr ⟨tw1192, List.forall_mem_cons.mpr ⟨tcX9_isBack, List.forall_mem_cons.mpr ⟨tw89, fun _ h => nomatch h⟩⟩⟩, ⟨by decide +kernel, by decide +kernel, by decide +kernel⟩⟩, List.forall_mem_cons.mpr ⟨tw1193, List.forall_mem_cons.mpr ⟨tw1194, fun _ h => nomatch h⟩⟩, ⟨_, _, _, rfl, rfl⟩⟩
theorem tw773 : Cond.methodLink RL 130 yL_value ∈ TG := tg_mem 773 (by decide +kernel) rfl
theorem tw774 : Cond.static yL_value ∈ TG := tg_mem 774 (by decide +kernel) rfl
theorem kL_130 : cHw RL 130 mL_value 4 := ⟨rfl, List.forall_mem_cons.mpr ⟨tw773, List.forall_mem_cons.mpr ⟨tw774, List.forall_mem_cons.mpr ⟨tw79, List.forall_mem_cons.mpr ⟨tcL_value, fun _ h => nomatch h⟩⟩⟩⟩, ⟨by decide +kernel, by decide +kernel, by decide +kernel⟩⟩
theorem tw1196 : Cond.methodLink RL 133 yX9_value ∈ TG := tg_mem 1196 (by decide +kernel) rfl
theorem tw1197 : Cond.instanceMethod yX9_value ∈ TG := tg_mem 1197 (by decide +kernel) rfl
theorem tw1198 : Cond.selects RX9 yX9_value yX9_value ∈ TG := tg_mem 1198 (by decide +kernel) rfl
theorem kL_133 : cVw RL 133 9 mX9_value 2 := ⟨⟨rfl, List.forall_mem_cons.mpr ⟨tw1196, List.forall_mem_cons.mpr ⟨tcX9_value, List.forall_mem_cons.mpr ⟨tw89, fun _ h => nomatch h⟩⟩⟩, ⟨by decide +kernel, by decide +kernel, by decide +kernel⟩⟩, List.forall_mem_cons.mpr ⟨tw1197, List.forall_mem_cons.mpr ⟨tw1198, fun _ h => nomatch h⟩⟩, ⟨_, _, _, rfl, rfl⟩⟩
theorem tw780 : Cond.methodLink RL 134 yL_increment ∈ TG := tg_mem 780 (by decide +kernel) rfl
theorem tw781 : Cond.static yL_increment ∈ TG := tg_mem 781 (by decide +kernel) rfl
theorem kL_134 : cHw RL 134 mL_increment 4 := ⟨rfl, List.forall_mem_cons.mpr ⟨tw780, List.forall_mem_cons.mpr ⟨tw781, List.forall_mem_cons.mpr ⟨tw79, List.forall_mem_cons.mpr ⟨tcL_increment, fun _ h => nomatch h⟩⟩⟩⟩, ⟨by decide +kernel, by decide +kernel, by decide +kernel⟩⟩
theorem tw1204 : Cond.methodLink RL 136 yX9_increment ∈ TG := tg_mem 1204 (by decide +kernel) rfl
theorem tw1205 : Cond.instanceMethod yX9_increment ∈ TG := tg_mem 1205 (by decide +kernel) rfl
theorem tw1206 : Cond.selects RX9 yX9_increment yX9_increment ∈ TG := tg_mem 1206 (by decide +kernel) rfl
theorem kL_136 : cVw RL 136 9 mX9_increment 2 := ⟨⟨rfl, List.forall_mem_cons.mpr ⟨tw1204, List.forall_mem_cons.mpr ⟨tcX9_increment, List.forall_mem_cons.mpr ⟨tw89, fun _ h => nomatch h⟩⟩⟩, ⟨by decide +kernel, by decide +kernel, by decide +kernel⟩⟩, List.forall_mem_cons.mpr ⟨tw1205, List.forall_mem_cons.mpr ⟨tw1206, fun _ h => nomatch h⟩⟩, ⟨_, _, _, rfl, rfl⟩⟩
theorem tw787 : Cond.methodLink RL 137 yL_chords ∈ TG := tg_mem 787 (by decide +kernel) rfl
theorem tw788 : Cond.static yL_chords ∈ TG := tg_mem 788 (by decide +kernel) rfl
theorem kL_137 : cHw RL 137 mL_chords 3 := ⟨rfl, List.forall_mem_cons.mpr ⟨tw787, List.forall_mem_cons.mpr ⟨tw788, List.forall_mem_cons.mpr ⟨tw79, List.forall_mem_cons.mpr ⟨tcL_chords, fun _ h => nomatch h⟩⟩⟩⟩, ⟨by decide +kernel, by decide +kernel, by decide +kernel⟩⟩
theorem tw1208 : Cond.methodLink RL 140 yX9_chords ∈ TG := tg_mem 1208 (by decide +kernel) rfl
theorem tw1209 : Cond.instanceMethod yX9_chords ∈ TG := tg_mem 1209 (by decide +kernel) rfl
theorem tw1210 : Cond.selects RX9 yX9_chords yX9_chords ∈ TG := tg_mem 1210 (by decide +kernel) rfl
theorem kL_140 : cVw RL 140 9 mX9_chords 1 := ⟨⟨rfl, List.forall_mem_cons.mpr ⟨tw1208, List.forall_mem_cons.mpr ⟨tcX9_chords, List.forall_mem_cons.mpr ⟨tw89, fun _ h => nomatch h⟩⟩⟩, ⟨by decide +kernel, by decide +kernel, by decide +kernel⟩⟩, List.forall_mem_cons.mpr ⟨tw1209, List.forall_mem_cons.mpr ⟨tw1210, fun _ h => nomatch h⟩⟩, ⟨_, _, _, rfl, rfl⟩⟩
theorem tw794 : Cond.methodLink RL 141 yL_pathLength ∈ TG := tg_mem 794 (by decide +kernel) rfl
theorem tw795 : Cond.static yL_pathLength ∈ TG := tg_mem 795 (by decide +kernel) rfl
theorem kL_141 : cHw RL 141 mL_pathLength 3 := ⟨rfl, List.forall_mem_cons.mpr ⟨tw794, List.forall_mem_cons.mpr ⟨tw795, List.forall_mem_cons.mpr ⟨tw79, List.forall_mem_cons.mpr ⟨tcL_pathLength, fun _ h => nomatch h⟩⟩⟩⟩, ⟨by decide +kernel, by decide +kernel, by decide +kernel⟩⟩
theorem tw1216 : Cond.methodLink RL 143 yX9_pathLength ∈ TG := tg_mem 1216 (by decide +kernel) rfl
theorem tw1217 : Cond.instanceMethod yX9_pathLength ∈ TG := tg_mem 1217 (by decide +kernel) rfl
theorem tw1218 : Cond.selects RX9 yX9_pathLength yX9_pathLength ∈ TG := tg_mem 1218 (by decide +kernel) rfl
theorem kL_143 : cVw RL 143 9 mX9_pathLength 1 := ⟨⟨rfl, List.forall_mem_cons.mpr ⟨tw1216, List.forall_mem_cons.mpr ⟨tcX9_pathLength, List.forall_mem_cons.mpr ⟨tw89, fun _ h => nomatch h⟩⟩⟩, ⟨by decide +kernel, by decide +kernel, by decide +kernel⟩⟩, List.forall_mem_cons.mpr ⟨tw1217, List.forall_mem_cons.mpr ⟨tw1218, fun _ h => nomatch h⟩⟩, ⟨_, _, _, rfl, rfl⟩⟩
theorem tw827 : Cond.methodLink RL 144 yL_pathNode ∈ TG := tg_mem 827 (by decide +kernel) rfl
theorem tw828 : Cond.static yL_pathNode ∈ TG := tg_mem 828 (by decide +kernel) rfl
theorem kL_144 : cHw RL 144 mL_pathNode 4 := ⟨rfl, List.forall_mem_cons.mpr ⟨tw827, List.forall_mem_cons.mpr ⟨tw828, List.forall_mem_cons.mpr ⟨tw79, List.forall_mem_cons.mpr ⟨tcL_pathNode, fun _ h => nomatch h⟩⟩⟩⟩, ⟨by decide +kernel, by decide +kernel, by decide +kernel⟩⟩
theorem tw1244 : Cond.methodLink RL 146 yX9_pathNode ∈ TG := tg_mem 1244 (by decide +kernel) rfl
theorem tw1245 : Cond.instanceMethod yX9_pathNode ∈ TG := tg_mem 1245 (by decide +kernel) rfl
theorem tw1246 : Cond.selects RX9 yX9_pathNode yX9_pathNode ∈ TG := tg_mem 1246 (by decide +kernel) rfl
theorem kL_146 : cVw RL 146 9 mX9_pathNode 2 := ⟨⟨rfl, List.forall_mem_cons.mpr ⟨tw1244, List.forall_mem_cons.mpr ⟨tcX9_pathNode, List.forall_mem_cons.mpr ⟨tw89, fun _ h => nomatch h⟩⟩⟩, ⟨by decide +kernel, by decide +kernel, by decide +kernel⟩⟩, List.forall_mem_cons.mpr ⟨tw1245, List.forall_mem_cons.mpr ⟨tw1246, fun _ h => nomatch h⟩⟩, ⟨_, _, _, rfl, rfl⟩⟩
theorem tw839 : Cond.methodLink RL 147 yL_pathEdge ∈ TG := tg_mem 839 (by decide +kernel) rfl
theorem tw840 : Cond.static yL_pathEdge ∈ TG := tg_mem 840 (by decide +kernel) rfl
theorem kL_147 : cHw RL 147 mL_pathEdge 4 := ⟨rfl, List.forall_mem_cons.mpr ⟨tw839, List.forall_mem_cons.mpr ⟨tw840, List.forall_mem_cons.mpr ⟨tw79, List.forall_mem_cons.mpr ⟨tcL_pathEdge, fun _ h => nomatch h⟩⟩⟩⟩, ⟨by decide +kernel, by decide +kernel, by decide +kernel⟩⟩
theorem tw1252 : Cond.methodLink RL 149 yX9_pathEdge ∈ TG := tg_mem 1252 (by decide +kernel) rfl
theorem tw1253 : Cond.instanceMethod yX9_pathEdge ∈ TG := tg_mem 1253 (by decide +kernel) rfl
theorem tw1254 : Cond.selects RX9 yX9_pathEdge yX9_pathEdge ∈ TG := tg_mem 1254 (by decide +kernel) rfl
theorem kL_149 : cVw RL 149 9 mX9_pathEdge 2 := ⟨⟨rfl, List.forall_mem_cons.mpr ⟨tw1252, List.forall_mem_cons.mpr ⟨tcX9_pathEdge, List.forall_mem_cons.mpr ⟨tw89, fun _ h => nomatch h⟩⟩⟩, ⟨by decide +kernel, by decide +kernel, by decide +kernel⟩⟩, List.forall_mem_cons.mpr ⟨tw1253, List.forall_mem_cons.mpr ⟨tw1254, fun _ h => nomatch h⟩⟩, ⟨_, _, _, rfl, rfl⟩⟩
theorem tw848 : Cond.methodLink RL 150 yL_findPath ∈ TG := tg_mem 848 (by decide +kernel) rfl
theorem tw849 : Cond.static yL_findPath ∈ TG := tg_mem 849 (by decide +kernel) rfl
theorem kL_150 : cHw RL 150 mL_findPath 2 := ⟨rfl, List.forall_mem_cons.mpr ⟨tw848, List.forall_mem_cons.mpr ⟨tw849, List.forall_mem_cons.mpr ⟨tw79, List.forall_mem_cons.mpr ⟨tcL_findPath, fun _ h => nomatch h⟩⟩⟩⟩, ⟨by decide +kernel, by decide +kernel, by decide +kernel⟩⟩
theorem tw1260 : Cond.methodLink RL 152 yX9_findPath ∈ TG := tg_mem 1260 (by decide +kernel) rfl
theorem tw1261 : Cond.instanceMethod yX9_findPath ∈ TG := tg_mem 1261 (by decide +kernel) rfl
theorem tw1262 : Cond.selects RX9 yX9_findPath yX9_findPath ∈ TG := tg_mem 1262 (by decide +kernel) rfl
theorem kL_152 : cVw RL 152 9 mX9_findPath 0 := ⟨⟨rfl, List.forall_mem_cons.mpr ⟨tw1260, List.forall_mem_cons.mpr ⟨tcX9_findPath, List.forall_mem_cons.mpr ⟨tw89, fun _ h => nomatch h⟩⟩⟩, ⟨by decide +kernel, by decide +kernel, by decide +kernel⟩⟩, List.forall_mem_cons.mpr ⟨tw1261, List.forall_mem_cons.mpr ⟨tw1262, fun _ h => nomatch h⟩⟩, ⟨_, _, _, rfl, rfl⟩⟩
theorem tw872 : Cond.methodLink RL 153 yL_start ∈ TG := tg_mem 872 (by decide +kernel) rfl
theorem tw873 : Cond.static yL_start ∈ TG := tg_mem 873 (by decide +kernel) rfl
theorem kL_153 : cHw RL 153 mL_start 1 := ⟨rfl, List.forall_mem_cons.mpr ⟨tw872, List.forall_mem_cons.mpr ⟨tw873, List.forall_mem_cons.mpr ⟨tw79, List.forall_mem_cons.mpr ⟨tcL_start, fun _ h => nomatch h⟩⟩⟩⟩, ⟨by decide +kernel, by decide +kernel, by decide +kernel⟩⟩
theorem tw1272 : Cond.methodLink RL 156 yX9_start ∈ TG := tg_mem 1272 (by decide +kernel) rfl
theorem tw1273 : Cond.instanceMethod yX9_start ∈ TG := tg_mem 1273 (by decide +kernel) rfl
theorem tw1274 : Cond.selects RX9 yX9_start yX9_start ∈ TG := tg_mem 1274 (by decide +kernel) rfl
theorem kL_156 : cVw RL 156 9 mX9_start 0 := ⟨⟨rfl, List.forall_mem_cons.mpr ⟨tw1272, List.forall_mem_cons.mpr ⟨tcX9_start, List.forall_mem_cons.mpr ⟨tw89, fun _ h => nomatch h⟩⟩⟩, ⟨by decide +kernel, by decide +kernel, by decide +kernel⟩⟩, List.forall_mem_cons.mpr ⟨tw1273, List.forall_mem_cons.mpr ⟨tw1274, fun _ h => nomatch h⟩⟩, ⟨_, _, _, rfl, rfl⟩⟩
theorem tw888 : Cond.methodLink RL 157 yL_step ∈ TG := tg_mem 888 (by decide +kernel) rfl
theorem tw889 : Cond.static yL_step ∈ TG := tg_mem 889 (by decide +kernel) rfl
theorem kL_157 : cHw RL 157 mL_step 3 := ⟨rfl, List.forall_mem_cons.mpr ⟨tw888, List.forall_mem_cons.mpr ⟨tw889, List.forall_mem_cons.mpr ⟨tw79, List.forall_mem_cons.mpr ⟨tcL_step, fun _ h => nomatch h⟩⟩⟩⟩, ⟨by decide +kernel, by decide +kernel, by decide +kernel⟩⟩
theorem tw1280 : Cond.methodLink RL 159 yX9_step ∈ TG := tg_mem 1280 (by decide +kernel) rfl
theorem tw1281 : Cond.instanceMethod yX9_step ∈ TG := tg_mem 1281 (by decide +kernel) rfl
theorem tw1282 : Cond.selects RX9 yX9_step yX9_step ∈ TG := tg_mem 1282 (by decide +kernel) rfl
theorem kL_159 : cVw RL 159 9 mX9_step 1 := ⟨⟨rfl, List.forall_mem_cons.mpr ⟨tw1280, List.forall_mem_cons.mpr ⟨tcX9_step, List.forall_mem_cons.mpr ⟨tw89, fun _ h => nomatch h⟩⟩⟩, ⟨by decide +kernel, by decide +kernel, by decide +kernel⟩⟩, List.forall_mem_cons.mpr ⟨tw1281, List.forall_mem_cons.mpr ⟨tw1282, fun _ h => nomatch h⟩⟩, ⟨_, _, _, rfl, rfl⟩⟩
theorem tw521 : Cond.methodLink RL 160 yX8_current ∈ TG := tg_mem 521 (by decide +kernel) rfl
theorem tw522 : Cond.instanceMethod yX8_current ∈ TG := tg_mem 522 (by decide +kernel) rfl
theorem tw523 : Cond.selects RX8 yX8_current yX8_current ∈ TG := tg_mem 523 (by decide +kernel) rfl
theorem kL_160 : cVw RL 160 8 mX8_current 0 := ⟨⟨rfl, List.forall_mem_cons.mpr ⟨tw521, List.forall_mem_cons.mpr ⟨tcX8_current, List.forall_mem_cons.mpr ⟨tw80, fun _ h => nomatch h⟩⟩⟩, ⟨by decide +kernel, by decide +kernel, by decide +kernel⟩⟩, List.forall_mem_cons.mpr ⟨tw522, List.forall_mem_cons.mpr ⟨tw523, fun _ h => nomatch h⟩⟩, ⟨_, _, _, rfl, rfl⟩⟩
theorem tw1288 : Cond.methodLink RL 163 yX9_current ∈ TG := tg_mem 1288 (by decide +kernel) rfl
theorem tw1289 : Cond.instanceMethod yX9_current ∈ TG := tg_mem 1289 (by decide +kernel) rfl
theorem tw1290 : Cond.selects RX9 yX9_current yX9_current ∈ TG := tg_mem 1290 (by decide +kernel) rfl
theorem kL_163 : cVw RL 163 9 mX9_current 0 := ⟨⟨rfl, List.forall_mem_cons.mpr ⟨tw1288, List.forall_mem_cons.mpr ⟨tcX9_current, List.forall_mem_cons.mpr ⟨tw89, fun _ h => nomatch h⟩⟩⟩, ⟨by decide +kernel, by decide +kernel, by decide +kernel⟩⟩, List.forall_mem_cons.mpr ⟨tw1289, List.forall_mem_cons.mpr ⟨tw1290, fun _ h => nomatch h⟩⟩, ⟨_, _, _, rfl, rfl⟩⟩
theorem tw525 : Cond.methodLink RL 164 yX8_register ∈ TG := tg_mem 525 (by decide +kernel) rfl
theorem tw526 : Cond.instanceMethod yX8_register ∈ TG := tg_mem 526 (by decide +kernel) rfl
theorem tw527 : Cond.selects RX8 yX8_register yX8_register ∈ TG := tg_mem 527 (by decide +kernel) rfl
theorem kL_164 : cVw RL 164 8 mX8_register 0 := ⟨⟨rfl, List.forall_mem_cons.mpr ⟨tw525, List.forall_mem_cons.mpr ⟨tcX8_register, List.forall_mem_cons.mpr ⟨tw80, fun _ h => nomatch h⟩⟩⟩, ⟨by decide +kernel, by decide +kernel, by decide +kernel⟩⟩, List.forall_mem_cons.mpr ⟨tw526, List.forall_mem_cons.mpr ⟨tw527, fun _ h => nomatch h⟩⟩, ⟨_, _, _, rfl, rfl⟩⟩
theorem tw1296 : Cond.methodLink RL 167 yX9_register ∈ TG := tg_mem 1296 (by decide +kernel) rfl
theorem tw1297 : Cond.instanceMethod yX9_register ∈ TG := tg_mem 1297 (by decide +kernel) rfl
theorem tw1298 : Cond.selects RX9 yX9_register yX9_register ∈ TG := tg_mem 1298 (by decide +kernel) rfl
theorem kL_167 : cVw RL 167 9 mX9_register 0 := ⟨⟨rfl, List.forall_mem_cons.mpr ⟨tw1296, List.forall_mem_cons.mpr ⟨tcX9_register, List.forall_mem_cons.mpr ⟨tw89, fun _ h => nomatch h⟩⟩⟩, ⟨by decide +kernel, by decide +kernel, by decide +kernel⟩⟩, List.forall_mem_cons.mpr ⟨tw1297, List.forall_mem_cons.mpr ⟨tw1298, fun _ h => nomatch h⟩⟩, ⟨_, _, _, rfl, rfl⟩⟩
theorem tw910 : Cond.methodLink RL 168 yL_count ∈ TG := tg_mem 910 (by decide +kernel) rfl
theorem tw911 : Cond.static yL_count ∈ TG := tg_mem 911 (by decide +kernel) rfl
theorem kL_168 : cHw RL 168 mL_count 3 := ⟨rfl, List.forall_mem_cons.mpr ⟨tw910, List.forall_mem_cons.mpr ⟨tw911, List.forall_mem_cons.mpr ⟨tw79, List.forall_mem_cons.mpr ⟨tcL_count, fun _ h => nomatch h⟩⟩⟩⟩, ⟨by decide +kernel, by decide +kernel, by decide +kernel⟩⟩
theorem tw1300 : Cond.methodLink RL 170 yX9_count ∈ TG := tg_mem 1300 (by decide +kernel) rfl
theorem tw1301 : Cond.instanceMethod yX9_count ∈ TG := tg_mem 1301 (by decide +kernel) rfl
theorem tw1302 : Cond.selects RX9 yX9_count yX9_count ∈ TG := tg_mem 1302 (by decide +kernel) rfl
theorem kL_170 : cVw RL 170 9 mX9_count 1 := ⟨⟨rfl, List.forall_mem_cons.mpr ⟨tw1300, List.forall_mem_cons.mpr ⟨tcX9_count, List.forall_mem_cons.mpr ⟨tw89, fun _ h => nomatch h⟩⟩⟩, ⟨by decide +kernel, by decide +kernel, by decide +kernel⟩⟩, List.forall_mem_cons.mpr ⟨tw1301, List.forall_mem_cons.mpr ⟨tw1302, fun _ h => nomatch h⟩⟩, ⟨_, _, _, rfl, rfl⟩⟩
theorem tw917 : Cond.methodLink RL 171 yL_share ∈ TG := tg_mem 917 (by decide +kernel) rfl
theorem tw918 : Cond.static yL_share ∈ TG := tg_mem 918 (by decide +kernel) rfl
theorem kL_171 : cHw RL 171 mL_share 3 := ⟨rfl, List.forall_mem_cons.mpr ⟨tw917, List.forall_mem_cons.mpr ⟨tw918, List.forall_mem_cons.mpr ⟨tw79, List.forall_mem_cons.mpr ⟨tcL_share, fun _ h => nomatch h⟩⟩⟩⟩, ⟨by decide +kernel, by decide +kernel, by decide +kernel⟩⟩
theorem tw1308 : Cond.methodLink RL 174 yX9_share ∈ TG := tg_mem 1308 (by decide +kernel) rfl
theorem tw1309 : Cond.instanceMethod yX9_share ∈ TG := tg_mem 1309 (by decide +kernel) rfl
theorem tw1310 : Cond.selects RX9 yX9_share yX9_share ∈ TG := tg_mem 1310 (by decide +kernel) rfl
theorem kL_174 : cVw RL 174 9 mX9_share 1 := ⟨⟨rfl, List.forall_mem_cons.mpr ⟨tw1308, List.forall_mem_cons.mpr ⟨tcX9_share, List.forall_mem_cons.mpr ⟨tw89, fun _ h => nomatch h⟩⟩⟩, ⟨by decide +kernel, by decide +kernel, by decide +kernel⟩⟩, List.forall_mem_cons.mpr ⟨tw1309, List.forall_mem_cons.mpr ⟨tw1310, fun _ h => nomatch h⟩⟩, ⟨_, _, _, rfl, rfl⟩⟩
theorem tw529 : Cond.methodLink RL 175 yX8_hottest ∈ TG := tg_mem 529 (by decide +kernel) rfl
theorem tw530 : Cond.instanceMethod yX8_hottest ∈ TG := tg_mem 530 (by decide +kernel) rfl
theorem tw531 : Cond.selects RX8 yX8_hottest yX8_hottest ∈ TG := tg_mem 531 (by decide +kernel) rfl
theorem kL_175 : cVw RL 175 8 mX8_hottest 0 := ⟨⟨rfl, List.forall_mem_cons.mpr ⟨tw529, List.forall_mem_cons.mpr ⟨tcX8_hottest, List.forall_mem_cons.mpr ⟨tw80, fun _ h => nomatch h⟩⟩⟩, ⟨by decide +kernel, by decide +kernel, by decide +kernel⟩⟩, List.forall_mem_cons.mpr ⟨tw530, List.forall_mem_cons.mpr ⟨tw531, fun _ h => nomatch h⟩⟩, ⟨_, _, _, rfl, rfl⟩⟩
theorem tw1316 : Cond.methodLink RL 178 yX9_hottest ∈ TG := tg_mem 1316 (by decide +kernel) rfl
theorem tw1317 : Cond.instanceMethod yX9_hottest ∈ TG := tg_mem 1317 (by decide +kernel) rfl
theorem tw1318 : Cond.selects RX9 yX9_hottest yX9_hottest ∈ TG := tg_mem 1318 (by decide +kernel) rfl
theorem kL_178 : cVw RL 178 9 mX9_hottest 0 := ⟨⟨rfl, List.forall_mem_cons.mpr ⟨tw1316, List.forall_mem_cons.mpr ⟨tcX9_hottest, List.forall_mem_cons.mpr ⟨tw89, fun _ h => nomatch h⟩⟩⟩, ⟨by decide +kernel, by decide +kernel, by decide +kernel⟩⟩, List.forall_mem_cons.mpr ⟨tw1317, List.forall_mem_cons.mpr ⟨tw1318, fun _ h => nomatch h⟩⟩, ⟨_, _, _, rfl, rfl⟩⟩
theorem tw924 : Cond.methodLink RL 179 yL_edgeFrequency ∈ TG := tg_mem 924 (by decide +kernel) rfl
theorem tw925 : Cond.static yL_edgeFrequency ∈ TG := tg_mem 925 (by decide +kernel) rfl
theorem kL_179 : cHw RL 179 mL_edgeFrequency 3 := ⟨rfl, List.forall_mem_cons.mpr ⟨tw924, List.forall_mem_cons.mpr ⟨tw925, List.forall_mem_cons.mpr ⟨tw79, List.forall_mem_cons.mpr ⟨tcL_edgeFrequency, fun _ h => nomatch h⟩⟩⟩⟩, ⟨by decide +kernel, by decide +kernel, by decide +kernel⟩⟩
theorem tw1324 : Cond.methodLink RL 181 yX9_edgeFrequency ∈ TG := tg_mem 1324 (by decide +kernel) rfl
theorem tw1325 : Cond.instanceMethod yX9_edgeFrequency ∈ TG := tg_mem 1325 (by decide +kernel) rfl
theorem tw1326 : Cond.selects RX9 yX9_edgeFrequency yX9_edgeFrequency ∈ TG := tg_mem 1326 (by decide +kernel) rfl
theorem kL_181 : cVw RL 181 9 mX9_edgeFrequency 1 := ⟨⟨rfl, List.forall_mem_cons.mpr ⟨tw1324, List.forall_mem_cons.mpr ⟨tcX9_edgeFrequency, List.forall_mem_cons.mpr ⟨tw89, fun _ h => nomatch h⟩⟩⟩, ⟨by decide +kernel, by decide +kernel, by decide +kernel⟩⟩, List.forall_mem_cons.mpr ⟨tw1325, List.forall_mem_cons.mpr ⟨tw1326, fun _ h => nomatch h⟩⟩, ⟨_, _, _, rfl, rfl⟩⟩
theorem tw537 : Cond.methodLink RL 182 yX8_digest ∈ TG := tg_mem 537 (by decide +kernel) rfl
theorem tw538 : Cond.instanceMethod yX8_digest ∈ TG := tg_mem 538 (by decide +kernel) rfl
theorem tw539 : Cond.selects RX8 yX8_digest yX8_digest ∈ TG := tg_mem 539 (by decide +kernel) rfl
theorem kL_182 : cVw RL 182 8 mX8_digest 0 := ⟨⟨rfl, List.forall_mem_cons.mpr ⟨tw537, List.forall_mem_cons.mpr ⟨tcX8_digest, List.forall_mem_cons.mpr ⟨tw80, fun _ h => nomatch h⟩⟩⟩, ⟨by decide +kernel, by decide +kernel, by decide +kernel⟩⟩, List.forall_mem_cons.mpr ⟨tw538, List.forall_mem_cons.mpr ⟨tw539, fun _ h => nomatch h⟩⟩, ⟨_, _, _, rfl, rfl⟩⟩
theorem tw1332 : Cond.methodLink RL 186 yX9_digest ∈ TG := tg_mem 1332 (by decide +kernel) rfl
theorem tw1333 : Cond.instanceMethod yX9_digest ∈ TG := tg_mem 1333 (by decide +kernel) rfl
theorem tw1334 : Cond.selects RX9 yX9_digest yX9_digest ∈ TG := tg_mem 1334 (by decide +kernel) rfl
theorem kL_186 : cVw RL 186 9 mX9_digest 0 := ⟨⟨rfl, List.forall_mem_cons.mpr ⟨tw1332, List.forall_mem_cons.mpr ⟨tcX9_digest, List.forall_mem_cons.mpr ⟨tw89, fun _ h => nomatch h⟩⟩⟩, ⟨by decide +kernel, by decide +kernel, by decide +kernel⟩⟩, List.forall_mem_cons.mpr ⟨tw1333, List.forall_mem_cons.mpr ⟨tw1334, fun _ h => nomatch h⟩⟩, ⟨_, _, _, rfl, rfl⟩⟩
theorem tw165 : Cond.classLink RX3 9 RX0 ∈ TG := tg_mem 165 (by decide +kernel) rfl
theorem tw105 : Cond.instantiable RX0 5 ∈ TG := tg_mem 105 (by decide +kernel) rfl
theorem nX3_9 : nW RX3 9 0 5 [.int 0, .int 0, .null, .null, .null] := ⟨RX0, TX0, tyX0, cf0, tyX0_ok, by decide +kernel, List.forall_mem_cons.mpr ⟨tw165, List.forall_mem_cons.mpr ⟨tw105, List.forall_mem_cons.mpr ⟨tw81, fun _ h => nomatch h⟩⟩⟩⟩
theorem tw104 : Cond.classLink RX8 9 RX0 ∈ TG := tg_mem 104 (by decide +kernel) rfl
theorem nX8_9 : nW RX8 9 0 5 [.int 0, .int 0, .null, .null, .null] := ⟨RX0, TX0, tyX0, cf0, tyX0_ok, by decide +kernel, List.forall_mem_cons.mpr ⟨tw104, List.forall_mem_cons.mpr ⟨tw105, List.forall_mem_cons.mpr ⟨tw81, fun _ h => nomatch h⟩⟩⟩⟩
theorem tw141 : Cond.classLink RX8 16 RX5 ∈ TG := tg_mem 141 (by decide +kernel) rfl
theorem tw142 : Cond.instantiable RX5 2 ∈ TG := tg_mem 142 (by decide +kernel) rfl
theorem nX8_16 : nW RX8 16 5 2 [.null, .int 0] := ⟨RX5, TX5, tyX5, cf5, tyX5_ok, by decide +kernel, List.forall_mem_cons.mpr ⟨tw141, List.forall_mem_cons.mpr ⟨tw142, List.forall_mem_cons.mpr ⟨tw82, fun _ h => nomatch h⟩⟩⟩⟩
theorem tw159 : Cond.classLink RX8 23 RX3 ∈ TG := tg_mem 159 (by decide +kernel) rfl
theorem tw160 : Cond.instantiable RX3 2 ∈ TG := tg_mem 160 (by decide +kernel) rfl
theorem nX8_23 : nW RX8 23 3 2 [.null, .int 0] := ⟨RX3, TX3, tyX3, cf3, tyX3_ok, by decide +kernel, List.forall_mem_cons.mpr ⟨tw159, List.forall_mem_cons.mpr ⟨tw160, List.forall_mem_cons.mpr ⟨tw83, fun _ h => nomatch h⟩⟩⟩⟩
theorem tw175 : Cond.classLink RX8 30 RX4 ∈ TG := tg_mem 175 (by decide +kernel) rfl
theorem tw176 : Cond.instantiable RX4 10 ∈ TG := tg_mem 176 (by decide +kernel) rfl
theorem nX8_30 : nW RX8 30 4 10 [.null, .null, .null, .int 0, .null, .int 0, .null, .null, .null, .null] := ⟨RX4, TX4, tyX4, cf4, tyX4_ok, by decide +kernel, List.forall_mem_cons.mpr ⟨tw175, List.forall_mem_cons.mpr ⟨tw176, List.forall_mem_cons.mpr ⟨tw84, fun _ h => nomatch h⟩⟩⟩⟩
theorem tw217 : Cond.classLink RX8 39 RX1 ∈ TG := tg_mem 217 (by decide +kernel) rfl
theorem tw218 : Cond.instantiable RX1 6 ∈ TG := tg_mem 218 (by decide +kernel) rfl
theorem nX8_39 : nW RX8 39 1 6 [.null, .null, .null, .null, .null, .null] := ⟨RX1, TX1, tyX1, cf1, tyX1_ok, by decide +kernel, List.forall_mem_cons.mpr ⟨tw217, List.forall_mem_cons.mpr ⟨tw218, List.forall_mem_cons.mpr ⟨tw85, fun _ h => nomatch h⟩⟩⟩⟩
theorem tw249 : Cond.classLink RX8 48 RX6 ∈ TG := tg_mem 249 (by decide +kernel) rfl
theorem tw250 : Cond.instantiable RX6 9 ∈ TG := tg_mem 250 (by decide +kernel) rfl
theorem nX8_48 : nW RX8 48 6 9 [.null, .null, .null, .int 0, .int 0, .null, .int 0, .null, .null] := ⟨RX6, TX6, tyX6, cf6, tyX6_ok, by decide +kernel, List.forall_mem_cons.mpr ⟨tw249, List.forall_mem_cons.mpr ⟨tw250, List.forall_mem_cons.mpr ⟨tw86, fun _ h => nomatch h⟩⟩⟩⟩
theorem tw286 : Cond.classLink RX8 57 RX2 ∈ TG := tg_mem 286 (by decide +kernel) rfl
theorem tw287 : Cond.instantiable RX2 4 ∈ TG := tg_mem 287 (by decide +kernel) rfl
theorem nX8_57 : nW RX8 57 2 4 [.null, .null, .null, .int 0] := ⟨RX2, TX2, tyX2, cf2, tyX2_ok, by decide +kernel, List.forall_mem_cons.mpr ⟨tw286, List.forall_mem_cons.mpr ⟨tw287, List.forall_mem_cons.mpr ⟨tw87, fun _ h => nomatch h⟩⟩⟩⟩
theorem tw305 : Cond.classLink RX8 64 RX7 ∈ TG := tg_mem 305 (by decide +kernel) rfl
theorem tw306 : Cond.instantiable RX7 4 ∈ TG := tg_mem 306 (by decide +kernel) rfl
theorem nX8_64 : nW RX8 64 7 4 [.int 0, .int 0, .null, .int 0] := ⟨RX7, TX7, tyX7, cf7, tyX7_ok, by decide +kernel, List.forall_mem_cons.mpr ⟨tw305, List.forall_mem_cons.mpr ⟨tw306, List.forall_mem_cons.mpr ⟨tw88, fun _ h => nomatch h⟩⟩⟩⟩
theorem tw582 : Cond.classLink RX8 75 "java/lang/IllegalArgumentException" ∈ TG := tg_mem 582 (by decide +kernel) rfl
theorem tw93 : Cond.initialized "java/lang/IllegalArgumentException" ∈ TG := tg_mem 93 (by decide +kernel) rfl
set_option maxRecDepth 20000 in
theorem tX8_77 : tW RX8 75 77 79 "java/lang/IllegalArgumentException" "a graph has 2 to 12 nodes" := ⟨tw582, tw93, by decide +kernel, by decide +kernel, by decide +kernel, by decide +kernel, by decide +kernel⟩
set_option maxRecDepth 20000 in
theorem tX8_93 : tW RX8 75 93 79 "java/lang/IllegalArgumentException" "the graph allows no such edge" := ⟨tw582, tw93, by decide +kernel, by decide +kernel, by decide +kernel, by decide +kernel, by decide +kernel⟩
theorem tw662 : Cond.classLink RX8 99 "java/lang/IllegalStateException" ∈ TG := tg_mem 662 (by decide +kernel) rfl
theorem tw94 : Cond.initialized "java/lang/IllegalStateException" ∈ TG := tg_mem 94 (by decide +kernel) rfl
set_option maxRecDepth 20000 in
theorem tX8_101 : tW RX8 99 101 103 "java/lang/IllegalStateException" "there are 24 edges" := ⟨tw662, tw94, by decide +kernel, by decide +kernel, by decide +kernel, by decide +kernel, by decide +kernel⟩
set_option maxRecDepth 20000 in
theorem tX8_111 : tW RX8 75 111 79 "java/lang/IllegalArgumentException" "a weight is 0 to 99" := ⟨tw582, tw93, by decide +kernel, by decide +kernel, by decide +kernel, by decide +kernel, by decide +kernel⟩
set_option maxRecDepth 20000 in
theorem tX8_121 : tW RX8 75 121 79 "java/lang/IllegalArgumentException" "a character code is 32 to 126" := ⟨tw582, tw93, by decide +kernel, by decide +kernel, by decide +kernel, by decide +kernel, by decide +kernel⟩
set_option maxRecDepth 20000 in
theorem tX8_124 : tW RX8 99 124 103 "java/lang/IllegalStateException" "the buffer has 60 characters" := ⟨tw662, tw94, by decide +kernel, by decide +kernel, by decide +kernel, by decide +kernel, by decide +kernel⟩
set_option maxRecDepth 20000 in
theorem tX8_139 : tW RX8 99 139 103 "java/lang/IllegalStateException" "the buffer is not a graph" := ⟨tw662, tw94, by decide +kernel, by decide +kernel, by decide +kernel, by decide +kernel, by decide +kernel⟩
theorem tw695 : Cond.classLink RX8 171 "java/lang/IndexOutOfBoundsException" ∈ TG := tg_mem 695 (by decide +kernel) rfl
theorem tw95 : Cond.initialized "java/lang/IndexOutOfBoundsException" ∈ TG := tg_mem 95 (by decide +kernel) rfl
set_option maxRecDepth 20000 in
theorem tX8_173 : tW RX8 171 173 175 "java/lang/IndexOutOfBoundsException" "there is no such node" := ⟨tw695, tw95, by decide +kernel, by decide +kernel, by decide +kernel, by decide +kernel, by decide +kernel⟩
set_option maxRecDepth 20000 in
theorem tX8_208 : tW RX8 171 208 175 "java/lang/IndexOutOfBoundsException" "the path has no such node" := ⟨tw695, tw95, by decide +kernel, by decide +kernel, by decide +kernel, by decide +kernel, by decide +kernel⟩
set_option maxRecDepth 20000 in
theorem tX8_235 : tW RX8 99 235 103 "java/lang/IllegalStateException" "there is no walk, or it is over" := ⟨tw662, tw94, by decide +kernel, by decide +kernel, by decide +kernel, by decide +kernel, by decide +kernel⟩
set_option maxRecDepth 20000 in
theorem tX8_240 : tW RX8 171 240 175 "java/lang/IndexOutOfBoundsException" "the node has no such edge" := ⟨tw695, tw95, by decide +kernel, by decide +kernel, by decide +kernel, by decide +kernel, by decide +kernel⟩
set_option maxRecDepth 20000 in
theorem tX8_282 : tW RX8 99 282 103 "java/lang/IllegalStateException" "there is no analysis" := ⟨tw662, tw94, by decide +kernel, by decide +kernel, by decide +kernel, by decide +kernel, by decide +kernel⟩
set_option maxRecDepth 20000 in
theorem tX8_287 : tW RX8 99 287 103 "java/lang/IllegalStateException" "there is no analysis, or more than 200 paths" := ⟨tw662, tw94, by decide +kernel, by decide +kernel, by decide +kernel, by decide +kernel, by decide +kernel⟩
set_option maxRecDepth 20000 in
theorem tX8_292 : tW RX8 171 292 175 "java/lang/IndexOutOfBoundsException" "there is no such edge" := ⟨tw695, tw95, by decide +kernel, by decide +kernel, by decide +kernel, by decide +kernel, by decide +kernel⟩
set_option maxRecDepth 20000 in
theorem tX8_294 : tW RX8 171 294 175 "java/lang/IndexOutOfBoundsException" "there is no such path" := ⟨tw695, tw95, by decide +kernel, by decide +kernel, by decide +kernel, by decide +kernel, by decide +kernel⟩
theorem tw96 : Cond.classLink RL 8 RX8 ∈ TG := tg_mem 96 (by decide +kernel) rfl
theorem tw97 : Cond.instantiable RX8 9 ∈ TG := tg_mem 97 (by decide +kernel) rfl
theorem nL_8 : nW RL 8 8 9 [.null, .null, .null, .null, .null, .null, .null, .null, .int 0] := ⟨RX8, TX8, tyX8, cf8, tyX8_ok, by decide +kernel, List.forall_mem_cons.mpr ⟨tw96, List.forall_mem_cons.mpr ⟨tw97, List.forall_mem_cons.mpr ⟨tw80, fun _ h => nomatch h⟩⟩⟩⟩
theorem tw935 : Cond.classLink RL 81 RX9 ∈ TG := tg_mem 935 (by decide +kernel) rfl
theorem tw936 : Cond.instantiable RX9 37 ∈ TG := tg_mem 936 (by decide +kernel) rfl
theorem nL_81 : nW RL 81 9 37 [.int 0, .int 0, .int 0, .null, .null, .null, .int 0, .null, .int 0, .null, .null, .null, .null, .null, .int 0, .int 0, .int 0, .int 0, .null, .int 0, .int 0, .null, .null, .int 0, .null, .null, .null, .null, .null, .int 0, .null, .null, .null, .null, .null, .int 0, .long 0] := ⟨RX9, TX9, tyX9, cf9, tyX9_ok, by decide +kernel, List.forall_mem_cons.mpr ⟨tw935, List.forall_mem_cons.mpr ⟨tw936, List.forall_mem_cons.mpr ⟨tw89, fun _ h => nomatch h⟩⟩⟩⟩
theorem tw140 : Cond.arrayClass .int ∈ TG := tg_mem 140 (by decide +kernel) rfl
theorem tw216 : Cond.arrayClass .boolean ∈ TG := tg_mem 216 (by decide +kernel) rfl
theorem tw649 : Cond.arrayClass .byte ∈ TG := tg_mem 649 (by decide +kernel) rfl
theorem tw1346 : Cond.arrayClass .long ∈ TG := tg_mem 1346 (by decide +kernel) rfl
theorem tw1347 : Cond.arrayClass .double ∈ TG := tg_mem 1347 (by decide +kernel) rfl
theorem jX8_260 : Cond.constantLong RX8 260 1831 ∈ TG := tg_mem 541 (by decide +kernel) rfl
theorem jX8_302 : Cond.constantLong RX8 302 31 ∈ TG := tg_mem 549 (by decide +kernel) rfl
theorem jX9_270 : Cond.constantLong RX9 270 1831 ∈ TG := tg_mem 1336 (by decide +kernel) rfl
theorem jX9_260 : Cond.constantLong RX9 260 31 ∈ TG := tg_mem 1341 (by decide +kernel) rfl
theorem tw577 : Cond.classLink RL 13 "java/lang/IllegalArgumentException" ∈ TG := tg_mem 577 (by decide +kernel) rfl
theorem qL_13 : Cond.classLink RL 13 "java/lang/IllegalArgumentException" ∈ TG := tw577
theorem tw654 : Cond.classLink RL 19 "java/lang/IllegalStateException" ∈ TG := tg_mem 654 (by decide +kernel) rfl
theorem qL_19 : Cond.classLink RL 19 "java/lang/IllegalStateException" ∈ TG := tw654
theorem tw682 : Cond.classLink RL 24 "java/lang/IndexOutOfBoundsException" ∈ TG := tg_mem 682 (by decide +kernel) rfl
theorem qL_24 : Cond.classLink RL 24 "java/lang/IndexOutOfBoundsException" ∈ TG := tw682
