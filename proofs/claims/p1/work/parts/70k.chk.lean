/-! the tables fit: methods 360 to 399 -/
set_option maxRecDepth 1000000 in
theorem ok_X12_isOutcome : mOK msL m_X12_isOutcome = true := mOK_of4 rfl (by decide +kernel)
set_option maxRecDepth 1000000 in
theorem ok_X12_outcomeOf : mOK msL m_X12_outcomeOf = true := mOK_of4 rfl (by decide +kernel)
set_option maxRecDepth 1000000 in
theorem ok_X12_isQuiet : mOK msL m_X12_isQuiet = true := mOK_of4 rfl (by decide +kernel)
set_option maxRecDepth 1000000 in
theorem ok_X12_quietThread : mOK msL m_X12_quietThread = true := mOK_of4 rfl (by decide +kernel)
set_option maxRecDepth 1000000 in
theorem okc_X12_findIn_0 : mOK msL (yX12_findIn, cX12_findIn, 11, none, 1, 0, 12, (2967, 2966, 197, 243), tb_X12_findIn_0) = true := mOK_of4 rfl (by decide +kernel)
set_option maxRecDepth 1000000 in
theorem okc_X12_findIn_1 : mOK msL (yX12_findIn, cX12_findIn, 11, none, 1, 0, 12, (2967, 2966, 197, 243), tb_X12_findIn_1) = true := mOK_of4 rfl (by decide +kernel)
theorem ok_X12_findIn : mOK msL m_X12_findIn = true := mOK_app okc_X12_findIn_0 okc_X12_findIn_1
set_option maxRecDepth 1000000 in
theorem okc_X12_tryAll_0 : mOK msL (yX12_tryAll, cX12_tryAll, 9, (some .int), 2, 0, 12, (2945, 2944, 192, 243), tb_X12_tryAll_0) = true := mOK_of4 rfl (by decide +kernel)
set_option maxRecDepth 1000000 in
theorem okc_X12_tryAll_1 : mOK msL (yX12_tryAll, cX12_tryAll, 9, (some .int), 2, 0, 12, (2945, 2944, 192, 243), tb_X12_tryAll_1) = true := mOK_of4 rfl (by decide +kernel)
set_option maxRecDepth 1000000 in
theorem okc_X12_tryAll_2 : mOK msL (yX12_tryAll, cX12_tryAll, 9, (some .int), 2, 0, 12, (2945, 2944, 192, 243), tb_X12_tryAll_2) = true := mOK_of4 rfl (by decide +kernel)
theorem ok_X12_tryAll : mOK msL m_X12_tryAll = true := mOK_app okc_X12_tryAll_0 (mOK_app okc_X12_tryAll_1 okc_X12_tryAll_2)
set_option maxRecDepth 1000000 in
theorem ok_X12_explore : mOK msL m_X12_explore = true := mOK_of4 rfl (by decide +kernel)
set_option maxRecDepth 1000000 in
theorem ok_X12_explored : mOK msL m_X12_explored = true := mOK_of4 rfl (by decide +kernel)
set_option maxRecDepth 1000000 in
theorem ok_X12_isExploredOutcome : mOK msL m_X12_isExploredOutcome = true := mOK_of4 rfl (by decide +kernel)
set_option maxRecDepth 1000000 in
theorem ok_X12_widthExplored : mOK msL m_X12_widthExplored = true := mOK_of4 rfl (by decide +kernel)
set_option maxRecDepth 1000000 in
theorem ok_X12_outcome : mOK msL m_X12_outcome = true := mOK_of4 rfl (by decide +kernel)
set_option maxRecDepth 1000000 in
theorem ok_X12_outcomeCell : mOK msL m_X12_outcomeCell = true := mOK_of4 rfl (by decide +kernel)
set_option maxRecDepth 1000000 in
theorem ok_X12_outcomeLocal : mOK msL m_X12_outcomeLocal = true := mOK_of4 rfl (by decide +kernel)
set_option maxRecDepth 1000000 in
theorem okc_X12_layWays_0 : mOK msL (yX12_layWays, cX12_layWays, 10, none, 0, 0, 12, (3003, 3002, 203, 243), tb_X12_layWays_0) = true := mOK_of4 rfl (by decide +kernel)
set_option maxRecDepth 1000000 in
theorem okc_X12_layWays_1 : mOK msL (yX12_layWays, cX12_layWays, 10, none, 0, 0, 12, (3003, 3002, 203, 243), tb_X12_layWays_1) = true := mOK_of4 rfl (by decide +kernel)
theorem ok_X12_layWays : mOK msL m_X12_layWays = true := mOK_app okc_X12_layWays_0 okc_X12_layWays_1
set_option maxRecDepth 1000000 in
theorem ok_X12_layPath : mOK msL m_X12_layPath = true := mOK_of4 rfl (by decide +kernel)
set_option maxRecDepth 1000000 in
theorem ok_X12_isState : mOK msL m_X12_isState = true := mOK_of4 rfl (by decide +kernel)
set_option maxRecDepth 1000000 in
theorem ok_X12_schedule : mOK msL m_X12_schedule = true := mOK_of4 rfl (by decide +kernel)
set_option maxRecDepth 1000000 in
theorem ok_X12_replay : mOK msL m_X12_replay = true := mOK_of4 rfl (by decide +kernel)
set_option maxRecDepth 1000000 in
theorem okc_X12_endsWith_0 : mOK msL (yX12_endsWith, cX12_endsWith, 7, (some .boolean), 1, 0, 12, (3046, 3045, 208, 243), tb_X12_endsWith_0) = true := mOK_of4 rfl (by decide +kernel)
set_option maxRecDepth 1000000 in
theorem okc_X12_endsWith_1 : mOK msL (yX12_endsWith, cX12_endsWith, 7, (some .boolean), 1, 0, 12, (3046, 3045, 208, 243), tb_X12_endsWith_1) = true := mOK_of4 rfl (by decide +kernel)
theorem ok_X12_endsWith : mOK msL m_X12_endsWith = true := mOK_app okc_X12_endsWith_0 okc_X12_endsWith_1
set_option maxRecDepth 1000000 in
theorem ok_X12_chances : mOK msL m_X12_chances = true := mOK_of4 rfl (by decide +kernel)
set_option maxRecDepth 1000000 in
theorem ok_X12_layOrder : mOK msL m_X12_layOrder = true := mOK_of4 rfl (by decide +kernel)
set_option maxRecDepth 1000000 in
theorem ok_X12_race : mOK msL m_X12_race = true := mOK_of4 rfl (by decide +kernel)
set_option maxRecDepth 1000000 in
theorem ok_X12_guard : mOK msL m_X12_guard = true := mOK_of4 rfl (by decide +kernel)
set_option maxRecDepth 1000000 in
theorem ok_X12_takeState : mOK msL m_X12_takeState = true := mOK_of4 rfl (by decide +kernel)
set_option maxRecDepth 1000000 in
theorem ok_X12_blockedBy : mOK msL m_X12_blockedBy = true := mOK_of4 rfl (by decide +kernel)
set_option maxRecDepth 1000000 in
theorem ok_X12_leastInRing : mOK msL m_X12_leastInRing = true := mOK_of4 rfl (by decide +kernel)
set_option maxRecDepth 1000000 in
theorem ok_X12_isLostEnd : mOK msL m_X12_isLostEnd = true := mOK_of4 rfl (by decide +kernel)
set_option maxRecDepth 1000000 in
theorem ok_X12_areCrossed : mOK msL m_X12_areCrossed = true := mOK_of4 rfl (by decide +kernel)
set_option maxRecDepth 1000000 in
theorem ok_X12_ring : mOK msL m_X12_ring = true := mOK_of4 rfl (by decide +kernel)
set_option maxRecDepth 1000000 in
theorem ok_X12_order : mOK msL m_X12_order = true := mOK_of4 rfl (by decide +kernel)
set_option maxRecDepth 1000000 in
theorem ok_X12_layFacts : mOK msL m_X12_layFacts = true := mOK_of4 rfl (by decide +kernel)
set_option maxRecDepth 1000000 in
theorem ok_X12_leastWith : mOK msL m_X12_leastWith = true := mOK_of4 rfl (by decide +kernel)
set_option maxRecDepth 1000000 in
theorem okc_X12_judge_0 : mOK msL (yX12_judge, cX12_judge, 7, (some .int), 0, 0, 12, (3086, 3084, 3085, 243), tb_X12_judge_0) = true := mOK_of4 rfl (by decide +kernel)
set_option maxRecDepth 1000000 in
theorem okc_X12_judge_1 : mOK msL (yX12_judge, cX12_judge, 7, (some .int), 0, 0, 12, (3086, 3084, 3085, 243), tb_X12_judge_1) = true := mOK_of4 rfl (by decide +kernel)
theorem ok_X12_judge : mOK msL m_X12_judge = true := mOK_app okc_X12_judge_0 okc_X12_judge_1
set_option maxRecDepth 1000000 in
theorem ok_X12_where : mOK msL m_X12_where = true := mOK_of4 rfl (by decide +kernel)
set_option maxRecDepth 1000000 in
theorem okc_X12_lookWays_0 : mOK msL (yX12_lookWays, cX12_lookWays, 8, (some .int), 2, 0, 12, (3098, 3097, 216, 243), tb_X12_lookWays_0) = true := mOK_of4 rfl (by decide +kernel)
set_option maxRecDepth 1000000 in
theorem okc_X12_lookWays_1 : mOK msL (yX12_lookWays, cX12_lookWays, 8, (some .int), 2, 0, 12, (3098, 3097, 216, 243), tb_X12_lookWays_1) = true := mOK_of4 rfl (by decide +kernel)
theorem ok_X12_lookWays : mOK msL m_X12_lookWays = true := mOK_app okc_X12_lookWays_0 okc_X12_lookWays_1
set_option maxRecDepth 1000000 in
theorem okc_X12_layParts_0 : mOK msL (yX12_layParts, cX12_layParts, 7, none, 0, 0, 12, (3102, 3101, 217, 243), tb_X12_layParts_0) = true := mOK_of4 rfl (by decide +kernel)
set_option maxRecDepth 1000000 in
theorem okc_X12_layParts_1 : mOK msL (yX12_layParts, cX12_layParts, 7, none, 0, 0, 12, (3102, 3101, 217, 243), tb_X12_layParts_1) = true := mOK_of4 rfl (by decide +kernel)
set_option maxRecDepth 1000000 in
theorem okc_X12_layParts_2 : mOK msL (yX12_layParts, cX12_layParts, 7, none, 0, 0, 12, (3102, 3101, 217, 243), tb_X12_layParts_2) = true := mOK_of4 rfl (by decide +kernel)
theorem ok_X12_layParts : mOK msL m_X12_layParts = true := mOK_app okc_X12_layParts_0 (mOK_app okc_X12_layParts_1 okc_X12_layParts_2)
set_option maxRecDepth 1000000 in
theorem ok_X12_isLasting : mOK msL m_X12_isLasting = true := mOK_of4 rfl (by decide +kernel)
set_option maxRecDepth 1000000 in
theorem ok_X12_forgetOther : mOK msL m_X12_forgetOther = true := mOK_of4 rfl (by decide +kernel)
set_option maxRecDepth 1000000 in
theorem ok_X12_rewrite : mOK msL m_X12_rewrite = true := mOK_of4 rfl (by decide +kernel)
set_option maxRecDepth 1000000 in
theorem ok_X12_lineBefore : mOK msL m_X12_lineBefore = true := mOK_of4 rfl (by decide +kernel)
theorem okL_9 : ∀ M ∈ msL_9, mOK msL M = true := List.forall_mem_cons.mpr ⟨ok_X12_isOutcome, List.forall_mem_cons.mpr ⟨ok_X12_outcomeOf, List.forall_mem_cons.mpr ⟨ok_X12_isQuiet, List.forall_mem_cons.mpr ⟨ok_X12_quietThread, List.forall_mem_cons.mpr ⟨ok_X12_findIn, List.forall_mem_cons.mpr ⟨ok_X12_tryAll, List.forall_mem_cons.mpr ⟨ok_X12_explore, List.forall_mem_cons.mpr ⟨ok_X12_explored, List.forall_mem_cons.mpr ⟨ok_X12_isExploredOutcome, List.forall_mem_cons.mpr ⟨ok_X12_widthExplored, List.forall_mem_cons.mpr ⟨ok_X12_outcome, List.forall_mem_cons.mpr ⟨ok_X12_outcomeCell, List.forall_mem_cons.mpr ⟨ok_X12_outcomeLocal, List.forall_mem_cons.mpr ⟨ok_X12_layWays, List.forall_mem_cons.mpr ⟨ok_X12_layPath, List.forall_mem_cons.mpr ⟨ok_X12_isState, List.forall_mem_cons.mpr ⟨ok_X12_schedule, List.forall_mem_cons.mpr ⟨ok_X12_replay, List.forall_mem_cons.mpr ⟨ok_X12_endsWith, List.forall_mem_cons.mpr ⟨ok_X12_chances, List.forall_mem_cons.mpr ⟨ok_X12_layOrder, List.forall_mem_cons.mpr ⟨ok_X12_race, List.forall_mem_cons.mpr ⟨ok_X12_guard, List.forall_mem_cons.mpr ⟨ok_X12_takeState, List.forall_mem_cons.mpr ⟨ok_X12_blockedBy, List.forall_mem_cons.mpr ⟨ok_X12_leastInRing, List.forall_mem_cons.mpr ⟨ok_X12_isLostEnd, List.forall_mem_cons.mpr ⟨ok_X12_areCrossed, List.forall_mem_cons.mpr ⟨ok_X12_ring, List.forall_mem_cons.mpr ⟨ok_X12_order, List.forall_mem_cons.mpr ⟨ok_X12_layFacts, List.forall_mem_cons.mpr ⟨ok_X12_leastWith, List.forall_mem_cons.mpr ⟨ok_X12_judge, List.forall_mem_cons.mpr ⟨ok_X12_where, List.forall_mem_cons.mpr ⟨ok_X12_lookWays, List.forall_mem_cons.mpr ⟨ok_X12_layParts, List.forall_mem_cons.mpr ⟨ok_X12_isLasting, List.forall_mem_cons.mpr ⟨ok_X12_forgetOther, List.forall_mem_cons.mpr ⟨ok_X12_rewrite, List.forall_mem_cons.mpr ⟨ok_X12_lineBefore, fun _ h => absurd h List.not_mem_nil⟩⟩⟩⟩⟩⟩⟩⟩⟩⟩⟩⟩⟩⟩⟩⟩⟩⟩⟩⟩⟩⟩⟩⟩⟩⟩⟩⟩⟩⟩⟩⟩⟩⟩⟩⟩⟩⟩⟩⟩
