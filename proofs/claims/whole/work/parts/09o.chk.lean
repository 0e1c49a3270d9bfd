/-! the tables fit: methods 360 to 399 -/
set_option maxRecDepth 1000000 in
theorem ok_X12_isOutcome : mOK msL m_X12_isOutcome = true := by decide +kernel
set_option maxRecDepth 1000000 in
theorem ok_X12_outcomeOf : mOK msL m_X12_outcomeOf = true := by decide +kernel
set_option maxRecDepth 1000000 in
theorem ok_X12_isQuiet : mOK msL m_X12_isQuiet = true := by decide +kernel
set_option maxRecDepth 1000000 in
theorem ok_X12_quietThread : mOK msL m_X12_quietThread = true := by decide +kernel
set_option maxRecDepth 1000000 in
theorem ok_X12_findIn : mOK msL m_X12_findIn = true := by decide +kernel
set_option maxRecDepth 1000000 in
theorem ok_X12_tryAll : mOK msL m_X12_tryAll = true := by decide +kernel
set_option maxRecDepth 1000000 in
theorem ok_X12_explore : mOK msL m_X12_explore = true := by decide +kernel
set_option maxRecDepth 1000000 in
theorem ok_X12_explored : mOK msL m_X12_explored = true := by decide +kernel
set_option maxRecDepth 1000000 in
theorem ok_X12_isExploredOutcome : mOK msL m_X12_isExploredOutcome = true := by decide +kernel
set_option maxRecDepth 1000000 in
theorem ok_X12_widthExplored : mOK msL m_X12_widthExplored = true := by decide +kernel
set_option maxRecDepth 1000000 in
theorem ok_X12_outcome : mOK msL m_X12_outcome = true := by decide +kernel
set_option maxRecDepth 1000000 in
theorem ok_X12_outcomeCell : mOK msL m_X12_outcomeCell = true := by decide +kernel
set_option maxRecDepth 1000000 in
theorem ok_X12_outcomeLocal : mOK msL m_X12_outcomeLocal = true := by decide +kernel
set_option maxRecDepth 1000000 in
theorem ok_X12_layWays : mOK msL m_X12_layWays = true := by decide +kernel
set_option maxRecDepth 1000000 in
theorem ok_X12_layPath : mOK msL m_X12_layPath = true := by decide +kernel
set_option maxRecDepth 1000000 in
theorem ok_X12_isState : mOK msL m_X12_isState = true := by decide +kernel
set_option maxRecDepth 1000000 in
theorem ok_X12_schedule : mOK msL m_X12_schedule = true := by decide +kernel
set_option maxRecDepth 1000000 in
theorem ok_X12_replay : mOK msL m_X12_replay = true := by decide +kernel
set_option maxRecDepth 1000000 in
theorem ok_X12_endsWith : mOK msL m_X12_endsWith = true := by decide +kernel
set_option maxRecDepth 1000000 in
theorem ok_X12_chances : mOK msL m_X12_chances = true := by decide +kernel
set_option maxRecDepth 1000000 in
theorem ok_X12_layOrder : mOK msL m_X12_layOrder = true := by decide +kernel
set_option maxRecDepth 1000000 in
theorem ok_X12_race : mOK msL m_X12_race = true := by decide +kernel
set_option maxRecDepth 1000000 in
theorem ok_X12_guard : mOK msL m_X12_guard = true := by decide +kernel
set_option maxRecDepth 1000000 in
theorem ok_X12_takeState : mOK msL m_X12_takeState = true := by decide +kernel
set_option maxRecDepth 1000000 in
theorem ok_X12_blockedBy : mOK msL m_X12_blockedBy = true := by decide +kernel
set_option maxRecDepth 1000000 in
theorem ok_X12_leastInRing : mOK msL m_X12_leastInRing = true := by decide +kernel
set_option maxRecDepth 1000000 in
theorem ok_X12_isLostEnd : mOK msL m_X12_isLostEnd = true := by decide +kernel
set_option maxRecDepth 1000000 in
theorem ok_X12_areCrossed : mOK msL m_X12_areCrossed = true := by decide +kernel
set_option maxRecDepth 1000000 in
theorem ok_X12_ring : mOK msL m_X12_ring = true := by decide +kernel
set_option maxRecDepth 1000000 in
theorem ok_X12_order : mOK msL m_X12_order = true := by decide +kernel
set_option maxRecDepth 1000000 in
theorem ok_X12_layFacts : mOK msL m_X12_layFacts = true := by decide +kernel
set_option maxRecDepth 1000000 in
theorem ok_X12_leastWith : mOK msL m_X12_leastWith = true := by decide +kernel
set_option maxRecDepth 1000000 in
theorem ok_X12_judge : mOK msL m_X12_judge = true := by decide +kernel
set_option maxRecDepth 1000000 in
theorem ok_X12_where : mOK msL m_X12_where = true := by decide +kernel
set_option maxRecDepth 1000000 in
theorem ok_X12_lookWays : mOK msL m_X12_lookWays = true := by decide +kernel
set_option maxRecDepth 1000000 in
theorem ok_X12_layParts : mOK msL m_X12_layParts = true := by decide +kernel
set_option maxRecDepth 1000000 in
theorem ok_X12_isLasting : mOK msL m_X12_isLasting = true := by decide +kernel
set_option maxRecDepth 1000000 in
theorem ok_X12_forgetOther : mOK msL m_X12_forgetOther = true := by decide +kernel
set_option maxRecDepth 1000000 in
theorem ok_X12_rewrite : mOK msL m_X12_rewrite = true := by decide +kernel
set_option maxRecDepth 1000000 in
theorem ok_X12_lineBefore : mOK msL m_X12_lineBefore = true := by decide +kernel
theorem okL_9 : ∀ M ∈ msL_9, mOK msL M = true := List.forall_mem_cons.mpr ⟨ok_X12_isOutcome, List.forall_mem_cons.mpr ⟨ok_X12_outcomeOf, List.forall_mem_cons.mpr ⟨ok_X12_isQuiet, List.forall_mem_cons.mpr ⟨ok_X12_quietThread, List.forall_mem_cons.mpr ⟨ok_X12_findIn, List.forall_mem_cons.mpr ⟨ok_X12_tryAll, List.forall_mem_cons.mpr ⟨ok_X12_explore, List.forall_mem_cons.mpr ⟨ok_X12_explored, List.forall_mem_cons.mpr ⟨ok_X12_isExploredOutcome, List.forall_mem_cons.mpr ⟨ok_X12_widthExplored, List.forall_mem_cons.mpr ⟨ok_X12_outcome, List.forall_mem_cons.mpr ⟨ok_X12_outcomeCell, List.forall_mem_cons.mpr ⟨ok_X12_outcomeLocal, List.forall_mem_cons.mpr ⟨ok_X12_layWays, List.forall_mem_cons.mpr ⟨ok_X12_layPath, List.forall_mem_cons.mpr ⟨ok_X12_isState, List.forall_mem_cons.mpr ⟨ok_X12_schedule, List.forall_mem_cons.mpr ⟨ok_X12_replay, List.forall_mem_cons.mpr ⟨ok_X12_endsWith, List.forall_mem_cons.mpr ⟨ok_X12_chances, List.forall_mem_cons.mpr ⟨ok_X12_layOrder, List.forall_mem_cons.mpr ⟨ok_X12_race, List.forall_mem_cons.mpr ⟨ok_X12_guard, List.forall_mem_cons.mpr ⟨ok_X12_takeState, List.forall_mem_cons.mpr ⟨ok_X12_blockedBy, List.forall_mem_cons.mpr ⟨ok_X12_leastInRing, List.forall_mem_cons.mpr ⟨ok_X12_isLostEnd, List.forall_mem_cons.mpr ⟨ok_X12_areCrossed, List.forall_mem_cons.mpr ⟨ok_X12_ring, List.forall_mem_cons.mpr ⟨ok_X12_order, List.forall_mem_cons.mpr ⟨ok_X12_layFacts, List.forall_mem_cons.mpr ⟨ok_X12_leastWith, List.forall_mem_cons.mpr ⟨ok_X12_judge, List.forall_mem_cons.mpr ⟨ok_X12_where, List.forall_mem_cons.mpr ⟨ok_X12_lookWays, List.forall_mem_cons.mpr ⟨ok_X12_layParts, List.forall_mem_cons.mpr ⟨ok_X12_isLasting, List.forall_mem_cons.mpr ⟨ok_X12_forgetOther, List.forall_mem_cons.mpr ⟨ok_X12_rewrite, List.forall_mem_cons.mpr ⟨ok_X12_lineBefore, fun _ h => absurd h List.not_mem_nil⟩⟩⟩⟩⟩⟩⟩⟩⟩⟩⟩⟩⟩⟩⟩⟩⟩⟩⟩⟩⟩⟩⟩⟩⟩⟩⟩⟩⟩⟩⟩⟩⟩⟩⟩⟩⟩⟩⟩⟩
