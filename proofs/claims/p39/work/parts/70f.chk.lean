/-! the tables fit: methods 160 to 199 -/
set_option maxRecDepth 1000000 in
theorem ok_X8_hears : mOK msL m_X8_hears = true := mOK_of4 rfl (by decide +kernel)
set_option maxRecDepth 1000000 in
theorem ok_X9_init : mOK msL m_X9_init = true := mOK_of4 rfl (by decide +kernel)
set_option maxRecDepth 1000000 in
theorem ok_X9_codes : mOK msL m_X9_codes = true := mOK_of4 rfl (by decide +kernel)
set_option maxRecDepth 1000000 in
theorem ok_X9_append : mOK msL m_X9_append = true := mOK_of4 rfl (by decide +kernel)
set_option maxRecDepth 1000000 in
theorem ok_X9_cut : mOK msL m_X9_cut = true := mOK_of4 rfl (by decide +kernel)
set_option maxRecDepth 1000000 in
theorem ok_X9_advance : mOK msL m_X9_advance = true := mOK_of4 rfl (by decide +kernel)
set_option maxRecDepth 1000000 in
theorem ok_X9_byteAt : mOK msL m_X9_byteAt = true := mOK_of4 rfl (by decide +kernel)
set_option maxRecDepth 1000000 in
theorem ok_X9_isLetter : mOK msL m_X9_isLetter = true := mOK_of4 rfl (by decide +kernel)
set_option maxRecDepth 1000000 in
theorem ok_X9_isDigit : mOK msL m_X9_isDigit = true := mOK_of4 rfl (by decide +kernel)
set_option maxRecDepth 1000000 in
theorem ok_X9_skipBlanks : mOK msL m_X9_skipBlanks = true := mOK_of4 rfl (by decide +kernel)
set_option maxRecDepth 1000000 in
theorem ok_X9_cutOne : mOK msL m_X9_cutOne = true := mOK_of4 rfl (by decide +kernel)
set_option maxRecDepth 1000000 in
theorem ok_X9_cutWord : mOK msL m_X9_cutWord = true := mOK_of4 rfl (by decide +kernel)
set_option maxRecDepth 1000000 in
theorem ok_X9_cutNumber : mOK msL m_X9_cutNumber = true := mOK_of4 rfl (by decide +kernel)
set_option maxRecDepth 1000000 in
theorem ok_X9_cutSign : mOK msL m_X9_cutSign = true := mOK_of4 rfl (by decide +kernel)
set_option maxRecDepth 1000000 in
theorem ok_X10_init : mOK msL m_X10_init = true := mOK_of4 rfl (by decide +kernel)
set_option maxRecDepth 1000000 in
theorem okc_X10_tryAll_0 : mOK msL (yX10_tryAll, cX10_tryAll, 10, (some .int), 3, 0, 10, (965, 963, 964, 102), tb_X10_tryAll_0) = true := mOK_of4 rfl (by decide +kernel)
set_option maxRecDepth 1000000 in
theorem okc_X10_tryAll_1 : mOK msL (yX10_tryAll, cX10_tryAll, 10, (some .int), 3, 0, 10, (965, 963, 964, 102), tb_X10_tryAll_1) = true := mOK_of4 rfl (by decide +kernel)
theorem ok_X10_tryAll : mOK msL m_X10_tryAll = true := mOK_app okc_X10_tryAll_0 okc_X10_tryAll_1
set_option maxRecDepth 1000000 in
theorem ok_X10_lookAround : mOK msL m_X10_lookAround = true := mOK_of4 rfl (by decide +kernel)
set_option maxRecDepth 1000000 in
theorem ok_X10_quietStep : mOK msL m_X10_quietStep = true := mOK_of4 rfl (by decide +kernel)
set_option maxRecDepth 1000000 in
theorem ok_X10_tryStep : mOK msL m_X10_tryStep = true := mOK_of4 rfl (by decide +kernel)
set_option maxRecDepth 1000000 in
theorem ok_X10_isWhile : mOK msL m_X10_isWhile = true := mOK_of4 rfl (by decide +kernel)
set_option maxRecDepth 1000000 in
theorem ok_X10_noteEnd : mOK msL m_X10_noteEnd = true := mOK_of4 rfl (by decide +kernel)
set_option maxRecDepth 1000000 in
theorem ok_X10_hasOutcome : mOK msL m_X10_hasOutcome = true := mOK_of4 rfl (by decide +kernel)
set_option maxRecDepth 1000000 in
theorem ok_X10_stateOfOutcome : mOK msL m_X10_stateOfOutcome = true := mOK_of4 rfl (by decide +kernel)
set_option maxRecDepth 1000000 in
theorem ok_X10_slotOfOutcome : mOK msL m_X10_slotOfOutcome = true := mOK_of4 rfl (by decide +kernel)
set_option maxRecDepth 1000000 in
theorem ok_X10_stateOf : mOK msL m_X10_stateOf = true := mOK_of4 rfl (by decide +kernel)
set_option maxRecDepth 1000000 in
theorem ok_X10_threadOf : mOK msL m_X10_threadOf = true := mOK_of4 rfl (by decide +kernel)
set_option maxRecDepth 1000000 in
theorem ok_X10_fewestSwitches : mOK msL m_X10_fewestSwitches = true := mOK_of4 rfl (by decide +kernel)
set_option maxRecDepth 1000000 in
theorem ok_X10_countSwitches : mOK msL m_X10_countSwitches = true := mOK_of4 rfl (by decide +kernel)
set_option maxRecDepth 1000000 in
theorem ok_X10_leaveFrom : mOK msL m_X10_leaveFrom = true := mOK_of4 rfl (by decide +kernel)
set_option maxRecDepth 1000000 in
theorem ok_X10_reach : mOK msL m_X10_reach = true := mOK_of4 rfl (by decide +kernel)
set_option maxRecDepth 1000000 in
theorem ok_X10_countChances : mOK msL m_X10_countChances = true := mOK_of4 rfl (by decide +kernel)
set_option maxRecDepth 1000000 in
theorem ok_X10_drawnOutcome : mOK msL m_X10_drawnOutcome = true := mOK_of4 rfl (by decide +kernel)
set_option maxRecDepth 1000000 in
theorem ok_X10_arrange : mOK msL m_X10_arrange = true := mOK_of4 rfl (by decide +kernel)
set_option maxRecDepth 1000000 in
theorem ok_X10_firstReady : mOK msL m_X10_firstReady = true := mOK_of4 rfl (by decide +kernel)
theorem okL_4 : ∀ M ∈ msL_4, mOK msL M = true := List.forall_mem_cons.mpr ⟨ok_X8_hears, List.forall_mem_cons.mpr ⟨ok_X5_isCell, List.forall_mem_cons.mpr ⟨ok_X5_isCell, List.forall_mem_cons.mpr ⟨ok_X9_init, List.forall_mem_cons.mpr ⟨ok_X9_codes, List.forall_mem_cons.mpr ⟨ok_X9_append, List.forall_mem_cons.mpr ⟨ok_X9_cut, List.forall_mem_cons.mpr ⟨ok_X9_advance, List.forall_mem_cons.mpr ⟨ok_X9_byteAt, List.forall_mem_cons.mpr ⟨ok_X9_isLetter, List.forall_mem_cons.mpr ⟨ok_X9_isDigit, List.forall_mem_cons.mpr ⟨ok_X9_skipBlanks, List.forall_mem_cons.mpr ⟨ok_X9_cutOne, List.forall_mem_cons.mpr ⟨ok_X9_cutWord, List.forall_mem_cons.mpr ⟨ok_X9_cutNumber, List.forall_mem_cons.mpr ⟨ok_X9_cutSign, List.forall_mem_cons.mpr ⟨ok_X10_init, List.forall_mem_cons.mpr ⟨ok_X10_tryAll, List.forall_mem_cons.mpr ⟨ok_X10_lookAround, List.forall_mem_cons.mpr ⟨ok_X10_quietStep, List.forall_mem_cons.mpr ⟨ok_X10_tryStep, List.forall_mem_cons.mpr ⟨ok_X10_isWhile, List.forall_mem_cons.mpr ⟨ok_X10_noteEnd, List.forall_mem_cons.mpr ⟨ok_X5_isCell, List.forall_mem_cons.mpr ⟨ok_X10_hasOutcome, List.forall_mem_cons.mpr ⟨ok_X10_stateOfOutcome, List.forall_mem_cons.mpr ⟨ok_X10_slotOfOutcome, List.forall_mem_cons.mpr ⟨ok_X10_stateOf, List.forall_mem_cons.mpr ⟨ok_X10_threadOf, List.forall_mem_cons.mpr ⟨ok_X5_isCell, List.forall_mem_cons.mpr ⟨ok_X5_isCell, List.forall_mem_cons.mpr ⟨ok_X5_isCell, List.forall_mem_cons.mpr ⟨ok_X10_fewestSwitches, List.forall_mem_cons.mpr ⟨ok_X10_countSwitches, List.forall_mem_cons.mpr ⟨ok_X10_leaveFrom, List.forall_mem_cons.mpr ⟨ok_X10_reach, List.forall_mem_cons.mpr ⟨ok_X10_countChances, List.forall_mem_cons.mpr ⟨ok_X10_drawnOutcome, List.forall_mem_cons.mpr ⟨ok_X10_arrange, List.forall_mem_cons.mpr ⟨ok_X10_firstReady, fun _ h => absurd h List.not_mem_nil⟩⟩⟩⟩⟩⟩⟩⟩⟩⟩⟩⟩⟩⟩⟩⟩⟩⟩⟩⟩⟩⟩⟩⟩⟩⟩⟩⟩⟩⟩⟩⟩⟩⟩⟩⟩⟩⟩⟩⟩
