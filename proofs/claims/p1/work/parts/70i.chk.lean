/-! the tables fit: methods 280 to 319 -/
set_option maxRecDepth 1000000 in
theorem ok_X12_takeExpGood : mOK msL m_X12_takeExpGood = true := mOK_of4 rfl (by decide +kernel)
set_option maxRecDepth 1000000 in
theorem ok_X12_takeCell : mOK msL m_X12_takeCell = true := mOK_of4 rfl (by decide +kernel)
set_option maxRecDepth 1000000 in
theorem ok_X12_takeInto : mOK msL m_X12_takeInto = true := mOK_of4 rfl (by decide +kernel)
set_option maxRecDepth 1000000 in
theorem ok_X12_readAssignment : mOK msL m_X12_readAssignment = true := mOK_of4 rfl (by decide +kernel)
set_option maxRecDepth 1000000 in
theorem ok_X12_readBlocks : mOK msL m_X12_readBlocks = true := mOK_of4 rfl (by decide +kernel)
set_option maxRecDepth 1000000 in
theorem ok_X12_isLocalOfSome : mOK msL m_X12_isLocalOfSome = true := mOK_of4 rfl (by decide +kernel)
set_option maxRecDepth 1000000 in
theorem ok_X12_checkName : mOK msL m_X12_checkName = true := mOK_of4 rfl (by decide +kernel)
set_option maxRecDepth 1000000 in
theorem ok_X12_readCell : mOK msL m_X12_readCell = true := mOK_of4 rfl (by decide +kernel)
set_option maxRecDepth 1000000 in
theorem ok_X12_readThread : mOK msL m_X12_readThread = true := mOK_of4 rfl (by decide +kernel)
set_option maxRecDepth 1000000 in
theorem okc_X12_program_0 : mOK msL (yX12_program, cX12_program, 2, (some .int), 0, 0, 12, (2428, 2426, 2427, 243), tb_X12_program_0) = true := mOK_of4 rfl (by decide +kernel)
set_option maxRecDepth 1000000 in
theorem okc_X12_program_1 : mOK msL (yX12_program, cX12_program, 2, (some .int), 0, 0, 12, (2428, 2426, 2427, 243), tb_X12_program_1) = true := mOK_of4 rfl (by decide +kernel)
theorem ok_X12_program : mOK msL m_X12_program = true := mOK_app okc_X12_program_0 okc_X12_program_1
set_option maxRecDepth 1000000 in
theorem ok_X12_count : mOK msL m_X12_count = true := mOK_of4 rfl (by decide +kernel)
set_option maxRecDepth 1000000 in
theorem ok_X12_line : mOK msL m_X12_line = true := mOK_of4 rfl (by decide +kernel)
set_option maxRecDepth 1000000 in
theorem ok_X12_layFlow : mOK msL m_X12_layFlow = true := mOK_of4 rfl (by decide +kernel)
set_option maxRecDepth 1000000 in
theorem okc_X12_copyProgram_0 : mOK msL (yX12_copyProgram, cX12_copyProgram, 6, none, 2, 0, 12, (2697, 2696, 154, 243), tb_X12_copyProgram_0) = true := mOK_of4 rfl (by decide +kernel)
set_option maxRecDepth 1000000 in
theorem okc_X12_copyProgram_1 : mOK msL (yX12_copyProgram, cX12_copyProgram, 6, none, 2, 0, 12, (2697, 2696, 154, 243), tb_X12_copyProgram_1) = true := mOK_of4 rfl (by decide +kernel)
theorem ok_X12_copyProgram : mOK msL m_X12_copyProgram = true := mOK_app okc_X12_copyProgram_0 okc_X12_copyProgram_1
set_option maxRecDepth 1000000 in
theorem ok_X12_truth : mOK msL m_X12_truth = true := mOK_of4 rfl (by decide +kernel)
set_option maxRecDepth 1000000 in
theorem ok_X12_isValue : mOK msL m_X12_isValue = true := mOK_of4 rfl (by decide +kernel)
set_option maxRecDepth 1000000 in
theorem okc_X12_worked_0 : mOK msL (yX12_worked, cX12_worked, 8, (some .int), 3, 0, 12, (2755, 2754, 167, 243), tb_X12_worked_0) = true := mOK_of4 rfl (by decide +kernel)
set_option maxRecDepth 1000000 in
theorem okc_X12_worked_1 : mOK msL (yX12_worked, cX12_worked, 8, (some .int), 3, 0, 12, (2755, 2754, 167, 243), tb_X12_worked_1) = true := mOK_of4 rfl (by decide +kernel)
theorem ok_X12_worked : mOK msL m_X12_worked = true := mOK_app okc_X12_worked_0 okc_X12_worked_1
set_option maxRecDepth 1000000 in
theorem ok_X12_joined : mOK msL m_X12_joined = true := mOK_of4 rfl (by decide +kernel)
set_option maxRecDepth 1000000 in
theorem ok_X12_factOf : mOK msL m_X12_factOf = true := mOK_of4 rfl (by decide +kernel)
set_option maxRecDepth 1000000 in
theorem ok_X12_widthOf : mOK msL m_X12_widthOf = true := mOK_of4 rfl (by decide +kernel)
set_option maxRecDepth 1000000 in
theorem ok_X12_firstState : mOK msL m_X12_firstState = true := mOK_of4 rfl (by decide +kernel)
set_option maxRecDepth 1000000 in
theorem ok_X12_beginThread : mOK msL m_X12_beginThread = true := mOK_of4 rfl (by decide +kernel)
set_option maxRecDepth 1000000 in
theorem ok_X12_goTo : mOK msL m_X12_goTo = true := mOK_of4 rfl (by decide +kernel)
set_option maxRecDepth 1000000 in
theorem ok_X12_lineOf : mOK msL m_X12_lineOf = true := mOK_of4 rfl (by decide +kernel)
set_option maxRecDepth 1000000 in
theorem ok_X12_viewOf : mOK msL m_X12_viewOf = true := mOK_of4 rfl (by decide +kernel)
set_option maxRecDepth 1000000 in
theorem ok_X12_withView : mOK msL m_X12_withView = true := mOK_of4 rfl (by decide +kernel)
set_option maxRecDepth 1000000 in
theorem ok_X12_joinOf : mOK msL m_X12_joinOf = true := mOK_of4 rfl (by decide +kernel)
set_option maxRecDepth 1000000 in
theorem ok_X12_lastWrite : mOK msL m_X12_lastWrite = true := mOK_of4 rfl (by decide +kernel)
set_option maxRecDepth 1000000 in
theorem ok_X12_write : mOK msL m_X12_write = true := mOK_of4 rfl (by decide +kernel)
set_option maxRecDepth 1000000 in
theorem ok_X12_seeLast : mOK msL m_X12_seeLast = true := mOK_of4 rfl (by decide +kernel)
set_option maxRecDepth 1000000 in
theorem ok_X12_isEmpty : mOK msL m_X12_isEmpty = true := mOK_of4 rfl (by decide +kernel)
set_option maxRecDepth 1000000 in
theorem ok_X12_waitingFor : mOK msL m_X12_waitingFor = true := mOK_of4 rfl (by decide +kernel)
set_option maxRecDepth 1000000 in
theorem okc_X12_choices_0 : mOK msL (yX12_choices, cX12_choices, 7, (some .int), 1, 0, 12, (2732, 2731, 162, 243), tb_X12_choices_0) = true := mOK_of4 rfl (by decide +kernel)
set_option maxRecDepth 1000000 in
theorem okc_X12_choices_1 : mOK msL (yX12_choices, cX12_choices, 7, (some .int), 1, 0, 12, (2732, 2731, 162, 243), tb_X12_choices_1) = true := mOK_of4 rfl (by decide +kernel)
set_option maxRecDepth 1000000 in
theorem okc_X12_choices_2 : mOK msL (yX12_choices, cX12_choices, 7, (some .int), 1, 0, 12, (2732, 2731, 162, 243), tb_X12_choices_2) = true := mOK_of4 rfl (by decide +kernel)
theorem ok_X12_choices : mOK msL m_X12_choices = true := mOK_app okc_X12_choices_0 (mOK_app okc_X12_choices_1 okc_X12_choices_2)
set_option maxRecDepth 1000000 in
theorem ok_X12_wouldWrite : mOK msL m_X12_wouldWrite = true := mOK_of4 rfl (by decide +kernel)
set_option maxRecDepth 1000000 in
theorem ok_X12_hasFlush : mOK msL m_X12_hasFlush = true := mOK_of4 rfl (by decide +kernel)
set_option maxRecDepth 1000000 in
theorem ok_X12_lookReady : mOK msL m_X12_lookReady = true := mOK_of4 rfl (by decide +kernel)
set_option maxRecDepth 1000000 in
theorem ok_X12_isReadyStep : mOK msL m_X12_isReadyStep = true := mOK_of4 rfl (by decide +kernel)
set_option maxRecDepth 1000000 in
theorem ok_X12_goWrong : mOK msL m_X12_goWrong = true := mOK_of4 rfl (by decide +kernel)
set_option maxRecDepth 1000000 in
theorem ok_X12_takeLock : mOK msL m_X12_takeLock = true := mOK_of4 rfl (by decide +kernel)
set_option maxRecDepth 1000000 in
theorem ok_X12_joinView : mOK msL m_X12_joinView = true := mOK_of4 rfl (by decide +kernel)
theorem okL_7 : ∀ M ∈ msL_7, mOK msL M = true := List.forall_mem_cons.mpr ⟨ok_X12_takeExpGood, List.forall_mem_cons.mpr ⟨ok_X12_takeCell, List.forall_mem_cons.mpr ⟨ok_X12_takeInto, List.forall_mem_cons.mpr ⟨ok_X12_readAssignment, List.forall_mem_cons.mpr ⟨ok_X12_readBlocks, List.forall_mem_cons.mpr ⟨ok_X12_isLocalOfSome, List.forall_mem_cons.mpr ⟨ok_X12_checkName, List.forall_mem_cons.mpr ⟨ok_X12_readCell, List.forall_mem_cons.mpr ⟨ok_X12_readThread, List.forall_mem_cons.mpr ⟨ok_X12_program, List.forall_mem_cons.mpr ⟨ok_X12_count, List.forall_mem_cons.mpr ⟨ok_X12_line, List.forall_mem_cons.mpr ⟨ok_X12_layFlow, List.forall_mem_cons.mpr ⟨ok_X12_copyProgram, List.forall_mem_cons.mpr ⟨ok_X12_truth, List.forall_mem_cons.mpr ⟨ok_X12_isValue, List.forall_mem_cons.mpr ⟨ok_X12_worked, List.forall_mem_cons.mpr ⟨ok_X12_joined, List.forall_mem_cons.mpr ⟨ok_X12_factOf, List.forall_mem_cons.mpr ⟨ok_X12_widthOf, List.forall_mem_cons.mpr ⟨ok_X12_firstState, List.forall_mem_cons.mpr ⟨ok_X12_beginThread, List.forall_mem_cons.mpr ⟨ok_X12_goTo, List.forall_mem_cons.mpr ⟨ok_X12_lineOf, List.forall_mem_cons.mpr ⟨ok_X12_viewOf, List.forall_mem_cons.mpr ⟨ok_X12_withView, List.forall_mem_cons.mpr ⟨ok_X12_joinOf, List.forall_mem_cons.mpr ⟨ok_X12_lastWrite, List.forall_mem_cons.mpr ⟨ok_X12_write, List.forall_mem_cons.mpr ⟨ok_X12_seeLast, List.forall_mem_cons.mpr ⟨ok_X12_isEmpty, List.forall_mem_cons.mpr ⟨ok_X12_waitingFor, List.forall_mem_cons.mpr ⟨ok_X12_choices, List.forall_mem_cons.mpr ⟨ok_X12_wouldWrite, List.forall_mem_cons.mpr ⟨ok_X12_hasFlush, List.forall_mem_cons.mpr ⟨ok_X12_lookReady, List.forall_mem_cons.mpr ⟨ok_X12_isReadyStep, List.forall_mem_cons.mpr ⟨ok_X12_goWrong, List.forall_mem_cons.mpr ⟨ok_X12_takeLock, List.forall_mem_cons.mpr ⟨ok_X12_joinView, fun _ h => absurd h List.not_mem_nil⟩⟩⟩⟩⟩⟩⟩⟩⟩⟩⟩⟩⟩⟩⟩⟩⟩⟩⟩⟩⟩⟩⟩⟩⟩⟩⟩⟩⟩⟩⟩⟩⟩⟩⟩⟩⟩⟩⟩⟩
