/-! the tables fit: methods 320 to 359 -/
set_option maxRecDepth 1000000 in
theorem ok_X12_flush : mOK msL m_X12_flush = true := mOK_of4 rfl (by decide +kernel)
set_option maxRecDepth 1000000 in
theorem ok_X12_loaded : mOK msL m_X12_loaded = true := mOK_of4 rfl (by decide +kernel)
set_option maxRecDepth 1000000 in
theorem ok_X12_storeNow : mOK msL m_X12_storeNow = true := mOK_of4 rfl (by decide +kernel)
set_option maxRecDepth 1000000 in
theorem ok_X12_setLocal : mOK msL m_X12_setLocal = true := mOK_of4 rfl (by decide +kernel)
set_option maxRecDepth 1000000 in
theorem okc_X12_doStep_0 : mOK msL (yX12_doStep, cX12_doStep, 9, none, 2, 0, 12, (2796, 2795, 173, 243), tb_X12_doStep_0) = true := mOK_of4 rfl (by decide +kernel)
set_option maxRecDepth 1000000 in
theorem okc_X12_doStep_1 : mOK msL (yX12_doStep, cX12_doStep, 9, none, 2, 0, 12, (2796, 2795, 173, 243), tb_X12_doStep_1) = true := mOK_of4 rfl (by decide +kernel)
set_option maxRecDepth 1000000 in
theorem okc_X12_doStep_2 : mOK msL (yX12_doStep, cX12_doStep, 9, none, 2, 0, 12, (2796, 2795, 173, 243), tb_X12_doStep_2) = true := mOK_of4 rfl (by decide +kernel)
set_option maxRecDepth 1000000 in
theorem okc_X12_doStep_3 : mOK msL (yX12_doStep, cX12_doStep, 9, none, 2, 0, 12, (2796, 2795, 173, 243), tb_X12_doStep_3) = true := mOK_of4 rfl (by decide +kernel)
theorem ok_X12_doStep : mOK msL m_X12_doStep = true := mOK_app okc_X12_doStep_0 (mOK_app okc_X12_doStep_1 (mOK_app okc_X12_doStep_2 okc_X12_doStep_3))
set_option maxRecDepth 1000000 in
theorem ok_X12_atOnce : mOK msL m_X12_atOnce = true := mOK_of4 rfl (by decide +kernel)
set_option maxRecDepth 1000000 in
theorem ok_X12_beginOther : mOK msL m_X12_beginOther = true := mOK_of4 rfl (by decide +kernel)
set_option maxRecDepth 1000000 in
theorem okc_X12_doLock_0 : mOK msL (yX12_doLock, cX12_doLock, 8, none, 3, 0, 12, (2850, 2849, 185, 243), tb_X12_doLock_0) = true := mOK_of4 rfl (by decide +kernel)
set_option maxRecDepth 1000000 in
theorem okc_X12_doLock_1 : mOK msL (yX12_doLock, cX12_doLock, 8, none, 3, 0, 12, (2850, 2849, 185, 243), tb_X12_doLock_1) = true := mOK_of4 rfl (by decide +kernel)
theorem ok_X12_doLock : mOK msL m_X12_doLock = true := mOK_app okc_X12_doLock_0 okc_X12_doLock_1
set_option maxRecDepth 1000000 in
theorem ok_X12_keepRun : mOK msL m_X12_keepRun = true := mOK_of4 rfl (by decide +kernel)
set_option maxRecDepth 1000000 in
theorem ok_X12_takeRun : mOK msL m_X12_takeRun = true := mOK_of4 rfl (by decide +kernel)
set_option maxRecDepth 1000000 in
theorem ok_X12_beginRun : mOK msL m_X12_beginRun = true := mOK_of4 rfl (by decide +kernel)
set_option maxRecDepth 1000000 in
theorem ok_X12_readyNow : mOK msL m_X12_readyNow = true := mOK_of4 rfl (by decide +kernel)
set_option maxRecDepth 1000000 in
theorem ok_X12_begin : mOK msL m_X12_begin = true := mOK_of4 rfl (by decide +kernel)
set_option maxRecDepth 1000000 in
theorem ok_X12_ready : mOK msL m_X12_ready = true := mOK_of4 rfl (by decide +kernel)
set_option maxRecDepth 1000000 in
theorem ok_X12_stepRun : mOK msL m_X12_stepRun = true := mOK_of4 rfl (by decide +kernel)
set_option maxRecDepth 1000000 in
theorem ok_X12_turn : mOK msL m_X12_turn = true := mOK_of4 rfl (by decide +kernel)
set_option maxRecDepth 1000000 in
theorem ok_X12_isThread : mOK msL m_X12_isThread = true := mOK_of4 rfl (by decide +kernel)
set_option maxRecDepth 1000000 in
theorem ok_X12_thread : mOK msL m_X12_thread = true := mOK_of4 rfl (by decide +kernel)
set_option maxRecDepth 1000000 in
theorem ok_X12_local : mOK msL m_X12_local = true := mOK_of4 rfl (by decide +kernel)
set_option maxRecDepth 1000000 in
theorem ok_X12_cell : mOK msL m_X12_cell = true := mOK_of4 rfl (by decide +kernel)
set_option maxRecDepth 1000000 in
theorem ok_X12_seen : mOK msL m_X12_seen = true := mOK_of4 rfl (by decide +kernel)
set_option maxRecDepth 1000000 in
theorem ok_X12_held : mOK msL m_X12_held = true := mOK_of4 rfl (by decide +kernel)
set_option maxRecDepth 1000000 in
theorem ok_X12_step : mOK msL m_X12_step = true := mOK_of4 rfl (by decide +kernel)
set_option maxRecDepth 1000000 in
theorem ok_X12_isAtOnce : mOK msL m_X12_isAtOnce = true := mOK_of4 rfl (by decide +kernel)
set_option maxRecDepth 1000000 in
theorem okc_X12_isDirect_0 : mOK msL (yX12_isDirect, cX12_isDirect, 8, (some .boolean), 2, 0, 12, (2890, 2889, 188, 243), tb_X12_isDirect_0) = true := mOK_of4 rfl (by decide +kernel)
set_option maxRecDepth 1000000 in
theorem okc_X12_isDirect_1 : mOK msL (yX12_isDirect, cX12_isDirect, 8, (some .boolean), 2, 0, 12, (2890, 2889, 188, 243), tb_X12_isDirect_1) = true := mOK_of4 rfl (by decide +kernel)
theorem ok_X12_isDirect : mOK msL m_X12_isDirect = true := mOK_app okc_X12_isDirect_0 okc_X12_isDirect_1
set_option maxRecDepth 1000000 in
theorem ok_X12_layBefore : mOK msL m_X12_layBefore = true := mOK_of4 rfl (by decide +kernel)
set_option maxRecDepth 1000000 in
theorem ok_X12_before : mOK msL m_X12_before = true := mOK_of4 rfl (by decide +kernel)
set_option maxRecDepth 1000000 in
theorem ok_X12_areRacing : mOK msL m_X12_areRacing = true := mOK_of4 rfl (by decide +kernel)
set_option maxRecDepth 1000000 in
theorem ok_X12_runRace : mOK msL m_X12_runRace = true := mOK_of4 rfl (by decide +kernel)
set_option maxRecDepth 1000000 in
theorem ok_X12_doesOf : mOK msL m_X12_doesOf = true := mOK_of4 rfl (by decide +kernel)
set_option maxRecDepth 1000000 in
theorem okc_X12_layCalls_0 : mOK msL (yX12_layCalls, cX12_layCalls, 6, (some .boolean), 1, 0, 12, (2908, 2907, 189, 243), tb_X12_layCalls_0) = true := mOK_of4 rfl (by decide +kernel)
set_option maxRecDepth 1000000 in
theorem okc_X12_layCalls_1 : mOK msL (yX12_layCalls, cX12_layCalls, 6, (some .boolean), 1, 0, 12, (2908, 2907, 189, 243), tb_X12_layCalls_1) = true := mOK_of4 rfl (by decide +kernel)
theorem ok_X12_layCalls : mOK msL m_X12_layCalls = true := mOK_app okc_X12_layCalls_0 okc_X12_layCalls_1
set_option maxRecDepth 1000000 in
theorem ok_X12_given : mOK msL m_X12_given = true := mOK_of4 rfl (by decide +kernel)
set_option maxRecDepth 1000000 in
theorem ok_X12_canBeNext : mOK msL m_X12_canBeNext = true := mOK_of4 rfl (by decide +kernel)
set_option maxRecDepth 1000000 in
theorem okc_X12_linear_0 : mOK msL (yX12_linear, cX12_linear, 8, (some .int), 1, 0, 12, (2904, 2902, 2903, 243), tb_X12_linear_0) = true := mOK_of4 rfl (by decide +kernel)
set_option maxRecDepth 1000000 in
theorem okc_X12_linear_1 : mOK msL (yX12_linear, cX12_linear, 8, (some .int), 1, 0, 12, (2904, 2902, 2903, 243), tb_X12_linear_1) = true := mOK_of4 rfl (by decide +kernel)
theorem ok_X12_linear : mOK msL m_X12_linear = true := mOK_app okc_X12_linear_0 okc_X12_linear_1
set_option maxRecDepth 1000000 in
theorem ok_X12_ordered : mOK msL m_X12_ordered = true := mOK_of4 rfl (by decide +kernel)
set_option maxRecDepth 1000000 in
theorem ok_X12_hashOfState : mOK msL m_X12_hashOfState = true := mOK_of4 rfl (by decide +kernel)
set_option maxRecDepth 1000000 in
theorem ok_X12_isStateAt : mOK msL m_X12_isStateAt = true := mOK_of4 rfl (by decide +kernel)
set_option maxRecDepth 1000000 in
theorem ok_X12_loadState : mOK msL m_X12_loadState = true := mOK_of4 rfl (by decide +kernel)
set_option maxRecDepth 1000000 in
theorem okc_X12_numberOf_0 : mOK msL (yX12_numberOf, cX12_numberOf, 6, (some .int), 3, 0, 12, (2949, 2948, 193, 243), tb_X12_numberOf_0) = true := mOK_of4 rfl (by decide +kernel)
set_option maxRecDepth 1000000 in
theorem okc_X12_numberOf_1 : mOK msL (yX12_numberOf, cX12_numberOf, 6, (some .int), 3, 0, 12, (2949, 2948, 193, 243), tb_X12_numberOf_1) = true := mOK_of4 rfl (by decide +kernel)
theorem ok_X12_numberOf : mOK msL m_X12_numberOf = true := mOK_app okc_X12_numberOf_0 okc_X12_numberOf_1
set_option maxRecDepth 1000000 in
theorem ok_X12_sortOfEnd : mOK msL m_X12_sortOfEnd = true := mOK_of4 rfl (by decide +kernel)
theorem okL_8 : ∀ M ∈ msL_8, mOK msL M = true := List.forall_mem_cons.mpr ⟨ok_X12_flush, List.forall_mem_cons.mpr ⟨ok_X12_loaded, List.forall_mem_cons.mpr ⟨ok_X12_storeNow, List.forall_mem_cons.mpr ⟨ok_X12_setLocal, List.forall_mem_cons.mpr ⟨ok_X12_doStep, List.forall_mem_cons.mpr ⟨ok_X12_atOnce, List.forall_mem_cons.mpr ⟨ok_X12_beginOther, List.forall_mem_cons.mpr ⟨ok_X12_doLock, List.forall_mem_cons.mpr ⟨ok_X12_keepRun, List.forall_mem_cons.mpr ⟨ok_X12_takeRun, List.forall_mem_cons.mpr ⟨ok_X12_beginRun, List.forall_mem_cons.mpr ⟨ok_X12_readyNow, List.forall_mem_cons.mpr ⟨ok_X12_begin, List.forall_mem_cons.mpr ⟨ok_X12_ready, List.forall_mem_cons.mpr ⟨ok_X12_stepRun, List.forall_mem_cons.mpr ⟨ok_X12_turn, List.forall_mem_cons.mpr ⟨ok_X12_isThread, List.forall_mem_cons.mpr ⟨ok_X12_thread, List.forall_mem_cons.mpr ⟨ok_X12_local, List.forall_mem_cons.mpr ⟨ok_X12_cell, List.forall_mem_cons.mpr ⟨ok_X12_seen, List.forall_mem_cons.mpr ⟨ok_X12_held, List.forall_mem_cons.mpr ⟨ok_X12_step, List.forall_mem_cons.mpr ⟨ok_X12_isAtOnce, List.forall_mem_cons.mpr ⟨ok_X12_isDirect, List.forall_mem_cons.mpr ⟨ok_X12_layBefore, List.forall_mem_cons.mpr ⟨ok_X12_before, List.forall_mem_cons.mpr ⟨ok_X12_areRacing, List.forall_mem_cons.mpr ⟨ok_X12_runRace, List.forall_mem_cons.mpr ⟨ok_X12_doesOf, List.forall_mem_cons.mpr ⟨ok_X12_layCalls, List.forall_mem_cons.mpr ⟨ok_X12_given, List.forall_mem_cons.mpr ⟨ok_X12_canBeNext, List.forall_mem_cons.mpr ⟨ok_X12_linear, List.forall_mem_cons.mpr ⟨ok_X12_ordered, List.forall_mem_cons.mpr ⟨ok_X12_hashOfState, List.forall_mem_cons.mpr ⟨ok_X12_isStateAt, List.forall_mem_cons.mpr ⟨ok_X12_loadState, List.forall_mem_cons.mpr ⟨ok_X12_numberOf, List.forall_mem_cons.mpr ⟨ok_X12_sortOfEnd, fun _ h => absurd h List.not_mem_nil⟩⟩⟩⟩⟩⟩⟩⟩⟩⟩⟩⟩⟩⟩⟩⟩⟩⟩⟩⟩⟩⟩⟩⟩⟩⟩⟩⟩⟩⟩⟩⟩⟩⟩⟩⟩⟩⟩⟩⟩
