/-! the tables fit: methods 320 to 359 -/
set_option maxRecDepth 1000000 in
theorem ok_X12_flush : mOK msL m_X12_flush = true := by decide +kernel
set_option maxRecDepth 1000000 in
theorem ok_X12_loaded : mOK msL m_X12_loaded = true := by decide +kernel
set_option maxRecDepth 1000000 in
theorem ok_X12_storeNow : mOK msL m_X12_storeNow = true := by decide +kernel
set_option maxRecDepth 1000000 in
theorem ok_X12_setLocal : mOK msL m_X12_setLocal = true := by decide +kernel
set_option maxRecDepth 1000000 in
theorem ok_X12_doStep : mOK msL m_X12_doStep = true := by decide +kernel
set_option maxRecDepth 1000000 in
theorem ok_X12_atOnce : mOK msL m_X12_atOnce = true := by decide +kernel
set_option maxRecDepth 1000000 in
theorem ok_X12_beginOther : mOK msL m_X12_beginOther = true := by decide +kernel
set_option maxRecDepth 1000000 in
theorem ok_X12_doLock : mOK msL m_X12_doLock = true := by decide +kernel
set_option maxRecDepth 1000000 in
theorem ok_X12_keepRun : mOK msL m_X12_keepRun = true := by decide +kernel
set_option maxRecDepth 1000000 in
theorem ok_X12_takeRun : mOK msL m_X12_takeRun = true := by decide +kernel
set_option maxRecDepth 1000000 in
theorem ok_X12_beginRun : mOK msL m_X12_beginRun = true := by decide +kernel
set_option maxRecDepth 1000000 in
theorem ok_X12_readyNow : mOK msL m_X12_readyNow = true := by decide +kernel
set_option maxRecDepth 1000000 in
theorem ok_X12_begin : mOK msL m_X12_begin = true := by decide +kernel
set_option maxRecDepth 1000000 in
theorem ok_X12_ready : mOK msL m_X12_ready = true := by decide +kernel
set_option maxRecDepth 1000000 in
theorem ok_X12_stepRun : mOK msL m_X12_stepRun = true := by decide +kernel
set_option maxRecDepth 1000000 in
theorem ok_X12_turn : mOK msL m_X12_turn = true := by decide +kernel
set_option maxRecDepth 1000000 in
theorem ok_X12_isThread : mOK msL m_X12_isThread = true := by decide +kernel
set_option maxRecDepth 1000000 in
theorem ok_X12_thread : mOK msL m_X12_thread = true := by decide +kernel
set_option maxRecDepth 1000000 in
theorem ok_X12_local : mOK msL m_X12_local = true := by decide +kernel
set_option maxRecDepth 1000000 in
theorem ok_X12_cell : mOK msL m_X12_cell = true := by decide +kernel
set_option maxRecDepth 1000000 in
theorem ok_X12_seen : mOK msL m_X12_seen = true := by decide +kernel
set_option maxRecDepth 1000000 in
theorem ok_X12_held : mOK msL m_X12_held = true := by decide +kernel
set_option maxRecDepth 1000000 in
theorem ok_X12_step : mOK msL m_X12_step = true := by decide +kernel
set_option maxRecDepth 1000000 in
theorem ok_X12_isAtOnce : mOK msL m_X12_isAtOnce = true := by decide +kernel
set_option maxRecDepth 1000000 in
theorem ok_X12_isDirect : mOK msL m_X12_isDirect = true := by decide +kernel
set_option maxRecDepth 1000000 in
theorem ok_X12_layBefore : mOK msL m_X12_layBefore = true := by decide +kernel
set_option maxRecDepth 1000000 in
theorem ok_X12_before : mOK msL m_X12_before = true := by decide +kernel
set_option maxRecDepth 1000000 in
theorem ok_X12_areRacing : mOK msL m_X12_areRacing = true := by decide +kernel
set_option maxRecDepth 1000000 in
theorem ok_X12_runRace : mOK msL m_X12_runRace = true := by decide +kernel
set_option maxRecDepth 1000000 in
theorem ok_X12_doesOf : mOK msL m_X12_doesOf = true := by decide +kernel
set_option maxRecDepth 1000000 in
theorem ok_X12_layCalls : mOK msL m_X12_layCalls = true := by decide +kernel
set_option maxRecDepth 1000000 in
theorem ok_X12_given : mOK msL m_X12_given = true := by decide +kernel
set_option maxRecDepth 1000000 in
theorem ok_X12_canBeNext : mOK msL m_X12_canBeNext = true := by decide +kernel
set_option maxRecDepth 1000000 in
theorem ok_X12_linear : mOK msL m_X12_linear = true := by decide +kernel
set_option maxRecDepth 1000000 in
theorem ok_X12_ordered : mOK msL m_X12_ordered = true := by decide +kernel
set_option maxRecDepth 1000000 in
theorem ok_X12_hashOfState : mOK msL m_X12_hashOfState = true := by decide +kernel
set_option maxRecDepth 1000000 in
theorem ok_X12_isStateAt : mOK msL m_X12_isStateAt = true := by decide +kernel
set_option maxRecDepth 1000000 in
theorem ok_X12_loadState : mOK msL m_X12_loadState = true := by decide +kernel
set_option maxRecDepth 1000000 in
theorem ok_X12_numberOf : mOK msL m_X12_numberOf = true := by decide +kernel
set_option maxRecDepth 1000000 in
theorem ok_X12_sortOfEnd : mOK msL m_X12_sortOfEnd = true := by decide +kernel
theorem okL_8 : ∀ M ∈ msL_8, mOK msL M = true := List.forall_mem_cons.mpr ⟨ok_X12_flush, List.forall_mem_cons.mpr ⟨ok_X12_loaded, List.forall_mem_cons.mpr ⟨ok_X12_storeNow, List.forall_mem_cons.mpr ⟨ok_X12_setLocal, List.forall_mem_cons.mpr ⟨ok_X12_doStep, List.forall_mem_cons.mpr ⟨ok_X12_atOnce, List.forall_mem_cons.mpr ⟨ok_X12_beginOther, List.forall_mem_cons.mpr ⟨ok_X12_doLock, List.forall_mem_cons.mpr ⟨ok_X12_keepRun, List.forall_mem_cons.mpr ⟨ok_X12_takeRun, List.forall_mem_cons.mpr ⟨ok_X12_beginRun, List.forall_mem_cons.mpr ⟨ok_X12_readyNow, List.forall_mem_cons.mpr ⟨ok_X12_begin, List.forall_mem_cons.mpr ⟨ok_X12_ready, List.forall_mem_cons.mpr ⟨ok_X12_stepRun, List.forall_mem_cons.mpr ⟨ok_X12_turn, List.forall_mem_cons.mpr ⟨ok_X12_isThread, List.forall_mem_cons.mpr ⟨ok_X12_thread, List.forall_mem_cons.mpr ⟨ok_X12_local, List.forall_mem_cons.mpr ⟨ok_X12_cell, List.forall_mem_cons.mpr ⟨ok_X12_seen, List.forall_mem_cons.mpr ⟨ok_X12_held, List.forall_mem_cons.mpr ⟨ok_X12_step, List.forall_mem_cons.mpr ⟨ok_X12_isAtOnce, List.forall_mem_cons.mpr ⟨ok_X12_isDirect, List.forall_mem_cons.mpr ⟨ok_X12_layBefore, List.forall_mem_cons.mpr ⟨ok_X12_before, List.forall_mem_cons.mpr ⟨ok_X12_areRacing, List.forall_mem_cons.mpr ⟨ok_X12_runRace, List.forall_mem_cons.mpr ⟨ok_X12_doesOf, List.forall_mem_cons.mpr ⟨ok_X12_layCalls, List.forall_mem_cons.mpr ⟨ok_X12_given, List.forall_mem_cons.mpr ⟨ok_X12_canBeNext, List.forall_mem_cons.mpr ⟨ok_X12_linear, List.forall_mem_cons.mpr ⟨ok_X12_ordered, List.forall_mem_cons.mpr ⟨ok_X12_hashOfState, List.forall_mem_cons.mpr ⟨ok_X12_isStateAt, List.forall_mem_cons.mpr ⟨ok_X12_loadState, List.forall_mem_cons.mpr ⟨ok_X12_numberOf, List.forall_mem_cons.mpr ⟨ok_X12_sortOfEnd, fun _ h => absurd h List.not_mem_nil⟩⟩⟩⟩⟩⟩⟩⟩⟩⟩⟩⟩⟩⟩⟩⟩⟩⟩⟩⟩⟩⟩⟩⟩⟩⟩⟩⟩⟩⟩⟩⟩⟩⟩⟩⟩⟩⟩⟩⟩
