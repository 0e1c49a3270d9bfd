/-! the tables fit: methods 0 to 39 -/
set_option maxRecDepth 1000000 in
theorem ok_X0_init : mOK msL m_X0_init = true := by decide +kernel
set_option maxRecDepth 1000000 in
theorem ok_X0_clear : mOK msL m_X0_clear = true := by decide +kernel
set_option maxRecDepth 1000000 in
theorem ok_X0_see : mOK msL m_X0_see = true := by decide +kernel
set_option maxRecDepth 1000000 in
theorem ok_X0_noteRace : mOK msL m_X0_noteRace = true := by decide +kernel
set_option maxRecDepth 1000000 in
theorem ok_X0_findRace : mOK msL m_X0_findRace = true := by decide +kernel
set_option maxRecDepth 1000000 in
theorem ok_X0_noteTaking : mOK msL m_X0_noteTaking = true := by decide +kernel
set_option maxRecDepth 1000000 in
theorem ok_X0_crossed : mOK msL m_X0_crossed = true := by decide +kernel
set_option maxRecDepth 1000000 in
theorem ok_X0_seeStuck : mOK msL m_X0_seeStuck = true := by decide +kernel
set_option maxRecDepth 1000000 in
theorem ok_X0_noteStuck : mOK msL m_X0_noteStuck = true := by decide +kernel
set_option maxRecDepth 1000000 in
theorem ok_X0_leastInRing : mOK msL m_X0_leastInRing = true := by decide +kernel
set_option maxRecDepth 1000000 in
theorem ok_X1_init : mOK msL m_X1_init = true := by decide +kernel
set_option maxRecDepth 1000000 in
theorem ok_X1_arrange : mOK msL m_X1_arrange = true := by decide +kernel
set_option maxRecDepth 1000000 in
theorem ok_X1_gather : mOK msL m_X1_gather = true := by decide +kernel
set_option maxRecDepth 1000000 in
theorem ok_X1_addCall : mOK msL m_X1_addCall = true := by decide +kernel
set_option maxRecDepth 1000000 in
theorem ok_X1_extend : mOK msL m_X1_extend = true := by decide +kernel
set_option maxRecDepth 1000000 in
theorem ok_X1_place : mOK msL m_X1_place = true := by decide +kernel
set_option maxRecDepth 1000000 in
theorem ok_X1_mayBeNext : mOK msL m_X1_mayBeNext = true := by decide +kernel
set_option maxRecDepth 1000000 in
theorem ok_X1_perform : mOK msL m_X1_perform = true := by decide +kernel
set_option maxRecDepth 1000000 in
theorem ok_X2_init : mOK msL m_X2_init = true := by decide +kernel
set_option maxRecDepth 1000000 in
theorem ok_X2_holds : mOK msL m_X2_holds = true := by decide +kernel
set_option maxRecDepth 1000000 in
theorem ok_X2_flag : mOK msL m_X2_flag = true := by decide +kernel
set_option maxRecDepth 1000000 in
theorem ok_X2_isTrue : mOK msL m_X2_isTrue = true := by decide +kernel
set_option maxRecDepth 1000000 in
theorem ok_X2_least : mOK msL m_X2_least = true := by decide +kernel
set_option maxRecDepth 1000000 in
theorem ok_X2_isWanted : mOK msL m_X2_isWanted = true := by decide +kernel
set_option maxRecDepth 1000000 in
theorem ok_X2_findReached : mOK msL m_X2_findReached = true := by decide +kernel
set_option maxRecDepth 1000000 in
theorem ok_X2_comeTo : mOK msL m_X2_comeTo = true := by decide +kernel
set_option maxRecDepth 1000000 in
theorem ok_X2_findLacking : mOK msL m_X2_findLacking = true := by decide +kernel
set_option maxRecDepth 1000000 in
theorem ok_X2_enter : mOK msL m_X2_enter = true := by decide +kernel
set_option maxRecDepth 1000000 in
theorem ok_X2_walkFrom : mOK msL m_X2_walkFrom = true := by decide +kernel
set_option maxRecDepth 1000000 in
theorem ok_X2_follow : mOK msL m_X2_follow = true := by decide +kernel
set_option maxRecDepth 1000000 in
theorem ok_X2_close : mOK msL m_X2_close = true := by decide +kernel
set_option maxRecDepth 1000000 in
theorem ok_X3_init : mOK msL m_X3_init = true := by decide +kernel
set_option maxRecDepth 1000000 in
theorem ok_X3_localSlot : mOK msL m_X3_localSlot = true := by decide +kernel
set_option maxRecDepth 1000000 in
theorem ok_X3_enterFirst : mOK msL m_X3_enterFirst = true := by decide +kernel
set_option maxRecDepth 1000000 in
theorem ok_X3_go : mOK msL m_X3_go = true := by decide +kernel
set_option maxRecDepth 1000000 in
theorem ok_X3_pickSlots : mOK msL m_X3_pickSlots = true := by decide +kernel
set_option maxRecDepth 1000000 in
theorem ok_X3_pick : mOK msL m_X3_pick = true := by decide +kernel
set_option maxRecDepth 1000000 in
theorem ok_X3_makeEven : mOK msL m_X3_makeEven = true := by decide +kernel
set_option maxRecDepth 1000000 in
theorem ok_X3_pack : mOK msL m_X3_pack = true := by decide +kernel
set_option maxRecDepth 1000000 in
theorem ok_X3_unpack : mOK msL m_X3_unpack = true := by decide +kernel
theorem okL_0 : ∀ M ∈ msL_0, mOK msL M = true := List.forall_mem_cons.mpr ⟨ok_X0_init, List.forall_mem_cons.mpr ⟨ok_X0_clear, List.forall_mem_cons.mpr ⟨ok_X0_see, List.forall_mem_cons.mpr ⟨ok_X0_noteRace, List.forall_mem_cons.mpr ⟨ok_X0_findRace, List.forall_mem_cons.mpr ⟨ok_X0_noteTaking, List.forall_mem_cons.mpr ⟨ok_X0_crossed, List.forall_mem_cons.mpr ⟨ok_X0_seeStuck, List.forall_mem_cons.mpr ⟨ok_X0_noteStuck, List.forall_mem_cons.mpr ⟨ok_X0_leastInRing, List.forall_mem_cons.mpr ⟨ok_X1_init, List.forall_mem_cons.mpr ⟨ok_X1_arrange, List.forall_mem_cons.mpr ⟨ok_X1_gather, List.forall_mem_cons.mpr ⟨ok_X1_addCall, List.forall_mem_cons.mpr ⟨ok_X1_extend, List.forall_mem_cons.mpr ⟨ok_X1_place, List.forall_mem_cons.mpr ⟨ok_X1_mayBeNext, List.forall_mem_cons.mpr ⟨ok_X1_perform, List.forall_mem_cons.mpr ⟨ok_X2_init, List.forall_mem_cons.mpr ⟨ok_X2_holds, List.forall_mem_cons.mpr ⟨ok_X2_flag, List.forall_mem_cons.mpr ⟨ok_X2_isTrue, List.forall_mem_cons.mpr ⟨ok_X2_least, List.forall_mem_cons.mpr ⟨ok_X2_isWanted, List.forall_mem_cons.mpr ⟨ok_X2_findReached, List.forall_mem_cons.mpr ⟨ok_X2_comeTo, List.forall_mem_cons.mpr ⟨ok_X2_findLacking, List.forall_mem_cons.mpr ⟨ok_X2_enter, List.forall_mem_cons.mpr ⟨ok_X2_walkFrom, List.forall_mem_cons.mpr ⟨ok_X2_follow, List.forall_mem_cons.mpr ⟨ok_X2_close, List.forall_mem_cons.mpr ⟨ok_X3_init, List.forall_mem_cons.mpr ⟨ok_X3_localSlot, List.forall_mem_cons.mpr ⟨ok_X3_enterFirst, List.forall_mem_cons.mpr ⟨ok_X3_go, List.forall_mem_cons.mpr ⟨ok_X3_pickSlots, List.forall_mem_cons.mpr ⟨ok_X3_pick, List.forall_mem_cons.mpr ⟨ok_X3_makeEven, List.forall_mem_cons.mpr ⟨ok_X3_pack, List.forall_mem_cons.mpr ⟨ok_X3_unpack, fun _ h => absurd h List.not_mem_nil⟩⟩⟩⟩⟩⟩⟩⟩⟩⟩⟩⟩⟩⟩⟩⟩⟩⟩⟩⟩⟩⟩⟩⟩⟩⟩⟩⟩⟩⟩⟩⟩⟩⟩⟩⟩⟩⟩⟩⟩
