/-! the tables fit: methods 0 to 39 -/
set_option maxRecDepth 1000000 in
theorem ok_X0_init : mOK msL m_X0_init = true := mOK_of4 rfl (by decide +kernel)
set_option maxRecDepth 1000000 in
theorem ok_X0_clear : mOK msL m_X0_clear = true := mOK_of4 rfl (by decide +kernel)
set_option maxRecDepth 1000000 in
theorem ok_X0_see : mOK msL m_X0_see = true := mOK_of4 rfl (by decide +kernel)
set_option maxRecDepth 1000000 in
theorem ok_X0_noteRace : mOK msL m_X0_noteRace = true := mOK_of4 rfl (by decide +kernel)
set_option maxRecDepth 1000000 in
theorem ok_X0_findRace : mOK msL m_X0_findRace = true := mOK_of4 rfl (by decide +kernel)
set_option maxRecDepth 1000000 in
theorem ok_X0_noteTaking : mOK msL m_X0_noteTaking = true := mOK_of4 rfl (by decide +kernel)
set_option maxRecDepth 1000000 in
theorem ok_X0_crossed : mOK msL m_X0_crossed = true := mOK_of4 rfl (by decide +kernel)
set_option maxRecDepth 1000000 in
theorem ok_X0_seeStuck : mOK msL m_X0_seeStuck = true := mOK_of4 rfl (by decide +kernel)
set_option maxRecDepth 1000000 in
theorem ok_X0_noteStuck : mOK msL m_X0_noteStuck = true := mOK_of4 rfl (by decide +kernel)
set_option maxRecDepth 1000000 in
theorem ok_X0_leastInRing : mOK msL m_X0_leastInRing = true := mOK_of4 rfl (by decide +kernel)
set_option maxRecDepth 1000000 in
theorem ok_X1_init : mOK msL m_X1_init = true := mOK_of4 rfl (by decide +kernel)
set_option maxRecDepth 1000000 in
theorem ok_X1_arrange : mOK msL m_X1_arrange = true := mOK_of4 rfl (by decide +kernel)
set_option maxRecDepth 1000000 in
theorem okc_X1_gather_0 : mOK msL (yX1_gather, cX1_gather, 5, (some .boolean), 1, 0, 1, (1504, 1503, 66, 242), tb_X1_gather_0) = true := mOK_of4 rfl (by decide +kernel)
set_option maxRecDepth 1000000 in
theorem okc_X1_gather_1 : mOK msL (yX1_gather, cX1_gather, 5, (some .boolean), 1, 0, 1, (1504, 1503, 66, 242), tb_X1_gather_1) = true := mOK_of4 rfl (by decide +kernel)
theorem ok_X1_gather : mOK msL m_X1_gather = true := mOK_app okc_X1_gather_0 okc_X1_gather_1
set_option maxRecDepth 1000000 in
theorem ok_X1_addCall : mOK msL m_X1_addCall = true := mOK_of4 rfl (by decide +kernel)
set_option maxRecDepth 1000000 in
theorem ok_X1_extend : mOK msL m_X1_extend = true := mOK_of4 rfl (by decide +kernel)
set_option maxRecDepth 1000000 in
theorem ok_X1_place : mOK msL m_X1_place = true := mOK_of4 rfl (by decide +kernel)
set_option maxRecDepth 1000000 in
theorem ok_X1_mayBeNext : mOK msL m_X1_mayBeNext = true := mOK_of4 rfl (by decide +kernel)
set_option maxRecDepth 1000000 in
theorem okc_X1_perform_0 : mOK msL (yX1_perform, cX1_perform, 8, (some .int), 2, 0, 1, (1529, 1528, 71, 242), tb_X1_perform_0) = true := mOK_of4 rfl (by decide +kernel)
set_option maxRecDepth 1000000 in
theorem okc_X1_perform_1 : mOK msL (yX1_perform, cX1_perform, 8, (some .int), 2, 0, 1, (1529, 1528, 71, 242), tb_X1_perform_1) = true := mOK_of4 rfl (by decide +kernel)
theorem ok_X1_perform : mOK msL m_X1_perform = true := mOK_app okc_X1_perform_0 okc_X1_perform_1
set_option maxRecDepth 1000000 in
theorem ok_X2_init : mOK msL m_X2_init = true := mOK_of4 rfl (by decide +kernel)
set_option maxRecDepth 1000000 in
theorem ok_X2_holds : mOK msL m_X2_holds = true := mOK_of4 rfl (by decide +kernel)
set_option maxRecDepth 1000000 in
theorem ok_X2_flag : mOK msL m_X2_flag = true := mOK_of4 rfl (by decide +kernel)
set_option maxRecDepth 1000000 in
theorem ok_X2_isTrue : mOK msL m_X2_isTrue = true := mOK_of4 rfl (by decide +kernel)
set_option maxRecDepth 1000000 in
theorem ok_X2_least : mOK msL m_X2_least = true := mOK_of4 rfl (by decide +kernel)
set_option maxRecDepth 1000000 in
theorem ok_X2_isWanted : mOK msL m_X2_isWanted = true := mOK_of4 rfl (by decide +kernel)
set_option maxRecDepth 1000000 in
theorem ok_X2_findReached : mOK msL m_X2_findReached = true := mOK_of4 rfl (by decide +kernel)
set_option maxRecDepth 1000000 in
theorem ok_X2_comeTo : mOK msL m_X2_comeTo = true := mOK_of4 rfl (by decide +kernel)
set_option maxRecDepth 1000000 in
theorem ok_X2_findLacking : mOK msL m_X2_findLacking = true := mOK_of4 rfl (by decide +kernel)
set_option maxRecDepth 1000000 in
theorem ok_X2_enter : mOK msL m_X2_enter = true := mOK_of4 rfl (by decide +kernel)
set_option maxRecDepth 1000000 in
theorem ok_X2_walkFrom : mOK msL m_X2_walkFrom = true := mOK_of4 rfl (by decide +kernel)
set_option maxRecDepth 1000000 in
theorem ok_X2_follow : mOK msL m_X2_follow = true := mOK_of4 rfl (by decide +kernel)
set_option maxRecDepth 1000000 in
theorem okc_X2_close_0 : mOK msL (yX2_close, cX2_close, 11, none, 2, 0, 2, (1859, 1858, 101, 240), tb_X2_close_0) = true := mOK_of4 rfl (by decide +kernel)
set_option maxRecDepth 1000000 in
theorem okc_X2_close_1 : mOK msL (yX2_close, cX2_close, 11, none, 2, 0, 2, (1859, 1858, 101, 240), tb_X2_close_1) = true := mOK_of4 rfl (by decide +kernel)
theorem ok_X2_close : mOK msL m_X2_close = true := mOK_app okc_X2_close_0 okc_X2_close_1
set_option maxRecDepth 1000000 in
theorem ok_X3_init : mOK msL m_X3_init = true := mOK_of4 rfl (by decide +kernel)
set_option maxRecDepth 1000000 in
theorem ok_X3_localSlot : mOK msL m_X3_localSlot = true := mOK_of4 rfl (by decide +kernel)
set_option maxRecDepth 1000000 in
theorem ok_X3_enterFirst : mOK msL m_X3_enterFirst = true := mOK_of4 rfl (by decide +kernel)
set_option maxRecDepth 1000000 in
theorem ok_X3_go : mOK msL m_X3_go = true := mOK_of4 rfl (by decide +kernel)
set_option maxRecDepth 1000000 in
theorem okc_X3_pickSlots_0 : mOK msL (yX3_pickSlots, cX3_pickSlots, 2, none, 0, 0, 3, (1549, 1547, 1548, 237), tb_X3_pickSlots_0) = true := mOK_of4 rfl (by decide +kernel)
set_option maxRecDepth 1000000 in
theorem okc_X3_pickSlots_1 : mOK msL (yX3_pickSlots, cX3_pickSlots, 2, none, 0, 0, 3, (1549, 1547, 1548, 237), tb_X3_pickSlots_1) = true := mOK_of4 rfl (by decide +kernel)
theorem ok_X3_pickSlots : mOK msL m_X3_pickSlots = true := mOK_app okc_X3_pickSlots_0 okc_X3_pickSlots_1
set_option maxRecDepth 1000000 in
theorem ok_X3_pick : mOK msL m_X3_pick = true := mOK_of4 rfl (by decide +kernel)
set_option maxRecDepth 1000000 in
theorem ok_X3_makeEven : mOK msL m_X3_makeEven = true := mOK_of4 rfl (by decide +kernel)
set_option maxRecDepth 1000000 in
theorem ok_X3_pack : mOK msL m_X3_pack = true := mOK_of4 rfl (by decide +kernel)
set_option maxRecDepth 1000000 in
theorem ok_X3_unpack : mOK msL m_X3_unpack = true := mOK_of4 rfl (by decide +kernel)
theorem okL_0 : ∀ M ∈ msL_0, mOK msL M = true := List.forall_mem_cons.mpr ⟨ok_X0_init, List.forall_mem_cons.mpr ⟨ok_X0_clear, List.forall_mem_cons.mpr ⟨ok_X0_see, List.forall_mem_cons.mpr ⟨ok_X0_noteRace, List.forall_mem_cons.mpr ⟨ok_X0_findRace, List.forall_mem_cons.mpr ⟨ok_X0_noteTaking, List.forall_mem_cons.mpr ⟨ok_X0_crossed, List.forall_mem_cons.mpr ⟨ok_X0_seeStuck, List.forall_mem_cons.mpr ⟨ok_X0_noteStuck, List.forall_mem_cons.mpr ⟨ok_X0_leastInRing, List.forall_mem_cons.mpr ⟨ok_X1_init, List.forall_mem_cons.mpr ⟨ok_X1_arrange, List.forall_mem_cons.mpr ⟨ok_X1_gather, List.forall_mem_cons.mpr ⟨ok_X1_addCall, List.forall_mem_cons.mpr ⟨ok_X1_extend, List.forall_mem_cons.mpr ⟨ok_X1_place, List.forall_mem_cons.mpr ⟨ok_X1_mayBeNext, List.forall_mem_cons.mpr ⟨ok_X1_perform, List.forall_mem_cons.mpr ⟨ok_X2_init, List.forall_mem_cons.mpr ⟨ok_X2_holds, List.forall_mem_cons.mpr ⟨ok_X2_flag, List.forall_mem_cons.mpr ⟨ok_X2_isTrue, List.forall_mem_cons.mpr ⟨ok_X2_least, List.forall_mem_cons.mpr ⟨ok_X2_isWanted, List.forall_mem_cons.mpr ⟨ok_X2_findReached, List.forall_mem_cons.mpr ⟨ok_X2_comeTo, List.forall_mem_cons.mpr ⟨ok_X2_findLacking, List.forall_mem_cons.mpr ⟨ok_X2_enter, List.forall_mem_cons.mpr ⟨ok_X2_walkFrom, List.forall_mem_cons.mpr ⟨ok_X2_follow, List.forall_mem_cons.mpr ⟨ok_X2_close, List.forall_mem_cons.mpr ⟨ok_X3_init, List.forall_mem_cons.mpr ⟨ok_X3_localSlot, List.forall_mem_cons.mpr ⟨ok_X3_enterFirst, List.forall_mem_cons.mpr ⟨ok_X3_go, List.forall_mem_cons.mpr ⟨ok_X3_pickSlots, List.forall_mem_cons.mpr ⟨ok_X3_pick, List.forall_mem_cons.mpr ⟨ok_X3_makeEven, List.forall_mem_cons.mpr ⟨ok_X3_pack, List.forall_mem_cons.mpr ⟨ok_X3_unpack, fun _ h => absurd h List.not_mem_nil⟩⟩⟩⟩⟩⟩⟩⟩⟩⟩⟩⟩⟩⟩⟩⟩⟩⟩⟩⟩⟩⟩⟩⟩⟩⟩⟩⟩⟩⟩⟩⟩⟩⟩⟩⟩⟩⟩⟩⟩
