/-! the tables fit: methods 120 to 159 -/
set_option maxRecDepth 1000000 in
theorem ok_X6_readLock : mOK msL m_X6_readLock = true := mOK_of4 rfl (by decide +kernel)
set_option maxRecDepth 1000000 in
theorem ok_X6_readThread : mOK msL m_X6_readThread = true := mOK_of4 rfl (by decide +kernel)
set_option maxRecDepth 1000000 in
theorem ok_X6_readBlock : mOK msL m_X6_readBlock = true := mOK_of4 rfl (by decide +kernel)
set_option maxRecDepth 1000000 in
theorem ok_X6_mayBegin : mOK msL m_X6_mayBegin = true := mOK_of4 rfl (by decide +kernel)
set_option maxRecDepth 1000000 in
theorem okc_X6_readStatement_0 : mOK msL (yX6_readStatement, cX6_readStatement, 5, none, 2, 0, 6, (1474, 1473, 71, 101), tb_X6_readStatement_0) = true := mOK_of4 rfl (by decide +kernel)
set_option maxRecDepth 1000000 in
theorem okc_X6_readStatement_1 : mOK msL (yX6_readStatement, cX6_readStatement, 5, none, 2, 0, 6, (1474, 1473, 71, 101), tb_X6_readStatement_1) = true := mOK_of4 rfl (by decide +kernel)
theorem ok_X6_readStatement : mOK msL m_X6_readStatement = true := mOK_app okc_X6_readStatement_0 okc_X6_readStatement_1
set_option maxRecDepth 1000000 in
theorem ok_X6_hasExp : mOK msL m_X6_hasExp = true := mOK_of4 rfl (by decide +kernel)
set_option maxRecDepth 1000000 in
theorem ok_X6_readTarget : mOK msL m_X6_readTarget = true := mOK_of4 rfl (by decide +kernel)
set_option maxRecDepth 1000000 in
theorem ok_X6_readLocal : mOK msL m_X6_readLocal = true := mOK_of4 rfl (by decide +kernel)
set_option maxRecDepth 1000000 in
theorem ok_X6_localHere : mOK msL m_X6_localHere = true := mOK_of4 rfl (by decide +kernel)
set_option maxRecDepth 1000000 in
theorem ok_X6_readObject : mOK msL m_X6_readObject = true := mOK_of4 rfl (by decide +kernel)
set_option maxRecDepth 1000000 in
theorem ok_X6_needName : mOK msL m_X6_needName = true := mOK_of4 rfl (by decide +kernel)
set_option maxRecDepth 1000000 in
theorem ok_X6_readInto : mOK msL m_X6_readInto = true := mOK_of4 rfl (by decide +kernel)
set_option maxRecDepth 1000000 in
theorem ok_X6_aimThreads : mOK msL m_X6_aimThreads = true := mOK_of4 rfl (by decide +kernel)
set_option maxRecDepth 1000000 in
theorem ok_X6_levelOf : mOK msL m_X6_levelOf = true := mOK_of4 rfl (by decide +kernel)
set_option maxRecDepth 1000000 in
theorem ok_X6_readLevel : mOK msL m_X6_readLevel = true := mOK_of4 rfl (by decide +kernel)
set_option maxRecDepth 1000000 in
theorem ok_X6_readSide : mOK msL m_X6_readSide = true := mOK_of4 rfl (by decide +kernel)
set_option maxRecDepth 1000000 in
theorem ok_X6_countNode : mOK msL m_X6_countNode = true := mOK_of4 rfl (by decide +kernel)
set_option maxRecDepth 1000000 in
theorem ok_X6_beginsOne : mOK msL m_X6_beginsOne = true := mOK_of4 rfl (by decide +kernel)
set_option maxRecDepth 1000000 in
theorem ok_X6_isStray : mOK msL m_X6_isStray = true := mOK_of4 rfl (by decide +kernel)
set_option maxRecDepth 1000000 in
theorem ok_X6_readOne : mOK msL m_X6_readOne = true := mOK_of4 rfl (by decide +kernel)
set_option maxRecDepth 1000000 in
theorem ok_X6_readNode : mOK msL m_X6_readNode = true := mOK_of4 rfl (by decide +kernel)
set_option maxRecDepth 1000000 in
theorem ok_X6_readAsked : mOK msL m_X6_readAsked = true := mOK_of4 rfl (by decide +kernel)
set_option maxRecDepth 1000000 in
theorem ok_X6_readCellOrLocal : mOK msL m_X6_readCellOrLocal = true := mOK_of4 rfl (by decide +kernel)
set_option maxRecDepth 1000000 in
theorem ok_X7_init : mOK msL m_X7_init = true := mOK_of4 rfl (by decide +kernel)
set_option maxRecDepth 1000000 in
theorem ok_X7_clear : mOK msL m_X7_clear = true := mOK_of4 rfl (by decide +kernel)
set_option maxRecDepth 1000000 in
theorem ok_X7_placeOf : mOK msL m_X7_placeOf = true := mOK_of4 rfl (by decide +kernel)
set_option maxRecDepth 1000000 in
theorem ok_X7_isSame : mOK msL m_X7_isSame = true := mOK_of4 rfl (by decide +kernel)
set_option maxRecDepth 1000000 in
theorem ok_X7_numberOf : mOK msL m_X7_numberOf = true := mOK_of4 rfl (by decide +kernel)
set_option maxRecDepth 1000000 in
theorem ok_X7_put : mOK msL m_X7_put = true := mOK_of4 rfl (by decide +kernel)
set_option maxRecDepth 1000000 in
theorem ok_X7_refer : mOK msL m_X7_refer = true := mOK_of4 rfl (by decide +kernel)
set_option maxRecDepth 1000000 in
theorem ok_X7_name : mOK msL m_X7_name = true := mOK_of4 rfl (by decide +kernel)
set_option maxRecDepth 1000000 in
theorem ok_X8_init : mOK msL m_X8_init = true := mOK_of4 rfl (by decide +kernel)
set_option maxRecDepth 1000000 in
theorem ok_X8_start : mOK msL m_X8_start = true := mOK_of4 rfl (by decide +kernel)
set_option maxRecDepth 1000000 in
theorem ok_X8_take : mOK msL m_X8_take = true := mOK_of4 rfl (by decide +kernel)
set_option maxRecDepth 1000000 in
theorem ok_X8_putAhead : mOK msL m_X8_putAhead = true := mOK_of4 rfl (by decide +kernel)
set_option maxRecDepth 1000000 in
theorem okc_X8_leadsTo_0 : mOK msL (yX8_leadsTo, cX8_leadsTo, 7, (some .boolean), 2, 0, 8, (919, 918, 26, 107), tb_X8_leadsTo_0) = true := mOK_of4 rfl (by decide +kernel)
set_option maxRecDepth 1000000 in
theorem okc_X8_leadsTo_1 : mOK msL (yX8_leadsTo, cX8_leadsTo, 7, (some .boolean), 2, 0, 8, (919, 918, 26, 107), tb_X8_leadsTo_1) = true := mOK_of4 rfl (by decide +kernel)
theorem ok_X8_leadsTo : mOK msL m_X8_leadsTo = true := mOK_app okc_X8_leadsTo_0 okc_X8_leadsTo_1
set_option maxRecDepth 1000000 in
theorem ok_X8_tells : mOK msL m_X8_tells = true := mOK_of4 rfl (by decide +kernel)
theorem okL_3 : ∀ M ∈ msL_3, mOK msL M = true := List.forall_mem_cons.mpr ⟨ok_X6_readLock, List.forall_mem_cons.mpr ⟨ok_X6_readThread, List.forall_mem_cons.mpr ⟨ok_X6_readBlock, List.forall_mem_cons.mpr ⟨ok_X6_mayBegin, List.forall_mem_cons.mpr ⟨ok_X6_readStatement, List.forall_mem_cons.mpr ⟨ok_X6_hasExp, List.forall_mem_cons.mpr ⟨ok_X6_readTarget, List.forall_mem_cons.mpr ⟨ok_X6_readLocal, List.forall_mem_cons.mpr ⟨ok_X6_localHere, List.forall_mem_cons.mpr ⟨ok_X6_readObject, List.forall_mem_cons.mpr ⟨ok_X6_needName, List.forall_mem_cons.mpr ⟨ok_X6_readInto, List.forall_mem_cons.mpr ⟨ok_X6_aimThreads, List.forall_mem_cons.mpr ⟨ok_X6_levelOf, List.forall_mem_cons.mpr ⟨ok_X6_readLevel, List.forall_mem_cons.mpr ⟨ok_X6_readSide, List.forall_mem_cons.mpr ⟨ok_X6_countNode, List.forall_mem_cons.mpr ⟨ok_X6_beginsOne, List.forall_mem_cons.mpr ⟨ok_X6_isStray, List.forall_mem_cons.mpr ⟨ok_X6_readOne, List.forall_mem_cons.mpr ⟨ok_X6_readNode, List.forall_mem_cons.mpr ⟨ok_X5_isCell, List.forall_mem_cons.mpr ⟨ok_X5_isCell, List.forall_mem_cons.mpr ⟨ok_X6_readAsked, List.forall_mem_cons.mpr ⟨ok_X6_readCellOrLocal, List.forall_mem_cons.mpr ⟨ok_X7_init, List.forall_mem_cons.mpr ⟨ok_X7_clear, List.forall_mem_cons.mpr ⟨ok_X7_placeOf, List.forall_mem_cons.mpr ⟨ok_X7_isSame, List.forall_mem_cons.mpr ⟨ok_X7_numberOf, List.forall_mem_cons.mpr ⟨ok_X7_put, List.forall_mem_cons.mpr ⟨ok_X7_refer, List.forall_mem_cons.mpr ⟨ok_X7_name, List.forall_mem_cons.mpr ⟨ok_X8_init, List.forall_mem_cons.mpr ⟨ok_X8_start, List.forall_mem_cons.mpr ⟨ok_X8_take, List.forall_mem_cons.mpr ⟨ok_X8_putAhead, List.forall_mem_cons.mpr ⟨ok_X5_isCell, List.forall_mem_cons.mpr ⟨ok_X8_leadsTo, List.forall_mem_cons.mpr ⟨ok_X8_tells, fun _ h => absurd h List.not_mem_nil⟩⟩⟩⟩⟩⟩⟩⟩⟩⟩⟩⟩⟩⟩⟩⟩⟩⟩⟩⟩⟩⟩⟩⟩⟩⟩⟩⟩⟩⟩⟩⟩⟩⟩⟩⟩⟩⟩⟩⟩
