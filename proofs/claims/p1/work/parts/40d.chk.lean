/-! the tables fit: methods 120 to 159 -/
set_option maxRecDepth 1000000 in
theorem ok_X6_readLock : mOK msL m_X6_readLock = true := by decide +kernel
set_option maxRecDepth 1000000 in
theorem ok_X6_readThread : mOK msL m_X6_readThread = true := by decide +kernel
set_option maxRecDepth 1000000 in
theorem ok_X6_readBlock : mOK msL m_X6_readBlock = true := by decide +kernel
set_option maxRecDepth 1000000 in
theorem ok_X6_mayBegin : mOK msL m_X6_mayBegin = true := by decide +kernel
set_option maxRecDepth 1000000 in
theorem ok_X6_readStatement : mOK msL m_X6_readStatement = true := by decide +kernel
set_option maxRecDepth 1000000 in
theorem ok_X6_hasExp : mOK msL m_X6_hasExp = true := by decide +kernel
set_option maxRecDepth 1000000 in
theorem ok_X6_readTarget : mOK msL m_X6_readTarget = true := by decide +kernel
set_option maxRecDepth 1000000 in
theorem ok_X6_readLocal : mOK msL m_X6_readLocal = true := by decide +kernel
set_option maxRecDepth 1000000 in
theorem ok_X6_localHere : mOK msL m_X6_localHere = true := by decide +kernel
set_option maxRecDepth 1000000 in
theorem ok_X6_readObject : mOK msL m_X6_readObject = true := by decide +kernel
set_option maxRecDepth 1000000 in
theorem ok_X6_needName : mOK msL m_X6_needName = true := by decide +kernel
set_option maxRecDepth 1000000 in
theorem ok_X6_readInto : mOK msL m_X6_readInto = true := by decide +kernel
set_option maxRecDepth 1000000 in
theorem ok_X6_aimThreads : mOK msL m_X6_aimThreads = true := by decide +kernel
set_option maxRecDepth 1000000 in
theorem ok_X6_levelOf : mOK msL m_X6_levelOf = true := by decide +kernel
set_option maxRecDepth 1000000 in
theorem ok_X6_readLevel : mOK msL m_X6_readLevel = true := by decide +kernel
set_option maxRecDepth 1000000 in
theorem ok_X6_readSide : mOK msL m_X6_readSide = true := by decide +kernel
set_option maxRecDepth 1000000 in
theorem ok_X6_countNode : mOK msL m_X6_countNode = true := by decide +kernel
set_option maxRecDepth 1000000 in
theorem ok_X6_beginsOne : mOK msL m_X6_beginsOne = true := by decide +kernel
set_option maxRecDepth 1000000 in
theorem ok_X6_isStray : mOK msL m_X6_isStray = true := by decide +kernel
set_option maxRecDepth 1000000 in
theorem ok_X6_readOne : mOK msL m_X6_readOne = true := by decide +kernel
set_option maxRecDepth 1000000 in
theorem ok_X6_readNode : mOK msL m_X6_readNode = true := by decide +kernel
set_option maxRecDepth 1000000 in
theorem ok_X6_readLaw : mOK msL m_X6_readLaw = true := by decide +kernel
set_option maxRecDepth 1000000 in
theorem ok_X6_readFact : mOK msL m_X6_readFact = true := by decide +kernel
set_option maxRecDepth 1000000 in
theorem ok_X6_readAsked : mOK msL m_X6_readAsked = true := by decide +kernel
set_option maxRecDepth 1000000 in
theorem ok_X6_readCellOrLocal : mOK msL m_X6_readCellOrLocal = true := by decide +kernel
set_option maxRecDepth 1000000 in
theorem ok_X7_init : mOK msL m_X7_init = true := by decide +kernel
set_option maxRecDepth 1000000 in
theorem ok_X7_clear : mOK msL m_X7_clear = true := by decide +kernel
set_option maxRecDepth 1000000 in
theorem ok_X7_placeOf : mOK msL m_X7_placeOf = true := by decide +kernel
set_option maxRecDepth 1000000 in
theorem ok_X7_isSame : mOK msL m_X7_isSame = true := by decide +kernel
set_option maxRecDepth 1000000 in
theorem ok_X7_numberOf : mOK msL m_X7_numberOf = true := by decide +kernel
set_option maxRecDepth 1000000 in
theorem ok_X7_put : mOK msL m_X7_put = true := by decide +kernel
set_option maxRecDepth 1000000 in
theorem ok_X7_refer : mOK msL m_X7_refer = true := by decide +kernel
set_option maxRecDepth 1000000 in
theorem ok_X7_name : mOK msL m_X7_name = true := by decide +kernel
set_option maxRecDepth 1000000 in
theorem ok_X8_init : mOK msL m_X8_init = true := by decide +kernel
set_option maxRecDepth 1000000 in
theorem ok_X8_start : mOK msL m_X8_start = true := by decide +kernel
set_option maxRecDepth 1000000 in
theorem ok_X8_take : mOK msL m_X8_take = true := by decide +kernel
set_option maxRecDepth 1000000 in
theorem ok_X8_putAhead : mOK msL m_X8_putAhead = true := by decide +kernel
set_option maxRecDepth 1000000 in
theorem ok_X8_isAhead : mOK msL m_X8_isAhead = true := by decide +kernel
set_option maxRecDepth 1000000 in
theorem ok_X8_leadsTo : mOK msL m_X8_leadsTo = true := by decide +kernel
set_option maxRecDepth 1000000 in
theorem ok_X8_tells : mOK msL m_X8_tells = true := by decide +kernel
theorem okL_3 : ∀ M ∈ msL_3, mOK msL M = true := List.forall_mem_cons.mpr ⟨ok_X6_readLock, List.forall_mem_cons.mpr ⟨ok_X6_readThread, List.forall_mem_cons.mpr ⟨ok_X6_readBlock, List.forall_mem_cons.mpr ⟨ok_X6_mayBegin, List.forall_mem_cons.mpr ⟨ok_X6_readStatement, List.forall_mem_cons.mpr ⟨ok_X6_hasExp, List.forall_mem_cons.mpr ⟨ok_X6_readTarget, List.forall_mem_cons.mpr ⟨ok_X6_readLocal, List.forall_mem_cons.mpr ⟨ok_X6_localHere, List.forall_mem_cons.mpr ⟨ok_X6_readObject, List.forall_mem_cons.mpr ⟨ok_X6_needName, List.forall_mem_cons.mpr ⟨ok_X6_readInto, List.forall_mem_cons.mpr ⟨ok_X6_aimThreads, List.forall_mem_cons.mpr ⟨ok_X6_levelOf, List.forall_mem_cons.mpr ⟨ok_X6_readLevel, List.forall_mem_cons.mpr ⟨ok_X6_readSide, List.forall_mem_cons.mpr ⟨ok_X6_countNode, List.forall_mem_cons.mpr ⟨ok_X6_beginsOne, List.forall_mem_cons.mpr ⟨ok_X6_isStray, List.forall_mem_cons.mpr ⟨ok_X6_readOne, List.forall_mem_cons.mpr ⟨ok_X6_readNode, List.forall_mem_cons.mpr ⟨ok_X6_readLaw, List.forall_mem_cons.mpr ⟨ok_X6_readFact, List.forall_mem_cons.mpr ⟨ok_X6_readAsked, List.forall_mem_cons.mpr ⟨ok_X6_readCellOrLocal, List.forall_mem_cons.mpr ⟨ok_X7_init, List.forall_mem_cons.mpr ⟨ok_X7_clear, List.forall_mem_cons.mpr ⟨ok_X7_placeOf, List.forall_mem_cons.mpr ⟨ok_X7_isSame, List.forall_mem_cons.mpr ⟨ok_X7_numberOf, List.forall_mem_cons.mpr ⟨ok_X7_put, List.forall_mem_cons.mpr ⟨ok_X7_refer, List.forall_mem_cons.mpr ⟨ok_X7_name, List.forall_mem_cons.mpr ⟨ok_X8_init, List.forall_mem_cons.mpr ⟨ok_X8_start, List.forall_mem_cons.mpr ⟨ok_X8_take, List.forall_mem_cons.mpr ⟨ok_X8_putAhead, List.forall_mem_cons.mpr ⟨ok_X8_isAhead, List.forall_mem_cons.mpr ⟨ok_X8_leadsTo, List.forall_mem_cons.mpr ⟨ok_X8_tells, fun _ h => absurd h List.not_mem_nil⟩⟩⟩⟩⟩⟩⟩⟩⟩⟩⟩⟩⟩⟩⟩⟩⟩⟩⟩⟩⟩⟩⟩⟩⟩⟩⟩⟩⟩⟩⟩⟩⟩⟩⟩⟩⟩⟩⟩⟩
