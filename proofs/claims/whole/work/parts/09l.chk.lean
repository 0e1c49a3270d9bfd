/-! the tables fit: methods 240 to 279 -/
set_option maxRecDepth 1000000 in
theorem ok_X12_init : mOK msL m_X12_init = true := by decide +kernel
set_option maxRecDepth 1000000 in
theorem ok_X12_feed : mOK msL m_X12_feed = true := by decide +kernel
set_option maxRecDepth 1000000 in
theorem ok_X12_end : mOK msL m_X12_end = true := by decide +kernel
set_option maxRecDepth 1000000 in
theorem ok_X12_good : mOK msL m_X12_good = true := by decide +kernel
set_option maxRecDepth 1000000 in
theorem ok_X12_fail : mOK msL m_X12_fail = true := by decide +kernel
set_option maxRecDepth 1000000 in
theorem ok_X12_need : mOK msL m_X12_need = true := by decide +kernel
set_option maxRecDepth 1000000 in
theorem ok_X12_isLetter : mOK msL m_X12_isLetter = true := by decide +kernel
set_option maxRecDepth 1000000 in
theorem ok_X12_isFigure : mOK msL m_X12_isFigure = true := by decide +kernel
set_option maxRecDepth 1000000 in
theorem ok_X12_byteAt : mOK msL m_X12_byteAt = true := by decide +kernel
set_option maxRecDepth 1000000 in
theorem ok_X12_next : mOK msL m_X12_next = true := by decide +kernel
set_option maxRecDepth 1000000 in
theorem ok_X12_beginReading : mOK msL m_X12_beginReading = true := by decide +kernel
set_option maxRecDepth 1000000 in
theorem ok_X12_endReading : mOK msL m_X12_endReading = true := by decide +kernel
set_option maxRecDepth 1000000 in
theorem ok_X12_must : mOK msL m_X12_must = true := by decide +kernel
set_option maxRecDepth 1000000 in
theorem ok_X12_isReserved : mOK msL m_X12_isReserved = true := by decide +kernel
set_option maxRecDepth 1000000 in
theorem ok_X12_isName : mOK msL m_X12_isName = true := by decide +kernel
set_option maxRecDepth 1000000 in
theorem ok_X12_isWord : mOK msL m_X12_isWord = true := by decide +kernel
set_option maxRecDepth 1000000 in
theorem ok_X12_cellOf : mOK msL m_X12_cellOf = true := by decide +kernel
set_option maxRecDepth 1000000 in
theorem ok_X12_lockOf : mOK msL m_X12_lockOf = true := by decide +kernel
set_option maxRecDepth 1000000 in
theorem ok_X12_threadOf : mOK msL m_X12_threadOf = true := by decide +kernel
set_option maxRecDepth 1000000 in
theorem ok_X12_localOf : mOK msL m_X12_localOf = true := by decide +kernel
set_option maxRecDepth 1000000 in
theorem ok_X12_isTold : mOK msL m_X12_isTold = true := by decide +kernel
set_option maxRecDepth 1000000 in
theorem ok_X12_takeLocal : mOK msL m_X12_takeLocal = true := by decide +kernel
set_option maxRecDepth 1000000 in
theorem ok_X12_emit : mOK msL m_X12_emit = true := by decide +kernel
set_option maxRecDepth 1000000 in
theorem ok_X12_countNode : mOK msL m_X12_countNode = true := by decide +kernel
set_option maxRecDepth 1000000 in
theorem ok_X12_rankOf : mOK msL m_X12_rankOf = true := by decide +kernel
set_option maxRecDepth 1000000 in
theorem ok_X12_operatorAtHand : mOK msL m_X12_operatorAtHand = true := by decide +kernel
set_option maxRecDepth 1000000 in
theorem ok_X12_settle : mOK msL m_X12_settle = true := by decide +kernel
set_option maxRecDepth 1000000 in
theorem ok_X12_lastRank : mOK msL m_X12_lastRank = true := by decide +kernel
set_option maxRecDepth 1000000 in
theorem ok_X12_readExp : mOK msL m_X12_readExp = true := by decide +kernel
set_option maxRecDepth 1000000 in
theorem ok_X12_endPrefixes : mOK msL m_X12_endPrefixes = true := by decide +kernel
set_option maxRecDepth 1000000 in
theorem ok_X12_isFactWord : mOK msL m_X12_isFactWord = true := by decide +kernel
set_option maxRecDepth 1000000 in
theorem ok_X12_checkWord : mOK msL m_X12_checkWord = true := by decide +kernel
set_option maxRecDepth 1000000 in
theorem ok_X12_takeOperand : mOK msL m_X12_takeOperand = true := by decide +kernel
set_option maxRecDepth 1000000 in
theorem ok_X12_takeFact : mOK msL m_X12_takeFact = true := by decide +kernel
set_option maxRecDepth 1000000 in
theorem ok_X12_openBlock : mOK msL m_X12_openBlock = true := by decide +kernel
set_option maxRecDepth 1000000 in
theorem ok_X12_newLine : mOK msL m_X12_newLine = true := by decide +kernel
set_option maxRecDepth 1000000 in
theorem ok_X12_takeExp : mOK msL m_X12_takeExp = true := by decide +kernel
set_option maxRecDepth 1000000 in
theorem ok_X12_keywordAtHand : mOK msL m_X12_keywordAtHand = true := by decide +kernel
set_option maxRecDepth 1000000 in
theorem ok_X12_readStatement : mOK msL m_X12_readStatement = true := by decide +kernel
set_option maxRecDepth 1000000 in
theorem ok_X12_readRest : mOK msL m_X12_readRest = true := by decide +kernel
theorem okL_6 : ∀ M ∈ msL_6, mOK msL M = true := List.forall_mem_cons.mpr ⟨ok_X12_init, List.forall_mem_cons.mpr ⟨ok_X12_feed, List.forall_mem_cons.mpr ⟨ok_X12_end, List.forall_mem_cons.mpr ⟨ok_X12_good, List.forall_mem_cons.mpr ⟨ok_X12_fail, List.forall_mem_cons.mpr ⟨ok_X12_need, List.forall_mem_cons.mpr ⟨ok_X12_isLetter, List.forall_mem_cons.mpr ⟨ok_X12_isFigure, List.forall_mem_cons.mpr ⟨ok_X12_byteAt, List.forall_mem_cons.mpr ⟨ok_X12_next, List.forall_mem_cons.mpr ⟨ok_X12_beginReading, List.forall_mem_cons.mpr ⟨ok_X12_endReading, List.forall_mem_cons.mpr ⟨ok_X12_must, List.forall_mem_cons.mpr ⟨ok_X12_isReserved, List.forall_mem_cons.mpr ⟨ok_X12_isName, List.forall_mem_cons.mpr ⟨ok_X12_isWord, List.forall_mem_cons.mpr ⟨ok_X12_cellOf, List.forall_mem_cons.mpr ⟨ok_X12_lockOf, List.forall_mem_cons.mpr ⟨ok_X12_threadOf, List.forall_mem_cons.mpr ⟨ok_X12_localOf, List.forall_mem_cons.mpr ⟨ok_X12_isTold, List.forall_mem_cons.mpr ⟨ok_X12_takeLocal, List.forall_mem_cons.mpr ⟨ok_X12_emit, List.forall_mem_cons.mpr ⟨ok_X12_countNode, List.forall_mem_cons.mpr ⟨ok_X12_rankOf, List.forall_mem_cons.mpr ⟨ok_X12_operatorAtHand, List.forall_mem_cons.mpr ⟨ok_X12_settle, List.forall_mem_cons.mpr ⟨ok_X12_lastRank, List.forall_mem_cons.mpr ⟨ok_X12_readExp, List.forall_mem_cons.mpr ⟨ok_X12_endPrefixes, List.forall_mem_cons.mpr ⟨ok_X12_isFactWord, List.forall_mem_cons.mpr ⟨ok_X12_checkWord, List.forall_mem_cons.mpr ⟨ok_X12_takeOperand, List.forall_mem_cons.mpr ⟨ok_X12_takeFact, List.forall_mem_cons.mpr ⟨ok_X12_openBlock, List.forall_mem_cons.mpr ⟨ok_X12_newLine, List.forall_mem_cons.mpr ⟨ok_X12_takeExp, List.forall_mem_cons.mpr ⟨ok_X12_keywordAtHand, List.forall_mem_cons.mpr ⟨ok_X12_readStatement, List.forall_mem_cons.mpr ⟨ok_X12_readRest, fun _ h => absurd h List.not_mem_nil⟩⟩⟩⟩⟩⟩⟩⟩⟩⟩⟩⟩⟩⟩⟩⟩⟩⟩⟩⟩⟩⟩⟩⟩⟩⟩⟩⟩⟩⟩⟩⟩⟩⟩⟩⟩⟩⟩⟩⟩
