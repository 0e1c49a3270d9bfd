/-! the tables fit: methods 240 to 279 -/
set_option maxRecDepth 1000000 in
theorem okc_X12_init_0 : mOK msL (yX12_init, cX12_init, 1, none, 0, 2, 12, (1941, 1940, 0, 243), tb_X12_init_0) = true := mOK_of4 rfl (by decide +kernel)
set_option maxRecDepth 1000000 in
theorem okc_X12_init_1 : mOK msL (yX12_init, cX12_init, 1, none, 0, 2, 12, (1941, 1940, 0, 243), tb_X12_init_1) = true := mOK_of4 rfl (by decide +kernel)
set_option maxRecDepth 1000000 in
theorem okc_X12_init_2 : mOK msL (yX12_init, cX12_init, 1, none, 0, 2, 12, (1941, 1940, 0, 243), tb_X12_init_2) = true := mOK_of4 rfl (by decide +kernel)
set_option maxRecDepth 1000000 in
theorem okc_X12_init_3 : mOK msL (yX12_init, cX12_init, 1, none, 0, 2, 12, (1941, 1940, 0, 243), tb_X12_init_3) = true := mOK_of4 rfl (by decide +kernel)
theorem ok_X12_init : mOK msL m_X12_init = true := mOK_app okc_X12_init_0 (mOK_app okc_X12_init_1 (mOK_app okc_X12_init_2 okc_X12_init_3))
set_option maxRecDepth 1000000 in
theorem ok_X12_feed : mOK msL m_X12_feed = true := mOK_of4 rfl (by decide +kernel)
set_option maxRecDepth 1000000 in
theorem ok_X12_end : mOK msL m_X12_end = true := mOK_of4 rfl (by decide +kernel)
set_option maxRecDepth 1000000 in
theorem ok_X12_good : mOK msL m_X12_good = true := mOK_of4 rfl (by decide +kernel)
set_option maxRecDepth 1000000 in
theorem ok_X12_fail : mOK msL m_X12_fail = true := mOK_of4 rfl (by decide +kernel)
set_option maxRecDepth 1000000 in
theorem ok_X12_need : mOK msL m_X12_need = true := mOK_of4 rfl (by decide +kernel)
set_option maxRecDepth 1000000 in
theorem ok_X12_isLetter : mOK msL m_X12_isLetter = true := mOK_of4 rfl (by decide +kernel)
set_option maxRecDepth 1000000 in
theorem ok_X12_isFigure : mOK msL m_X12_isFigure = true := mOK_of4 rfl (by decide +kernel)
set_option maxRecDepth 1000000 in
theorem ok_X12_byteAt : mOK msL m_X12_byteAt = true := mOK_of4 rfl (by decide +kernel)
set_option maxRecDepth 1000000 in
theorem okc_X12_next_0 : mOK msL (yX12_next, cX12_next, 6, none, 0, 0, 12, (2436, 2435, 112, 243), tb_X12_next_0) = true := mOK_of4 rfl (by decide +kernel)
set_option maxRecDepth 1000000 in
theorem okc_X12_next_1 : mOK msL (yX12_next, cX12_next, 6, none, 0, 0, 12, (2436, 2435, 112, 243), tb_X12_next_1) = true := mOK_of4 rfl (by decide +kernel)
set_option maxRecDepth 1000000 in
theorem okc_X12_next_2 : mOK msL (yX12_next, cX12_next, 6, none, 0, 0, 12, (2436, 2435, 112, 243), tb_X12_next_2) = true := mOK_of4 rfl (by decide +kernel)
theorem ok_X12_next : mOK msL m_X12_next = true := mOK_app okc_X12_next_0 (mOK_app okc_X12_next_1 okc_X12_next_2)
set_option maxRecDepth 1000000 in
theorem ok_X12_beginReading : mOK msL m_X12_beginReading = true := mOK_of4 rfl (by decide +kernel)
set_option maxRecDepth 1000000 in
theorem ok_X12_endReading : mOK msL m_X12_endReading = true := mOK_of4 rfl (by decide +kernel)
set_option maxRecDepth 1000000 in
theorem ok_X12_must : mOK msL m_X12_must = true := mOK_of4 rfl (by decide +kernel)
set_option maxRecDepth 1000000 in
theorem okc_X12_isReserved_0 : mOK msL (yX12_isReserved, cX12_isReserved, 3, (some .boolean), 1, 1, 12, (2479, 2478, 0, 243), tb_X12_isReserved_0) = true := mOK_of4 rfl (by decide +kernel)
set_option maxRecDepth 1000000 in
theorem okc_X12_isReserved_1 : mOK msL (yX12_isReserved, cX12_isReserved, 3, (some .boolean), 1, 1, 12, (2479, 2478, 0, 243), tb_X12_isReserved_1) = true := mOK_of4 rfl (by decide +kernel)
theorem ok_X12_isReserved : mOK msL m_X12_isReserved = true := mOK_app okc_X12_isReserved_0 okc_X12_isReserved_1
set_option maxRecDepth 1000000 in
theorem ok_X12_isName : mOK msL m_X12_isName = true := mOK_of4 rfl (by decide +kernel)
set_option maxRecDepth 1000000 in
theorem ok_X12_isWord : mOK msL m_X12_isWord = true := mOK_of4 rfl (by decide +kernel)
set_option maxRecDepth 1000000 in
theorem ok_X12_cellOf : mOK msL m_X12_cellOf = true := mOK_of4 rfl (by decide +kernel)
set_option maxRecDepth 1000000 in
theorem ok_X12_lockOf : mOK msL m_X12_lockOf = true := mOK_of4 rfl (by decide +kernel)
set_option maxRecDepth 1000000 in
theorem ok_X12_threadOf : mOK msL m_X12_threadOf = true := mOK_of4 rfl (by decide +kernel)
set_option maxRecDepth 1000000 in
theorem ok_X12_localOf : mOK msL m_X12_localOf = true := mOK_of4 rfl (by decide +kernel)
set_option maxRecDepth 1000000 in
theorem ok_X12_isTold : mOK msL m_X12_isTold = true := mOK_of4 rfl (by decide +kernel)
set_option maxRecDepth 1000000 in
theorem ok_X12_takeLocal : mOK msL m_X12_takeLocal = true := mOK_of4 rfl (by decide +kernel)
set_option maxRecDepth 1000000 in
theorem ok_X12_emit : mOK msL m_X12_emit = true := mOK_of4 rfl (by decide +kernel)
set_option maxRecDepth 1000000 in
theorem ok_X12_countNode : mOK msL m_X12_countNode = true := mOK_of4 rfl (by decide +kernel)
set_option maxRecDepth 1000000 in
theorem ok_X12_rankOf : mOK msL m_X12_rankOf = true := mOK_of4 rfl (by decide +kernel)
set_option maxRecDepth 1000000 in
theorem ok_X12_operatorAtHand : mOK msL m_X12_operatorAtHand = true := mOK_of4 rfl (by decide +kernel)
set_option maxRecDepth 1000000 in
theorem ok_X12_settle : mOK msL m_X12_settle = true := mOK_of4 rfl (by decide +kernel)
set_option maxRecDepth 1000000 in
theorem ok_X12_lastRank : mOK msL m_X12_lastRank = true := mOK_of4 rfl (by decide +kernel)
set_option maxRecDepth 1000000 in
theorem okc_X12_readExp_0 : mOK msL (yX12_readExp, cX12_readExp, 9, (some .int), 0, 0, 12, (2615, 2614, 138, 243), tb_X12_readExp_0) = true := mOK_of4 rfl (by decide +kernel)
set_option maxRecDepth 1000000 in
theorem okc_X12_readExp_1 : mOK msL (yX12_readExp, cX12_readExp, 9, (some .int), 0, 0, 12, (2615, 2614, 138, 243), tb_X12_readExp_1) = true := mOK_of4 rfl (by decide +kernel)
set_option maxRecDepth 1000000 in
theorem okc_X12_readExp_2 : mOK msL (yX12_readExp, cX12_readExp, 9, (some .int), 0, 0, 12, (2615, 2614, 138, 243), tb_X12_readExp_2) = true := mOK_of4 rfl (by decide +kernel)
theorem ok_X12_readExp : mOK msL m_X12_readExp = true := mOK_app okc_X12_readExp_0 (mOK_app okc_X12_readExp_1 okc_X12_readExp_2)
set_option maxRecDepth 1000000 in
theorem ok_X12_endPrefixes : mOK msL m_X12_endPrefixes = true := mOK_of4 rfl (by decide +kernel)
set_option maxRecDepth 1000000 in
theorem ok_X12_isFactWord : mOK msL m_X12_isFactWord = true := mOK_of4 rfl (by decide +kernel)
set_option maxRecDepth 1000000 in
theorem ok_X12_checkWord : mOK msL m_X12_checkWord = true := mOK_of4 rfl (by decide +kernel)
set_option maxRecDepth 1000000 in
theorem ok_X12_takeOperand : mOK msL m_X12_takeOperand = true := mOK_of4 rfl (by decide +kernel)
set_option maxRecDepth 1000000 in
theorem okc_X12_takeFact_0 : mOK msL (yX12_takeFact, cX12_takeFact, 4, none, 0, 0, 12, (2639, 2638, 144, 243), tb_X12_takeFact_0) = true := mOK_of4 rfl (by decide +kernel)
set_option maxRecDepth 1000000 in
theorem okc_X12_takeFact_1 : mOK msL (yX12_takeFact, cX12_takeFact, 4, none, 0, 0, 12, (2639, 2638, 144, 243), tb_X12_takeFact_1) = true := mOK_of4 rfl (by decide +kernel)
theorem ok_X12_takeFact : mOK msL m_X12_takeFact = true := mOK_app okc_X12_takeFact_0 okc_X12_takeFact_1
set_option maxRecDepth 1000000 in
theorem ok_X12_openBlock : mOK msL m_X12_openBlock = true := mOK_of4 rfl (by decide +kernel)
set_option maxRecDepth 1000000 in
theorem okc_X12_newLine_0 : mOK msL (yX12_newLine, cX12_newLine, 4, (some .int), 1, 0, 12, (2603, 2602, 135, 243), tb_X12_newLine_0) = true := mOK_of4 rfl (by decide +kernel)
set_option maxRecDepth 1000000 in
theorem okc_X12_newLine_1 : mOK msL (yX12_newLine, cX12_newLine, 4, (some .int), 1, 0, 12, (2603, 2602, 135, 243), tb_X12_newLine_1) = true := mOK_of4 rfl (by decide +kernel)
theorem ok_X12_newLine : mOK msL m_X12_newLine = true := mOK_app okc_X12_newLine_0 okc_X12_newLine_1
set_option maxRecDepth 1000000 in
theorem ok_X12_takeExp : mOK msL m_X12_takeExp = true := mOK_of4 rfl (by decide +kernel)
set_option maxRecDepth 1000000 in
theorem ok_X12_keywordAtHand : mOK msL m_X12_keywordAtHand = true := mOK_of4 rfl (by decide +kernel)
set_option maxRecDepth 1000000 in
theorem ok_X12_readStatement : mOK msL m_X12_readStatement = true := mOK_of4 rfl (by decide +kernel)
set_option maxRecDepth 1000000 in
theorem okc_X12_readRest_0 : mOK msL (yX12_readRest, cX12_readRest, 3, none, 2, 0, 12, (2661, 2660, 148, 243), tb_X12_readRest_0) = true := mOK_of4 rfl (by decide +kernel)
set_option maxRecDepth 1000000 in
theorem okc_X12_readRest_1 : mOK msL (yX12_readRest, cX12_readRest, 3, none, 2, 0, 12, (2661, 2660, 148, 243), tb_X12_readRest_1) = true := mOK_of4 rfl (by decide +kernel)
theorem ok_X12_readRest : mOK msL m_X12_readRest = true := mOK_app okc_X12_readRest_0 okc_X12_readRest_1
theorem okL_6 : ∀ M ∈ msL_6, mOK msL M = true := List.forall_mem_cons.mpr ⟨ok_X12_init, List.forall_mem_cons.mpr ⟨ok_X12_feed, List.forall_mem_cons.mpr ⟨ok_X12_end, List.forall_mem_cons.mpr ⟨ok_X12_good, List.forall_mem_cons.mpr ⟨ok_X12_fail, List.forall_mem_cons.mpr ⟨ok_X12_need, List.forall_mem_cons.mpr ⟨ok_X12_isLetter, List.forall_mem_cons.mpr ⟨ok_X12_isFigure, List.forall_mem_cons.mpr ⟨ok_X12_byteAt, List.forall_mem_cons.mpr ⟨ok_X12_next, List.forall_mem_cons.mpr ⟨ok_X12_beginReading, List.forall_mem_cons.mpr ⟨ok_X12_endReading, List.forall_mem_cons.mpr ⟨ok_X12_must, List.forall_mem_cons.mpr ⟨ok_X12_isReserved, List.forall_mem_cons.mpr ⟨ok_X12_isName, List.forall_mem_cons.mpr ⟨ok_X12_isWord, List.forall_mem_cons.mpr ⟨ok_X12_cellOf, List.forall_mem_cons.mpr ⟨ok_X12_lockOf, List.forall_mem_cons.mpr ⟨ok_X12_threadOf, List.forall_mem_cons.mpr ⟨ok_X12_localOf, List.forall_mem_cons.mpr ⟨ok_X12_isTold, List.forall_mem_cons.mpr ⟨ok_X12_takeLocal, List.forall_mem_cons.mpr ⟨ok_X12_emit, List.forall_mem_cons.mpr ⟨ok_X12_countNode, List.forall_mem_cons.mpr ⟨ok_X12_rankOf, List.forall_mem_cons.mpr ⟨ok_X12_operatorAtHand, List.forall_mem_cons.mpr ⟨ok_X12_settle, List.forall_mem_cons.mpr ⟨ok_X12_lastRank, List.forall_mem_cons.mpr ⟨ok_X12_readExp, List.forall_mem_cons.mpr ⟨ok_X12_endPrefixes, List.forall_mem_cons.mpr ⟨ok_X12_isFactWord, List.forall_mem_cons.mpr ⟨ok_X12_checkWord, List.forall_mem_cons.mpr ⟨ok_X12_takeOperand, List.forall_mem_cons.mpr ⟨ok_X12_takeFact, List.forall_mem_cons.mpr ⟨ok_X12_openBlock, List.forall_mem_cons.mpr ⟨ok_X12_newLine, List.forall_mem_cons.mpr ⟨ok_X12_takeExp, List.forall_mem_cons.mpr ⟨ok_X12_keywordAtHand, List.forall_mem_cons.mpr ⟨ok_X12_readStatement, List.forall_mem_cons.mpr ⟨ok_X12_readRest, fun _ h => absurd h List.not_mem_nil⟩⟩⟩⟩⟩⟩⟩⟩⟩⟩⟩⟩⟩⟩⟩⟩⟩⟩⟩⟩⟩⟩⟩⟩⟩⟩⟩⟩⟩⟩⟩⟩⟩⟩⟩⟩⟩⟩⟩⟩
