/-! the tables fit: methods 80 to 119 -/
set_option maxRecDepth 1000000 in
theorem ok_X5_init : mOK msL m_X5_init = true := mOK_of4 rfl (by decide +kernel)
set_option maxRecDepth 1000000 in
theorem ok_X5_clear : mOK msL m_X5_clear = true := mOK_of4 rfl (by decide +kernel)
set_option maxRecDepth 1000000 in
theorem ok_X5_copy : mOK msL m_X5_copy = true := mOK_of4 rfl (by decide +kernel)
set_option maxRecDepth 1000000 in
theorem ok_X5_find : mOK msL m_X5_find = true := mOK_of4 rfl (by decide +kernel)
set_option maxRecDepth 1000000 in
theorem ok_X5_named : mOK msL m_X5_named = true := mOK_of4 rfl (by decide +kernel)
set_option maxRecDepth 1000000 in
theorem ok_X5_isLock : mOK msL m_X5_isLock = true := mOK_of4 rfl (by decide +kernel)
set_option maxRecDepth 1000000 in
theorem ok_X5_isThread : mOK msL m_X5_isThread = true := mOK_of4 rfl (by decide +kernel)
set_option maxRecDepth 1000000 in
theorem ok_X5_localOf : mOK msL m_X5_localOf = true := mOK_of4 rfl (by decide +kernel)
set_option maxRecDepth 1000000 in
theorem ok_X5_isTold : mOK msL m_X5_isTold = true := mOK_of4 rfl (by decide +kernel)
set_option maxRecDepth 1000000 in
theorem ok_X5_hasCell : mOK msL m_X5_hasCell = true := mOK_of4 rfl (by decide +kernel)
set_option maxRecDepth 1000000 in
theorem ok_X5_hasThread : mOK msL m_X5_hasThread = true := mOK_of4 rfl (by decide +kernel)
set_option maxRecDepth 1000000 in
theorem ok_X5_hasLocal : mOK msL m_X5_hasLocal = true := mOK_of4 rfl (by decide +kernel)
set_option maxRecDepth 1000000 in
theorem ok_X5_isVolatile : mOK msL m_X5_isVolatile = true := mOK_of4 rfl (by decide +kernel)
set_option maxRecDepth 1000000 in
theorem ok_X5_addCell : mOK msL m_X5_addCell = true := mOK_of4 rfl (by decide +kernel)
set_option maxRecDepth 1000000 in
theorem ok_X5_addLock : mOK msL m_X5_addLock = true := mOK_of4 rfl (by decide +kernel)
set_option maxRecDepth 1000000 in
theorem ok_X5_addThread : mOK msL m_X5_addThread = true := mOK_of4 rfl (by decide +kernel)
set_option maxRecDepth 1000000 in
theorem ok_X5_addLocal : mOK msL m_X5_addLocal = true := mOK_of4 rfl (by decide +kernel)
set_option maxRecDepth 1000000 in
theorem ok_X5_addLine : mOK msL m_X5_addLine = true := mOK_of4 rfl (by decide +kernel)
set_option maxRecDepth 1000000 in
theorem ok_X5_link : mOK msL m_X5_link = true := mOK_of4 rfl (by decide +kernel)
set_option maxRecDepth 1000000 in
theorem ok_X5_layWays : mOK msL m_X5_layWays = true := mOK_of4 rfl (by decide +kernel)
set_option maxRecDepth 1000000 in
theorem ok_X5_behind : mOK msL m_X5_behind = true := mOK_of4 rfl (by decide +kernel)
set_option maxRecDepth 1000000 in
theorem ok_X5_touches : mOK msL m_X5_touches = true := mOK_of4 rfl (by decide +kernel)
set_option maxRecDepth 1000000 in
theorem ok_X5_clash : mOK msL m_X5_clash = true := mOK_of4 rfl (by decide +kernel)
set_option maxRecDepth 1000000 in
theorem ok_X5_change : mOK msL m_X5_change = true := mOK_of4 rfl (by decide +kernel)
set_option maxRecDepth 1000000 in
theorem ok_X5_ahead : mOK msL m_X5_ahead = true := mOK_of4 rfl (by decide +kernel)
set_option maxRecDepth 1000000 in
theorem ok_X5_swap : mOK msL m_X5_swap = true := mOK_of4 rfl (by decide +kernel)
set_option maxRecDepth 1000000 in
theorem ok_X5_leaveOut : mOK msL m_X5_leaveOut = true := mOK_of4 rfl (by decide +kernel)
set_option maxRecDepth 1000000 in
theorem ok_X5_unlink : mOK msL m_X5_unlink = true := mOK_of4 rfl (by decide +kernel)
set_option maxRecDepth 1000000 in
theorem ok_X5_empty : mOK msL m_X5_empty = true := mOK_of4 rfl (by decide +kernel)
set_option maxRecDepth 1000000 in
theorem ok_X5_reuse : mOK msL m_X5_reuse = true := mOK_of4 rfl (by decide +kernel)
set_option maxRecDepth 1000000 in
theorem ok_X6_init : mOK msL m_X6_init = true := mOK_of4 rfl (by decide +kernel)
set_option maxRecDepth 1000000 in
theorem ok_X6_open : mOK msL m_X6_open = true := mOK_of4 rfl (by decide +kernel)
set_option maxRecDepth 1000000 in
theorem ok_X6_blame : mOK msL m_X6_blame = true := mOK_of4 rfl (by decide +kernel)
set_option maxRecDepth 1000000 in
theorem ok_X6_need : mOK msL m_X6_need = true := mOK_of4 rfl (by decide +kernel)
set_option maxRecDepth 1000000 in
theorem ok_X6_skip : mOK msL m_X6_skip = true := mOK_of4 rfl (by decide +kernel)
set_option maxRecDepth 1000000 in
theorem ok_X6_readProgram : mOK msL m_X6_readProgram = true := mOK_of4 rfl (by decide +kernel)
set_option maxRecDepth 1000000 in
theorem ok_X6_isNewName : mOK msL m_X6_isNewName = true := mOK_of4 rfl (by decide +kernel)
set_option maxRecDepth 1000000 in
theorem ok_X6_readCell : mOK msL m_X6_readCell = true := mOK_of4 rfl (by decide +kernel)
theorem okL_2 : ∀ M ∈ msL_2, mOK msL M = true := List.forall_mem_cons.mpr ⟨ok_X5_init, List.forall_mem_cons.mpr ⟨ok_X5_clear, List.forall_mem_cons.mpr ⟨ok_X5_copy, List.forall_mem_cons.mpr ⟨ok_X5_find, List.forall_mem_cons.mpr ⟨ok_X5_named, List.forall_mem_cons.mpr ⟨ok_X5_isCell, List.forall_mem_cons.mpr ⟨ok_X5_isLock, List.forall_mem_cons.mpr ⟨ok_X5_isThread, List.forall_mem_cons.mpr ⟨ok_X5_localOf, List.forall_mem_cons.mpr ⟨ok_X5_isTold, List.forall_mem_cons.mpr ⟨ok_X5_hasCell, List.forall_mem_cons.mpr ⟨ok_X5_isCell, List.forall_mem_cons.mpr ⟨ok_X5_hasThread, List.forall_mem_cons.mpr ⟨ok_X5_hasLocal, List.forall_mem_cons.mpr ⟨ok_X5_isVolatile, List.forall_mem_cons.mpr ⟨ok_X5_addCell, List.forall_mem_cons.mpr ⟨ok_X5_addLock, List.forall_mem_cons.mpr ⟨ok_X5_addThread, List.forall_mem_cons.mpr ⟨ok_X5_addLocal, List.forall_mem_cons.mpr ⟨ok_X5_addLine, List.forall_mem_cons.mpr ⟨ok_X5_link, List.forall_mem_cons.mpr ⟨ok_X5_layWays, List.forall_mem_cons.mpr ⟨ok_X5_behind, List.forall_mem_cons.mpr ⟨ok_X5_touches, List.forall_mem_cons.mpr ⟨ok_X5_clash, List.forall_mem_cons.mpr ⟨ok_X5_change, List.forall_mem_cons.mpr ⟨ok_X5_ahead, List.forall_mem_cons.mpr ⟨ok_X5_swap, List.forall_mem_cons.mpr ⟨ok_X5_leaveOut, List.forall_mem_cons.mpr ⟨ok_X5_unlink, List.forall_mem_cons.mpr ⟨ok_X5_empty, List.forall_mem_cons.mpr ⟨ok_X5_reuse, List.forall_mem_cons.mpr ⟨ok_X6_init, List.forall_mem_cons.mpr ⟨ok_X6_open, List.forall_mem_cons.mpr ⟨ok_X6_blame, List.forall_mem_cons.mpr ⟨ok_X6_need, List.forall_mem_cons.mpr ⟨ok_X6_skip, List.forall_mem_cons.mpr ⟨ok_X6_readProgram, List.forall_mem_cons.mpr ⟨ok_X6_isNewName, List.forall_mem_cons.mpr ⟨ok_X6_readCell, fun _ h => absurd h List.not_mem_nil⟩⟩⟩⟩⟩⟩⟩⟩⟩⟩⟩⟩⟩⟩⟩⟩⟩⟩⟩⟩⟩⟩⟩⟩⟩⟩⟩⟩⟩⟩⟩⟩⟩⟩⟩⟩⟩⟩⟩⟩
