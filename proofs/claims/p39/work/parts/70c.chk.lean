/-! the tables fit: methods 40 to 79 -/
set_option maxRecDepth 1000000 in
theorem ok_X3_keep : mOK msL m_X3_keep = true := mOK_of4 rfl (by decide +kernel)
set_option maxRecDepth 1000000 in
theorem ok_X3_comeBack : mOK msL m_X3_comeBack = true := mOK_of4 rfl (by decide +kernel)
set_option maxRecDepth 1000000 in
theorem ok_X3_listReady : mOK msL m_X3_listReady = true := mOK_of4 rfl (by decide +kernel)
set_option maxRecDepth 1000000 in
theorem ok_X3_isReady : mOK msL m_X3_isReady = true := mOK_of4 rfl (by decide +kernel)
set_option maxRecDepth 1000000 in
theorem okc_X3_choices_0 : mOK msL (yX3_choices, cX3_choices, 6, (some .int), 1, 0, 3, (777, 775, 776, 103), tb_X3_choices_0) = true := mOK_of4 rfl (by decide +kernel)
set_option maxRecDepth 1000000 in
theorem okc_X3_choices_1 : mOK msL (yX3_choices, cX3_choices, 6, (some .int), 1, 0, 3, (777, 775, 776, 103), tb_X3_choices_1) = true := mOK_of4 rfl (by decide +kernel)
theorem ok_X3_choices : mOK msL m_X3_choices = true := mOK_app okc_X3_choices_0 okc_X3_choices_1
set_option maxRecDepth 1000000 in
theorem ok_X3_needsEmptyQueue : mOK msL m_X3_needsEmptyQueue = true := mOK_of4 rfl (by decide +kernel)
set_option maxRecDepth 1000000 in
theorem ok_X3_hasRoom : mOK msL m_X3_hasRoom = true := mOK_of4 rfl (by decide +kernel)
set_option maxRecDepth 1000000 in
theorem ok_X3_waitsFor : mOK msL m_X3_waitsFor = true := mOK_of4 rfl (by decide +kernel)
set_option maxRecDepth 1000000 in
theorem ok_X3_waiters : mOK msL m_X3_waiters = true := mOK_of4 rfl (by decide +kernel)
set_option maxRecDepth 1000000 in
theorem ok_X3_sort : mOK msL m_X3_sort = true := mOK_of4 rfl (by decide +kernel)
set_option maxRecDepth 1000000 in
theorem ok_X3_locksOf : mOK msL m_X3_locksOf = true := mOK_of4 rfl (by decide +kernel)
set_option maxRecDepth 1000000 in
theorem ok_X3_lockAhead : mOK msL m_X3_lockAhead = true := mOK_of4 rfl (by decide +kernel)
set_option maxRecDepth 1000000 in
theorem okc_X3_take_0 : mOK msL (yX3_take, cX3_take, 5, none, 2, 0, 3, (832, 830, 831, 103), tb_X3_take_0) = true := mOK_of4 rfl (by decide +kernel)
set_option maxRecDepth 1000000 in
theorem okc_X3_take_1 : mOK msL (yX3_take, cX3_take, 5, none, 2, 0, 3, (832, 830, 831, 103), tb_X3_take_1) = true := mOK_of4 rfl (by decide +kernel)
theorem ok_X3_take : mOK msL m_X3_take = true := mOK_app okc_X3_take_0 okc_X3_take_1
set_option maxRecDepth 1000000 in
theorem ok_X3_workOut : mOK msL m_X3_workOut = true := mOK_of4 rfl (by decide +kernel)
set_option maxRecDepth 1000000 in
theorem ok_X3_setLocal : mOK msL m_X3_setLocal = true := mOK_of4 rfl (by decide +kernel)
set_option maxRecDepth 1000000 in
theorem ok_X3_touch : mOK msL m_X3_touch = true := mOK_of4 rfl (by decide +kernel)
set_option maxRecDepth 1000000 in
theorem ok_X3_swapIf : mOK msL m_X3_swapIf = true := mOK_of4 rfl (by decide +kernel)
set_option maxRecDepth 1000000 in
theorem ok_X3_addTo : mOK msL m_X3_addTo = true := mOK_of4 rfl (by decide +kernel)
set_option maxRecDepth 1000000 in
theorem ok_X3_useLock : mOK msL m_X3_useLock = true := mOK_of4 rfl (by decide +kernel)
set_option maxRecDepth 1000000 in
theorem ok_X3_leave : mOK msL m_X3_leave = true := mOK_of4 rfl (by decide +kernel)
set_option maxRecDepth 1000000 in
theorem ok_X3_wake : mOK msL m_X3_wake = true := mOK_of4 rfl (by decide +kernel)
set_option maxRecDepth 1000000 in
theorem ok_X3_takeBack : mOK msL m_X3_takeBack = true := mOK_of4 rfl (by decide +kernel)
set_option maxRecDepth 1000000 in
theorem ok_X3_meet : mOK msL m_X3_meet = true := mOK_of4 rfl (by decide +kernel)
set_option maxRecDepth 1000000 in
theorem ok_X3_begins : mOK msL m_X3_begins = true := mOK_of4 rfl (by decide +kernel)
set_option maxRecDepth 1000000 in
theorem ok_X3_tell : mOK msL m_X3_tell = true := mOK_of4 rfl (by decide +kernel)
set_option maxRecDepth 1000000 in
theorem ok_X3_loadable : mOK msL m_X3_loadable = true := mOK_of4 rfl (by decide +kernel)
set_option maxRecDepth 1000000 in
theorem ok_X3_store : mOK msL m_X3_store = true := mOK_of4 rfl (by decide +kernel)
set_option maxRecDepth 1000000 in
theorem ok_X3_flush : mOK msL m_X3_flush = true := mOK_of4 rfl (by decide +kernel)
set_option maxRecDepth 1000000 in
theorem ok_X3_write : mOK msL m_X3_write = true := mOK_of4 rfl (by decide +kernel)
set_option maxRecDepth 1000000 in
theorem ok_X3_viewed : mOK msL m_X3_viewed = true := mOK_of4 rfl (by decide +kernel)
set_option maxRecDepth 1000000 in
theorem ok_X3_view : mOK msL m_X3_view = true := mOK_of4 rfl (by decide +kernel)
set_option maxRecDepth 1000000 in
theorem ok_X3_look : mOK msL m_X3_look = true := mOK_of4 rfl (by decide +kernel)
set_option maxRecDepth 1000000 in
theorem ok_X3_lookAtLast : mOK msL m_X3_lookAtLast = true := mOK_of4 rfl (by decide +kernel)
set_option maxRecDepth 1000000 in
theorem ok_X3_learn : mOK msL m_X3_learn = true := mOK_of4 rfl (by decide +kernel)
set_option maxRecDepth 1000000 in
theorem ok_X4_init : mOK msL m_X4_init = true := mOK_of4 rfl (by decide +kernel)
set_option maxRecDepth 1000000 in
theorem ok_X4_put : mOK msL m_X4_put = true := mOK_of4 rfl (by decide +kernel)
set_option maxRecDepth 1000000 in
theorem ok_X4_set : mOK msL m_X4_set = true := mOK_of4 rfl (by decide +kernel)
set_option maxRecDepth 1000000 in
theorem ok_X4_workOut : mOK msL m_X4_workOut = true := mOK_of4 rfl (by decide +kernel)
set_option maxRecDepth 1000000 in
theorem ok_X4_apply : mOK msL m_X4_apply = true := mOK_of4 rfl (by decide +kernel)
theorem okL_1 : ∀ M ∈ msL_1, mOK msL M = true := List.forall_mem_cons.mpr ⟨ok_X3_keep, List.forall_mem_cons.mpr ⟨ok_X3_comeBack, List.forall_mem_cons.mpr ⟨ok_X3_listReady, List.forall_mem_cons.mpr ⟨ok_X3_isReady, List.forall_mem_cons.mpr ⟨ok_X3_choices, List.forall_mem_cons.mpr ⟨ok_X3_needsEmptyQueue, List.forall_mem_cons.mpr ⟨ok_X3_hasRoom, List.forall_mem_cons.mpr ⟨ok_X3_waitsFor, List.forall_mem_cons.mpr ⟨ok_X3_waiters, List.forall_mem_cons.mpr ⟨ok_X3_sort, List.forall_mem_cons.mpr ⟨ok_X3_locksOf, List.forall_mem_cons.mpr ⟨ok_X3_lockAhead, List.forall_mem_cons.mpr ⟨ok_X3_take, List.forall_mem_cons.mpr ⟨ok_X3_workOut, List.forall_mem_cons.mpr ⟨ok_X3_setLocal, List.forall_mem_cons.mpr ⟨ok_X3_touch, List.forall_mem_cons.mpr ⟨ok_X3_swapIf, List.forall_mem_cons.mpr ⟨ok_X3_addTo, List.forall_mem_cons.mpr ⟨ok_X3_useLock, List.forall_mem_cons.mpr ⟨ok_X3_leave, List.forall_mem_cons.mpr ⟨ok_X3_wake, List.forall_mem_cons.mpr ⟨ok_X3_takeBack, List.forall_mem_cons.mpr ⟨ok_X3_meet, List.forall_mem_cons.mpr ⟨ok_X3_begins, List.forall_mem_cons.mpr ⟨ok_X3_tell, List.forall_mem_cons.mpr ⟨ok_X5_isCell, List.forall_mem_cons.mpr ⟨ok_X3_loadable, List.forall_mem_cons.mpr ⟨ok_X3_store, List.forall_mem_cons.mpr ⟨ok_X3_flush, List.forall_mem_cons.mpr ⟨ok_X3_write, List.forall_mem_cons.mpr ⟨ok_X3_viewed, List.forall_mem_cons.mpr ⟨ok_X3_view, List.forall_mem_cons.mpr ⟨ok_X3_look, List.forall_mem_cons.mpr ⟨ok_X3_lookAtLast, List.forall_mem_cons.mpr ⟨ok_X3_learn, List.forall_mem_cons.mpr ⟨ok_X4_init, List.forall_mem_cons.mpr ⟨ok_X4_put, List.forall_mem_cons.mpr ⟨ok_X4_set, List.forall_mem_cons.mpr ⟨ok_X4_workOut, List.forall_mem_cons.mpr ⟨ok_X4_apply, fun _ h => absurd h List.not_mem_nil⟩⟩⟩⟩⟩⟩⟩⟩⟩⟩⟩⟩⟩⟩⟩⟩⟩⟩⟩⟩⟩⟩⟩⟩⟩⟩⟩⟩⟩⟩⟩⟩⟩⟩⟩⟩⟩⟩⟩⟩
