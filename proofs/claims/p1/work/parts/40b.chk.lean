/-! the tables fit: methods 40 to 79 -/
set_option maxRecDepth 1000000 in
theorem ok_X3_keep : mOK msL m_X3_keep = true := by decide +kernel
set_option maxRecDepth 1000000 in
theorem ok_X3_comeBack : mOK msL m_X3_comeBack = true := by decide +kernel
set_option maxRecDepth 1000000 in
theorem ok_X3_listReady : mOK msL m_X3_listReady = true := by decide +kernel
set_option maxRecDepth 1000000 in
theorem ok_X3_isReady : mOK msL m_X3_isReady = true := by decide +kernel
set_option maxRecDepth 1000000 in
theorem ok_X3_choices : mOK msL m_X3_choices = true := by decide +kernel
set_option maxRecDepth 1000000 in
theorem ok_X3_needsEmptyQueue : mOK msL m_X3_needsEmptyQueue = true := by decide +kernel
set_option maxRecDepth 1000000 in
theorem ok_X3_hasRoom : mOK msL m_X3_hasRoom = true := by decide +kernel
set_option maxRecDepth 1000000 in
theorem ok_X3_waitsFor : mOK msL m_X3_waitsFor = true := by decide +kernel
set_option maxRecDepth 1000000 in
theorem ok_X3_waiters : mOK msL m_X3_waiters = true := by decide +kernel
set_option maxRecDepth 1000000 in
theorem ok_X3_sort : mOK msL m_X3_sort = true := by decide +kernel
set_option maxRecDepth 1000000 in
theorem ok_X3_locksOf : mOK msL m_X3_locksOf = true := by decide +kernel
set_option maxRecDepth 1000000 in
theorem ok_X3_lockAhead : mOK msL m_X3_lockAhead = true := by decide +kernel
set_option maxRecDepth 1000000 in
theorem ok_X3_take : mOK msL m_X3_take = true := by decide +kernel
set_option maxRecDepth 1000000 in
theorem ok_X3_workOut : mOK msL m_X3_workOut = true := by decide +kernel
set_option maxRecDepth 1000000 in
theorem ok_X3_setLocal : mOK msL m_X3_setLocal = true := by decide +kernel
set_option maxRecDepth 1000000 in
theorem ok_X3_touch : mOK msL m_X3_touch = true := by decide +kernel
set_option maxRecDepth 1000000 in
theorem ok_X3_swapIf : mOK msL m_X3_swapIf = true := by decide +kernel
set_option maxRecDepth 1000000 in
theorem ok_X3_addTo : mOK msL m_X3_addTo = true := by decide +kernel
set_option maxRecDepth 1000000 in
theorem ok_X3_useLock : mOK msL m_X3_useLock = true := by decide +kernel
set_option maxRecDepth 1000000 in
theorem ok_X3_leave : mOK msL m_X3_leave = true := by decide +kernel
set_option maxRecDepth 1000000 in
theorem ok_X3_wake : mOK msL m_X3_wake = true := by decide +kernel
set_option maxRecDepth 1000000 in
theorem ok_X3_takeBack : mOK msL m_X3_takeBack = true := by decide +kernel
set_option maxRecDepth 1000000 in
theorem ok_X3_meet : mOK msL m_X3_meet = true := by decide +kernel
set_option maxRecDepth 1000000 in
theorem ok_X3_begins : mOK msL m_X3_begins = true := by decide +kernel
set_option maxRecDepth 1000000 in
theorem ok_X3_tell : mOK msL m_X3_tell = true := by decide +kernel
set_option maxRecDepth 1000000 in
theorem ok_X3_mayLoad : mOK msL m_X3_mayLoad = true := by decide +kernel
set_option maxRecDepth 1000000 in
theorem ok_X3_loadable : mOK msL m_X3_loadable = true := by decide +kernel
set_option maxRecDepth 1000000 in
theorem ok_X3_store : mOK msL m_X3_store = true := by decide +kernel
set_option maxRecDepth 1000000 in
theorem ok_X3_flush : mOK msL m_X3_flush = true := by decide +kernel
set_option maxRecDepth 1000000 in
theorem ok_X3_write : mOK msL m_X3_write = true := by decide +kernel
set_option maxRecDepth 1000000 in
theorem ok_X3_viewed : mOK msL m_X3_viewed = true := by decide +kernel
set_option maxRecDepth 1000000 in
theorem ok_X3_view : mOK msL m_X3_view = true := by decide +kernel
set_option maxRecDepth 1000000 in
theorem ok_X3_look : mOK msL m_X3_look = true := by decide +kernel
set_option maxRecDepth 1000000 in
theorem ok_X3_lookAtLast : mOK msL m_X3_lookAtLast = true := by decide +kernel
set_option maxRecDepth 1000000 in
theorem ok_X3_learn : mOK msL m_X3_learn = true := by decide +kernel
set_option maxRecDepth 1000000 in
theorem ok_X4_init : mOK msL m_X4_init = true := by decide +kernel
set_option maxRecDepth 1000000 in
theorem ok_X4_put : mOK msL m_X4_put = true := by decide +kernel
set_option maxRecDepth 1000000 in
theorem ok_X4_set : mOK msL m_X4_set = true := by decide +kernel
set_option maxRecDepth 1000000 in
theorem ok_X4_workOut : mOK msL m_X4_workOut = true := by decide +kernel
set_option maxRecDepth 1000000 in
theorem ok_X4_apply : mOK msL m_X4_apply = true := by decide +kernel
theorem okL_1 : ∀ M ∈ msL_1, mOK msL M = true := List.forall_mem_cons.mpr ⟨ok_X3_keep, List.forall_mem_cons.mpr ⟨ok_X3_comeBack, List.forall_mem_cons.mpr ⟨ok_X3_listReady, List.forall_mem_cons.mpr ⟨ok_X3_isReady, List.forall_mem_cons.mpr ⟨ok_X3_choices, List.forall_mem_cons.mpr ⟨ok_X3_needsEmptyQueue, List.forall_mem_cons.mpr ⟨ok_X3_hasRoom, List.forall_mem_cons.mpr ⟨ok_X3_waitsFor, List.forall_mem_cons.mpr ⟨ok_X3_waiters, List.forall_mem_cons.mpr ⟨ok_X3_sort, List.forall_mem_cons.mpr ⟨ok_X3_locksOf, List.forall_mem_cons.mpr ⟨ok_X3_lockAhead, List.forall_mem_cons.mpr ⟨ok_X3_take, List.forall_mem_cons.mpr ⟨ok_X3_workOut, List.forall_mem_cons.mpr ⟨ok_X3_setLocal, List.forall_mem_cons.mpr ⟨ok_X3_touch, List.forall_mem_cons.mpr ⟨ok_X3_swapIf, List.forall_mem_cons.mpr ⟨ok_X3_addTo, List.forall_mem_cons.mpr ⟨ok_X3_useLock, List.forall_mem_cons.mpr ⟨ok_X3_leave, List.forall_mem_cons.mpr ⟨ok_X3_wake, List.forall_mem_cons.mpr ⟨ok_X3_takeBack, List.forall_mem_cons.mpr ⟨ok_X3_meet, List.forall_mem_cons.mpr ⟨ok_X3_begins, List.forall_mem_cons.mpr ⟨ok_X3_tell, List.forall_mem_cons.mpr ⟨ok_X3_mayLoad, List.forall_mem_cons.mpr ⟨ok_X3_loadable, List.forall_mem_cons.mpr ⟨ok_X3_store, List.forall_mem_cons.mpr ⟨ok_X3_flush, List.forall_mem_cons.mpr ⟨ok_X3_write, List.forall_mem_cons.mpr ⟨ok_X3_viewed, List.forall_mem_cons.mpr ⟨ok_X3_view, List.forall_mem_cons.mpr ⟨ok_X3_look, List.forall_mem_cons.mpr ⟨ok_X3_lookAtLast, List.forall_mem_cons.mpr ⟨ok_X3_learn, List.forall_mem_cons.mpr ⟨ok_X4_init, List.forall_mem_cons.mpr ⟨ok_X4_put, List.forall_mem_cons.mpr ⟨ok_X4_set, List.forall_mem_cons.mpr ⟨ok_X4_workOut, List.forall_mem_cons.mpr ⟨ok_X4_apply, fun _ h => absurd h List.not_mem_nil⟩⟩⟩⟩⟩⟩⟩⟩⟩⟩⟩⟩⟩⟩⟩⟩⟩⟩⟩⟩⟩⟩⟩⟩⟩⟩⟩⟩⟩⟩⟩⟩⟩⟩⟩⟩⟩⟩⟩⟩
