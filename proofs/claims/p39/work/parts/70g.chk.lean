/-! the tables fit: methods 200 to 239 -/
set_option maxRecDepth 1000000 in
theorem ok_X10_lower : mOK msL m_X10_lower = true := mOK_of4 rfl (by decide +kernel)
set_option maxRecDepth 1000000 in
theorem ok_X11_init : mOK msL m_X11_init = true := mOK_of4 rfl (by decide +kernel)
set_option maxRecDepth 1000000 in
theorem ok_X11_feed : mOK msL m_X11_feed = true := mOK_of4 rfl (by decide +kernel)
set_option maxRecDepth 1000000 in
theorem ok_X11_end : mOK msL m_X11_end = true := mOK_of4 rfl (by decide +kernel)
set_option maxRecDepth 1000000 in
theorem ok_X11_program : mOK msL m_X11_program = true := mOK_of4 rfl (by decide +kernel)
set_option maxRecDepth 1000000 in
theorem ok_X11_count : mOK msL m_X11_count = true := mOK_of4 rfl (by decide +kernel)
set_option maxRecDepth 1000000 in
theorem ok_X11_begin : mOK msL m_X11_begin = true := mOK_of4 rfl (by decide +kernel)
set_option maxRecDepth 1000000 in
theorem ok_X11_ready : mOK msL m_X11_ready = true := mOK_of4 rfl (by decide +kernel)
set_option maxRecDepth 1000000 in
theorem ok_X11_turn : mOK msL m_X11_turn = true := mOK_of4 rfl (by decide +kernel)
set_option maxRecDepth 1000000 in
theorem ok_X11_thread : mOK msL m_X11_thread = true := mOK_of4 rfl (by decide +kernel)
set_option maxRecDepth 1000000 in
theorem ok_X11_local : mOK msL m_X11_local = true := mOK_of4 rfl (by decide +kernel)
set_option maxRecDepth 1000000 in
theorem ok_X11_cell : mOK msL m_X11_cell = true := mOK_of4 rfl (by decide +kernel)
set_option maxRecDepth 1000000 in
theorem ok_X11_explore : mOK msL m_X11_explore = true := mOK_of4 rfl (by decide +kernel)
set_option maxRecDepth 1000000 in
theorem ok_X11_explored : mOK msL m_X11_explored = true := mOK_of4 rfl (by decide +kernel)
set_option maxRecDepth 1000000 in
theorem ok_X11_outcome : mOK msL m_X11_outcome = true := mOK_of4 rfl (by decide +kernel)
set_option maxRecDepth 1000000 in
theorem ok_X11_outcomeCell : mOK msL m_X11_outcomeCell = true := mOK_of4 rfl (by decide +kernel)
set_option maxRecDepth 1000000 in
theorem ok_X11_outcomeLocal : mOK msL m_X11_outcomeLocal = true := mOK_of4 rfl (by decide +kernel)
set_option maxRecDepth 1000000 in
theorem ok_X11_chances : mOK msL m_X11_chances = true := mOK_of4 rfl (by decide +kernel)
set_option maxRecDepth 1000000 in
theorem ok_X11_rewrite : mOK msL m_X11_rewrite = true := mOK_of4 rfl (by decide +kernel)
set_option maxRecDepth 1000000 in
theorem ok_X11_drop : mOK msL m_X11_drop = true := mOK_of4 rfl (by decide +kernel)
set_option maxRecDepth 1000000 in
theorem ok_X11_sound : mOK msL m_X11_sound = true := mOK_of4 rfl (by decide +kernel)
set_option maxRecDepth 1000000 in
theorem ok_X11_gained : mOK msL m_X11_gained = true := mOK_of4 rfl (by decide +kernel)
set_option maxRecDepth 1000000 in
theorem ok_X11_isWay : mOK msL m_X11_isWay = true := mOK_of4 rfl (by decide +kernel)
set_option maxRecDepth 1000000 in
theorem ok_X11_forgetRewritten : mOK msL m_X11_forgetRewritten = true := mOK_of4 rfl (by decide +kernel)
theorem okL_5 : ∀ M ∈ msL_5, mOK msL M = true := List.forall_mem_cons.mpr ⟨ok_X10_lower, List.forall_mem_cons.mpr ⟨ok_X11_init, List.forall_mem_cons.mpr ⟨ok_X11_feed, List.forall_mem_cons.mpr ⟨ok_X11_end, List.forall_mem_cons.mpr ⟨ok_X11_program, List.forall_mem_cons.mpr ⟨ok_X11_count, List.forall_mem_cons.mpr ⟨ok_X5_isCell, List.forall_mem_cons.mpr ⟨ok_X11_begin, List.forall_mem_cons.mpr ⟨ok_X11_ready, List.forall_mem_cons.mpr ⟨ok_X11_turn, List.forall_mem_cons.mpr ⟨ok_X11_thread, List.forall_mem_cons.mpr ⟨ok_X11_local, List.forall_mem_cons.mpr ⟨ok_X11_cell, List.forall_mem_cons.mpr ⟨ok_X5_isCell, List.forall_mem_cons.mpr ⟨ok_X5_isCell, List.forall_mem_cons.mpr ⟨ok_X5_isCell, List.forall_mem_cons.mpr ⟨ok_X5_isCell, List.forall_mem_cons.mpr ⟨ok_X5_isCell, List.forall_mem_cons.mpr ⟨ok_X5_isCell, List.forall_mem_cons.mpr ⟨ok_X5_isCell, List.forall_mem_cons.mpr ⟨ok_X11_explore, List.forall_mem_cons.mpr ⟨ok_X11_explored, List.forall_mem_cons.mpr ⟨ok_X11_outcome, List.forall_mem_cons.mpr ⟨ok_X11_outcomeCell, List.forall_mem_cons.mpr ⟨ok_X11_outcomeLocal, List.forall_mem_cons.mpr ⟨ok_X5_isCell, List.forall_mem_cons.mpr ⟨ok_X5_isCell, List.forall_mem_cons.mpr ⟨ok_X11_chances, List.forall_mem_cons.mpr ⟨ok_X5_isCell, List.forall_mem_cons.mpr ⟨ok_X5_isCell, List.forall_mem_cons.mpr ⟨ok_X5_isCell, List.forall_mem_cons.mpr ⟨ok_X5_isCell, List.forall_mem_cons.mpr ⟨ok_X5_isCell, List.forall_mem_cons.mpr ⟨ok_X5_isCell, List.forall_mem_cons.mpr ⟨ok_X11_rewrite, List.forall_mem_cons.mpr ⟨ok_X11_drop, List.forall_mem_cons.mpr ⟨ok_X11_sound, List.forall_mem_cons.mpr ⟨ok_X11_gained, List.forall_mem_cons.mpr ⟨ok_X11_isWay, List.forall_mem_cons.mpr ⟨ok_X11_forgetRewritten, fun _ h => absurd h List.not_mem_nil⟩⟩⟩⟩⟩⟩⟩⟩⟩⟩⟩⟩⟩⟩⟩⟩⟩⟩⟩⟩⟩⟩⟩⟩⟩⟩⟩⟩⟩⟩⟩⟩⟩⟩⟩⟩⟩⟩⟩⟩
