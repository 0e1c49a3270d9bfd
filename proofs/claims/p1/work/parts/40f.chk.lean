/-! the tables fit: methods 200 to 239 -/
set_option maxRecDepth 1000000 in
theorem ok_X10_lower : mOK msL m_X10_lower = true := by decide +kernel
set_option maxRecDepth 1000000 in
theorem ok_X11_init : mOK msL m_X11_init = true := by decide +kernel
set_option maxRecDepth 1000000 in
theorem ok_X11_feed : mOK msL m_X11_feed = true := by decide +kernel
set_option maxRecDepth 1000000 in
theorem ok_X11_end : mOK msL m_X11_end = true := by decide +kernel
set_option maxRecDepth 1000000 in
theorem ok_X11_program : mOK msL m_X11_program = true := by decide +kernel
set_option maxRecDepth 1000000 in
theorem ok_X11_count : mOK msL m_X11_count = true := by decide +kernel
set_option maxRecDepth 1000000 in
theorem ok_X11_line : mOK msL m_X11_line = true := by decide +kernel
set_option maxRecDepth 1000000 in
theorem ok_X11_begin : mOK msL m_X11_begin = true := by decide +kernel
set_option maxRecDepth 1000000 in
theorem ok_X11_ready : mOK msL m_X11_ready = true := by decide +kernel
set_option maxRecDepth 1000000 in
theorem ok_X11_turn : mOK msL m_X11_turn = true := by decide +kernel
set_option maxRecDepth 1000000 in
theorem ok_X11_thread : mOK msL m_X11_thread = true := by decide +kernel
set_option maxRecDepth 1000000 in
theorem ok_X11_local : mOK msL m_X11_local = true := by decide +kernel
set_option maxRecDepth 1000000 in
theorem ok_X11_cell : mOK msL m_X11_cell = true := by decide +kernel
set_option maxRecDepth 1000000 in
theorem ok_X11_seen : mOK msL m_X11_seen = true := by decide +kernel
set_option maxRecDepth 1000000 in
theorem ok_X11_held : mOK msL m_X11_held = true := by decide +kernel
set_option maxRecDepth 1000000 in
theorem ok_X11_step : mOK msL m_X11_step = true := by decide +kernel
set_option maxRecDepth 1000000 in
theorem ok_X11_before : mOK msL m_X11_before = true := by decide +kernel
set_option maxRecDepth 1000000 in
theorem ok_X11_runRace : mOK msL m_X11_runRace = true := by decide +kernel
set_option maxRecDepth 1000000 in
theorem ok_X11_linear : mOK msL m_X11_linear = true := by decide +kernel
set_option maxRecDepth 1000000 in
theorem ok_X11_ordered : mOK msL m_X11_ordered = true := by decide +kernel
set_option maxRecDepth 1000000 in
theorem ok_X11_explore : mOK msL m_X11_explore = true := by decide +kernel
set_option maxRecDepth 1000000 in
theorem ok_X11_explored : mOK msL m_X11_explored = true := by decide +kernel
set_option maxRecDepth 1000000 in
theorem ok_X11_outcome : mOK msL m_X11_outcome = true := by decide +kernel
set_option maxRecDepth 1000000 in
theorem ok_X11_outcomeCell : mOK msL m_X11_outcomeCell = true := by decide +kernel
set_option maxRecDepth 1000000 in
theorem ok_X11_outcomeLocal : mOK msL m_X11_outcomeLocal = true := by decide +kernel
set_option maxRecDepth 1000000 in
theorem ok_X11_schedule : mOK msL m_X11_schedule = true := by decide +kernel
set_option maxRecDepth 1000000 in
theorem ok_X11_replay : mOK msL m_X11_replay = true := by decide +kernel
set_option maxRecDepth 1000000 in
theorem ok_X11_chances : mOK msL m_X11_chances = true := by decide +kernel
set_option maxRecDepth 1000000 in
theorem ok_X11_race : mOK msL m_X11_race = true := by decide +kernel
set_option maxRecDepth 1000000 in
theorem ok_X11_guard : mOK msL m_X11_guard = true := by decide +kernel
set_option maxRecDepth 1000000 in
theorem ok_X11_ring : mOK msL m_X11_ring = true := by decide +kernel
set_option maxRecDepth 1000000 in
theorem ok_X11_order : mOK msL m_X11_order = true := by decide +kernel
set_option maxRecDepth 1000000 in
theorem ok_X11_judge : mOK msL m_X11_judge = true := by decide +kernel
set_option maxRecDepth 1000000 in
theorem ok_X11_where : mOK msL m_X11_where = true := by decide +kernel
set_option maxRecDepth 1000000 in
theorem ok_X11_rewrite : mOK msL m_X11_rewrite = true := by decide +kernel
set_option maxRecDepth 1000000 in
theorem ok_X11_drop : mOK msL m_X11_drop = true := by decide +kernel
set_option maxRecDepth 1000000 in
theorem ok_X11_sound : mOK msL m_X11_sound = true := by decide +kernel
set_option maxRecDepth 1000000 in
theorem ok_X11_gained : mOK msL m_X11_gained = true := by decide +kernel
set_option maxRecDepth 1000000 in
theorem ok_X11_isWay : mOK msL m_X11_isWay = true := by decide +kernel
set_option maxRecDepth 1000000 in
theorem ok_X11_forgetRewritten : mOK msL m_X11_forgetRewritten = true := by decide +kernel
theorem okL_5 : ∀ M ∈ msL_5, mOK msL M = true := List.forall_mem_cons.mpr ⟨ok_X10_lower, List.forall_mem_cons.mpr ⟨ok_X11_init, List.forall_mem_cons.mpr ⟨ok_X11_feed, List.forall_mem_cons.mpr ⟨ok_X11_end, List.forall_mem_cons.mpr ⟨ok_X11_program, List.forall_mem_cons.mpr ⟨ok_X11_count, List.forall_mem_cons.mpr ⟨ok_X11_line, List.forall_mem_cons.mpr ⟨ok_X11_begin, List.forall_mem_cons.mpr ⟨ok_X11_ready, List.forall_mem_cons.mpr ⟨ok_X11_turn, List.forall_mem_cons.mpr ⟨ok_X11_thread, List.forall_mem_cons.mpr ⟨ok_X11_local, List.forall_mem_cons.mpr ⟨ok_X11_cell, List.forall_mem_cons.mpr ⟨ok_X11_seen, List.forall_mem_cons.mpr ⟨ok_X11_held, List.forall_mem_cons.mpr ⟨ok_X11_step, List.forall_mem_cons.mpr ⟨ok_X11_before, List.forall_mem_cons.mpr ⟨ok_X11_runRace, List.forall_mem_cons.mpr ⟨ok_X11_linear, List.forall_mem_cons.mpr ⟨ok_X11_ordered, List.forall_mem_cons.mpr ⟨ok_X11_explore, List.forall_mem_cons.mpr ⟨ok_X11_explored, List.forall_mem_cons.mpr ⟨ok_X11_outcome, List.forall_mem_cons.mpr ⟨ok_X11_outcomeCell, List.forall_mem_cons.mpr ⟨ok_X11_outcomeLocal, List.forall_mem_cons.mpr ⟨ok_X11_schedule, List.forall_mem_cons.mpr ⟨ok_X11_replay, List.forall_mem_cons.mpr ⟨ok_X11_chances, List.forall_mem_cons.mpr ⟨ok_X11_race, List.forall_mem_cons.mpr ⟨ok_X11_guard, List.forall_mem_cons.mpr ⟨ok_X11_ring, List.forall_mem_cons.mpr ⟨ok_X11_order, List.forall_mem_cons.mpr ⟨ok_X11_judge, List.forall_mem_cons.mpr ⟨ok_X11_where, List.forall_mem_cons.mpr ⟨ok_X11_rewrite, List.forall_mem_cons.mpr ⟨ok_X11_drop, List.forall_mem_cons.mpr ⟨ok_X11_sound, List.forall_mem_cons.mpr ⟨ok_X11_gained, List.forall_mem_cons.mpr ⟨ok_X11_isWay, List.forall_mem_cons.mpr ⟨ok_X11_forgetRewritten, fun _ h => absurd h List.not_mem_nil⟩⟩⟩⟩⟩⟩⟩⟩⟩⟩⟩⟩⟩⟩⟩⟩⟩⟩⟩⟩⟩⟩⟩⟩⟩⟩⟩⟩⟩⟩⟩⟩⟩⟩⟩⟩⟩⟩⟩⟩
