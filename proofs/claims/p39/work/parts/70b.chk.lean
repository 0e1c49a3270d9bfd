/-! the tables fit: methods 0 to 39 -/
set_option maxRecDepth 1000000 in
theorem ok_X0_init : mOK msL m_X0_init = true := mOK_of4 rfl (by decide +kernel)
set_option maxRecDepth 1000000 in
theorem ok_X0_clear : mOK msL m_X0_clear = true := mOK_of4 rfl (by decide +kernel)
set_option maxRecDepth 1000000 in
theorem ok_X0_see : mOK msL m_X0_see = true := mOK_of4 rfl (by decide +kernel)
set_option maxRecDepth 1000000 in
theorem ok_X0_noteRace : mOK msL m_X0_noteRace = true := mOK_of4 rfl (by decide +kernel)
set_option maxRecDepth 1000000 in
theorem ok_X5_isCell : mOK msL m_X5_isCell = true := mOK_of4 rfl (by decide +kernel)
set_option maxRecDepth 1000000 in
theorem ok_X0_noteTaking : mOK msL m_X0_noteTaking = true := mOK_of4 rfl (by decide +kernel)
set_option maxRecDepth 1000000 in
theorem ok_X0_seeStuck : mOK msL m_X0_seeStuck = true := mOK_of4 rfl (by decide +kernel)
set_option maxRecDepth 1000000 in
theorem ok_X0_noteStuck : mOK msL m_X0_noteStuck = true := mOK_of4 rfl (by decide +kernel)
set_option maxRecDepth 1000000 in
theorem ok_X0_leastInRing : mOK msL m_X0_leastInRing = true := mOK_of4 rfl (by decide +kernel)
set_option maxRecDepth 1000000 in
theorem ok_X1_init : mOK msL m_X1_init = true := mOK_of4 rfl (by decide +kernel)
set_option maxRecDepth 1000000 in
theorem ok_X2_init : mOK msL m_X2_init = true := mOK_of4 rfl (by decide +kernel)
set_option maxRecDepth 1000000 in
theorem ok_X3_init : mOK msL m_X3_init = true := mOK_of4 rfl (by decide +kernel)
set_option maxRecDepth 1000000 in
theorem ok_X3_localSlot : mOK msL m_X3_localSlot = true := mOK_of4 rfl (by decide +kernel)
set_option maxRecDepth 1000000 in
theorem ok_X3_enterFirst : mOK msL m_X3_enterFirst = true := mOK_of4 rfl (by decide +kernel)
set_option maxRecDepth 1000000 in
theorem ok_X3_go : mOK msL m_X3_go = true := mOK_of4 rfl (by decide +kernel)
set_option maxRecDepth 1000000 in
theorem okc_X3_pickSlots_0 : mOK msL (yX3_pickSlots, cX3_pickSlots, 2, none, 0, 0, 3, (970, 968, 969, 103), tb_X3_pickSlots_0) = true := mOK_of4 rfl (by decide +kernel)
set_option maxRecDepth 1000000 in
theorem okc_X3_pickSlots_1 : mOK msL (yX3_pickSlots, cX3_pickSlots, 2, none, 0, 0, 3, (970, 968, 969, 103), tb_X3_pickSlots_1) = true := mOK_of4 rfl (by decide +kernel)
theorem ok_X3_pickSlots : mOK msL m_X3_pickSlots = true := mOK_app okc_X3_pickSlots_0 okc_X3_pickSlots_1
set_option maxRecDepth 1000000 in
theorem ok_X3_pick : mOK msL m_X3_pick = true := mOK_of4 rfl (by decide +kernel)
set_option maxRecDepth 1000000 in
theorem ok_X3_makeEven : mOK msL m_X3_makeEven = true := mOK_of4 rfl (by decide +kernel)
set_option maxRecDepth 1000000 in
theorem ok_X3_pack : mOK msL m_X3_pack = true := mOK_of4 rfl (by decide +kernel)
set_option maxRecDepth 1000000 in
theorem ok_X3_unpack : mOK msL m_X3_unpack = true := mOK_of4 rfl (by decide +kernel)
theorem okL_0 : ∀ M ∈ msL_0, mOK msL M = true := List.forall_mem_cons.mpr ⟨ok_X0_init, List.forall_mem_cons.mpr ⟨ok_X0_clear, List.forall_mem_cons.mpr ⟨ok_X0_see, List.forall_mem_cons.mpr ⟨ok_X0_noteRace, List.forall_mem_cons.mpr ⟨ok_X5_isCell, List.forall_mem_cons.mpr ⟨ok_X0_noteTaking, List.forall_mem_cons.mpr ⟨ok_X5_isCell, List.forall_mem_cons.mpr ⟨ok_X0_seeStuck, List.forall_mem_cons.mpr ⟨ok_X0_noteStuck, List.forall_mem_cons.mpr ⟨ok_X0_leastInRing, List.forall_mem_cons.mpr ⟨ok_X1_init, List.forall_mem_cons.mpr ⟨ok_X5_isCell, List.forall_mem_cons.mpr ⟨ok_X5_isCell, List.forall_mem_cons.mpr ⟨ok_X5_isCell, List.forall_mem_cons.mpr ⟨ok_X5_isCell, List.forall_mem_cons.mpr ⟨ok_X5_isCell, List.forall_mem_cons.mpr ⟨ok_X5_isCell, List.forall_mem_cons.mpr ⟨ok_X5_isCell, List.forall_mem_cons.mpr ⟨ok_X2_init, List.forall_mem_cons.mpr ⟨ok_X5_isCell, List.forall_mem_cons.mpr ⟨ok_X5_isCell, List.forall_mem_cons.mpr ⟨ok_X5_isCell, List.forall_mem_cons.mpr ⟨ok_X5_isCell, List.forall_mem_cons.mpr ⟨ok_X5_isCell, List.forall_mem_cons.mpr ⟨ok_X5_isCell, List.forall_mem_cons.mpr ⟨ok_X5_isCell, List.forall_mem_cons.mpr ⟨ok_X5_isCell, List.forall_mem_cons.mpr ⟨ok_X5_isCell, List.forall_mem_cons.mpr ⟨ok_X5_isCell, List.forall_mem_cons.mpr ⟨ok_X5_isCell, List.forall_mem_cons.mpr ⟨ok_X5_isCell, List.forall_mem_cons.mpr ⟨ok_X3_init, List.forall_mem_cons.mpr ⟨ok_X3_localSlot, List.forall_mem_cons.mpr ⟨ok_X3_enterFirst, List.forall_mem_cons.mpr ⟨ok_X3_go, List.forall_mem_cons.mpr ⟨ok_X3_pickSlots, List.forall_mem_cons.mpr ⟨ok_X3_pick, List.forall_mem_cons.mpr ⟨ok_X3_makeEven, List.forall_mem_cons.mpr ⟨ok_X3_pack, List.forall_mem_cons.mpr ⟨ok_X3_unpack, fun _ h => absurd h List.not_mem_nil⟩⟩⟩⟩⟩⟩⟩⟩⟩⟩⟩⟩⟩⟩⟩⟩⟩⟩⟩⟩⟩⟩⟩⟩⟩⟩⟩⟩⟩⟩⟩⟩⟩⟩⟩⟩⟩⟩⟩⟩
