/-! the tables fit: methods 440 to 443 -/
set_option maxRecDepth 1000000 in
theorem okc_L_statement_0 : mOK msL (yL_statement, cL_statement, 3, (some .int), 2, 1, 99, (1245, 1244, 0, 92), tb_L_statement_0) = true := mOK_of4 rfl (by decide +kernel)
set_option maxRecDepth 1000000 in
theorem okc_L_statement_1 : mOK msL (yL_statement, cL_statement, 3, (some .int), 2, 1, 99, (1245, 1244, 0, 92), tb_L_statement_1) = true := mOK_of4 rfl (by decide +kernel)
theorem ok_L_statement : mOK msL m_L_statement = true := mOK_app okc_L_statement_0 okc_L_statement_1
set_option maxRecDepth 1000000 in
theorem ok_L_tell : mOK msL m_L_tell = true := mOK_of4 rfl (by decide +kernel)
set_option maxRecDepth 1000000 in
theorem ok_L_isIn : mOK msL m_L_isIn = true := mOK_of4 rfl (by decide +kernel)
set_option maxRecDepth 1000000 in
theorem ok_L_sum : mOK msL m_L_sum = true := mOK_of4 rfl (by decide +kernel)
theorem okL_11 : ∀ M ∈ msL_11, mOK msL M = true := List.forall_mem_cons.mpr ⟨ok_L_statement, List.forall_mem_cons.mpr ⟨ok_L_tell, List.forall_mem_cons.mpr ⟨ok_L_isIn, List.forall_mem_cons.mpr ⟨ok_L_sum, fun _ h => absurd h List.not_mem_nil⟩⟩⟩⟩
