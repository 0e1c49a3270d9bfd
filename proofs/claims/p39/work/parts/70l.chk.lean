/-! the tables fit: methods 400 to 439 -/
set_option maxRecDepth 1000000 in
theorem ok_J11_isValidCodePoint_9a6ad : mOK msL m_J11_isValidCodePoint_9a6ad = true := mOK_of4 rfl (by decide +kernel)
set_option maxRecDepth 1000000 in
theorem ok_J11_highSurrogate_5068e : mOK msL m_J11_highSurrogate_5068e = true := mOK_of4 rfl (by decide +kernel)
set_option maxRecDepth 1000000 in
theorem ok_J11_lowSurrogate_5068e : mOK msL m_J11_lowSurrogate_5068e = true := mOK_of4 rfl (by decide +kernel)
set_option maxRecDepth 1000000 in
theorem ok_J9_max_7cf53 : mOK msL m_J9_max_7cf53 = true := mOK_of4 rfl (by decide +kernel)
set_option maxRecDepth 1000000 in
theorem ok_J9_min_7cf53 : mOK msL m_J9_min_7cf53 = true := mOK_of4 rfl (by decide +kernel)
set_option maxRecDepth 1000000 in
theorem ok_J0_length_8abf5 : mOK msL m_J0_length_8abf5 = true := mOK_of4 rfl (by decide +kernel)
set_option maxRecDepth 1000000 in
theorem ok_J0_charAt_5068e : mOK msL m_J0_charAt_5068e = true := mOK_of4 rfl (by decide +kernel)
set_option maxRecDepth 1000000 in
theorem ok_J0_indexOf_0f7a4 : mOK msL m_J0_indexOf_0f7a4 = true := mOK_of4 rfl (by decide +kernel)
set_option maxRecDepth 1000000 in
theorem ok_J0_indexOf_7cf53 : mOK msL m_J0_indexOf_7cf53 = true := mOK_of4 rfl (by decide +kernel)
set_option maxRecDepth 1000000 in
theorem ok_J0_coder_7d493 : mOK msL m_J0_coder_7d493 = true := mOK_of4 rfl (by decide +kernel)
set_option maxRecDepth 1000000 in
theorem ok_J0_isLatin1_aae02 : mOK msL m_J0_isLatin1_aae02 = true := mOK_of4 rfl (by decide +kernel)
set_option maxRecDepth 1000000 in
theorem ok_J0_checkIndex_df160 : mOK msL m_J0_checkIndex_df160 = true := mOK_of4 rfl (by decide +kernel)
set_option maxRecDepth 1000000 in
theorem ok_J0_checkBoundsBeginEnd_23922 : mOK msL m_J0_checkBoundsBeginEnd_23922 = true := mOK_of4 rfl (by decide +kernel)
set_option maxRecDepth 1000000 in
theorem ok_J1_charAt_3b067 : mOK msL m_J1_charAt_3b067 = true := mOK_of4 rfl (by decide +kernel)
set_option maxRecDepth 1000000 in
theorem ok_J1_canEncode_9a6ad : mOK msL m_J1_canEncode_9a6ad = true := mOK_of4 rfl (by decide +kernel)
set_option maxRecDepth 1000000 in
theorem ok_J1_indexOf_4cfef : mOK msL m_J1_indexOf_4cfef = true := mOK_of4 rfl (by decide +kernel)
set_option maxRecDepth 1000000 in
theorem ok_J1_indexOfChar_4cfef : mOK msL m_J1_indexOfChar_4cfef = true := mOK_of4 rfl (by decide +kernel)
set_option maxRecDepth 1000000 in
theorem ok_J2_getChar_3b067 : mOK msL m_J2_getChar_3b067 = true := mOK_of4 rfl (by decide +kernel)
set_option maxRecDepth 1000000 in
theorem ok_J2_length_9d52b : mOK msL m_J2_length_9d52b = true := mOK_of4 rfl (by decide +kernel)
set_option maxRecDepth 1000000 in
theorem ok_J2_indexOf_4cfef : mOK msL m_J2_indexOf_4cfef = true := mOK_of4 rfl (by decide +kernel)
set_option maxRecDepth 1000000 in
theorem ok_J2_indexOfChar_4cfef : mOK msL m_J2_indexOfChar_4cfef = true := mOK_of4 rfl (by decide +kernel)
set_option maxRecDepth 1000000 in
theorem ok_J2_indexOfCharUnsafe_4cfef : mOK msL m_J2_indexOfCharUnsafe_4cfef = true := mOK_of4 rfl (by decide +kernel)
set_option maxRecDepth 1000000 in
theorem ok_J2_indexOfSupplementary_4cfef : mOK msL m_J2_indexOfSupplementary_4cfef = true := mOK_of4 rfl (by decide +kernel)
set_option maxRecDepth 1000000 in
theorem ok_J2_charAt_3b067 : mOK msL m_J2_charAt_3b067 = true := mOK_of4 rfl (by decide +kernel)
set_option maxRecDepth 1000000 in
theorem ok_J2_checkIndex_2214a : mOK msL m_J2_checkIndex_2214a = true := mOK_of4 rfl (by decide +kernel)
set_option maxRecDepth 1000000 in
theorem ok_J2_checkBoundsBeginEnd_d044e : mOK msL m_J2_checkBoundsBeginEnd_d044e = true := mOK_of4 rfl (by decide +kernel)
set_option maxRecDepth 1000000 in
theorem ok_J7_fill_d0a16 : mOK msL m_J7_fill_d0a16 = true := mOK_of4 rfl (by decide +kernel)
set_option maxRecDepth 1000000 in
theorem ok_J7_fill_53178 : mOK msL m_J7_fill_53178 = true := mOK_of4 rfl (by decide +kernel)
set_option maxRecDepth 1000000 in
theorem ok_J3_checkIndex_8e157 : mOK msL m_J3_checkIndex_8e157 = true := mOK_of4 rfl (by decide +kernel)
set_option maxRecDepth 1000000 in
theorem ok_J3_checkFromToIndex_8c36e : mOK msL m_J3_checkFromToIndex_8c36e = true := mOK_of4 rfl (by decide +kernel)
set_option maxRecDepth 1000000 in
theorem ok_L_cell : mOK msL m_L_cell = true := mOK_of4 rfl (by decide +kernel)
set_option maxRecDepth 1000000 in
theorem ok_L_say : mOK msL m_L_say = true := mOK_of4 rfl (by decide +kernel)
theorem okL_10 : ∀ M ∈ msL_10, mOK msL M = true := List.forall_mem_cons.mpr ⟨ok_X5_isCell, List.forall_mem_cons.mpr ⟨ok_X5_isCell, List.forall_mem_cons.mpr ⟨ok_X5_isCell, List.forall_mem_cons.mpr ⟨ok_X5_isCell, List.forall_mem_cons.mpr ⟨ok_X5_isCell, List.forall_mem_cons.mpr ⟨ok_X5_isCell, List.forall_mem_cons.mpr ⟨ok_X5_isCell, List.forall_mem_cons.mpr ⟨ok_X5_isCell, List.forall_mem_cons.mpr ⟨ok_J11_isValidCodePoint_9a6ad, List.forall_mem_cons.mpr ⟨ok_J11_highSurrogate_5068e, List.forall_mem_cons.mpr ⟨ok_J11_lowSurrogate_5068e, List.forall_mem_cons.mpr ⟨ok_J9_max_7cf53, List.forall_mem_cons.mpr ⟨ok_J9_min_7cf53, List.forall_mem_cons.mpr ⟨ok_J0_length_8abf5, List.forall_mem_cons.mpr ⟨ok_J0_charAt_5068e, List.forall_mem_cons.mpr ⟨ok_J0_indexOf_0f7a4, List.forall_mem_cons.mpr ⟨ok_J0_indexOf_7cf53, List.forall_mem_cons.mpr ⟨ok_J0_coder_7d493, List.forall_mem_cons.mpr ⟨ok_J0_isLatin1_aae02, List.forall_mem_cons.mpr ⟨ok_J0_checkIndex_df160, List.forall_mem_cons.mpr ⟨ok_J0_checkBoundsBeginEnd_23922, List.forall_mem_cons.mpr ⟨ok_J1_charAt_3b067, List.forall_mem_cons.mpr ⟨ok_J1_canEncode_9a6ad, List.forall_mem_cons.mpr ⟨ok_J1_indexOf_4cfef, List.forall_mem_cons.mpr ⟨ok_J1_indexOfChar_4cfef, List.forall_mem_cons.mpr ⟨ok_J2_getChar_3b067, List.forall_mem_cons.mpr ⟨ok_J2_length_9d52b, List.forall_mem_cons.mpr ⟨ok_J2_indexOf_4cfef, List.forall_mem_cons.mpr ⟨ok_J2_indexOfChar_4cfef, List.forall_mem_cons.mpr ⟨ok_J2_indexOfCharUnsafe_4cfef, List.forall_mem_cons.mpr ⟨ok_J2_indexOfSupplementary_4cfef, List.forall_mem_cons.mpr ⟨ok_J2_charAt_3b067, List.forall_mem_cons.mpr ⟨ok_J2_checkIndex_2214a, List.forall_mem_cons.mpr ⟨ok_J2_checkBoundsBeginEnd_d044e, List.forall_mem_cons.mpr ⟨ok_J7_fill_d0a16, List.forall_mem_cons.mpr ⟨ok_J7_fill_53178, List.forall_mem_cons.mpr ⟨ok_J3_checkIndex_8e157, List.forall_mem_cons.mpr ⟨ok_J3_checkFromToIndex_8c36e, List.forall_mem_cons.mpr ⟨ok_L_cell, List.forall_mem_cons.mpr ⟨ok_L_say, fun _ h => absurd h List.not_mem_nil⟩⟩⟩⟩⟩⟩⟩⟩⟩⟩⟩⟩⟩⟩⟩⟩⟩⟩⟩⟩⟩⟩⟩⟩⟩⟩⟩⟩⟩⟩⟩⟩⟩⟩⟩⟩⟩⟩⟩⟩
