/-! all tables fit -/
theorem msL_ok : ∀ M ∈ msL, mOK msL M = true := List.forall_mem_append.mpr ⟨okL_0, List.forall_mem_append.mpr ⟨okL_1, List.forall_mem_append.mpr ⟨okL_2, List.forall_mem_append.mpr ⟨okL_3, List.forall_mem_append.mpr ⟨okL_4, List.forall_mem_append.mpr ⟨okL_5, List.forall_mem_append.mpr ⟨okL_6, List.forall_mem_append.mpr ⟨okL_7, List.forall_mem_append.mpr ⟨okL_8, List.forall_mem_append.mpr ⟨okL_9, List.forall_mem_append.mpr ⟨okL_10, okL_11⟩⟩⟩⟩⟩⟩⟩⟩⟩⟩⟩
theorem allB {tab : List pI} {cc : ByteArray} {nL : Nat} {own : String} {init : Bool} {ms : List pM} (h : tab.all (fun q => decide (decode cc q.1 = .ok (q.2.1, q.2.2.1)) && (p_ok nL q.1 q.2.1 q.2.2.1 && (lnk own init q.2.1 q.2.2.2 && lnkC ms own q.2.1 q.2.2.2))) = true) : ∀ q ∈ tab, decode cc q.1 = .ok (q.2.1, q.2.2.1) ∧ p_ok nL q.1 q.2.1 q.2.2.1 = true ∧ lnk own init q.2.1 q.2.2.2 = true ∧ lnkC ms own q.2.1 q.2.2.2 = true := by
  intro q hq
  have h1 := List.all_eq_true.mp h q hq
  simp only [Bool.and_eq_true, decide_eq_true_eq] at h1
  exact h1
theorem law_of {c : List pI} (h : (dwalk code code.data.toList 0 c && c.all (fun (q : pI) => (p_ok 18 q.1 q.2.1 q.2.2.1 && (lnkG wd2 "TurnHouseLaw" false q.2.1 q.2.2.2 && lnkCG wd2 msL "TurnHouseLaw" q.2.1 q.2.2.2)))) = true) : c.all (fun (q : pI) => decide (decode code q.1 = .ok (q.2.1, q.2.2.1)) && (p_ok 18 q.1 q.2.1 q.2.2.1 && (lnkG wd2 "TurnHouseLaw" false q.2.1 q.2.2.2 && lnkCG wd2 msL "TurnHouseLaw" q.2.1 q.2.2.2))) = true := by
  obtain ⟨a, b⟩ := (Bool.and_eq_true _ _).mp h
  exact List.all_eq_true.mpr fun q hq => (Bool.and_eq_true _ _).mpr ⟨decide_eq_true (dwalk_ok (p := 0) a q hq), List.all_eq_true.mp b q hq⟩
theorem law_fn : (fun (q : pI) => decide (decode code q.1 = .ok (q.2.1, q.2.2.1)) && (p_ok 18 q.1 q.2.1 q.2.2.1 && (lnk "TurnHouseLaw" false q.2.1 q.2.2.2 && lnkC msL "TurnHouseLaw" q.2.1 q.2.2.2))) = (fun (q : pI) => decide (decode code q.1 = .ok (q.2.1, q.2.2.1)) && (p_ok 18 q.1 q.2.1 q.2.2.1 && (lnkG wd2 "TurnHouseLaw" false q.2.1 q.2.2.2 && lnkCG wd2 msL "TurnHouseLaw" q.2.1 q.2.2.2))) := by
  rw [← wd_wd2, lnkG_wd, lnkCG_wd]
set_option maxRecDepth 1000000 in
theorem law_tab_0 : tb_law_0.all (fun (q : pI) => decide (decode code q.1 = .ok (q.2.1, q.2.2.1)) && (p_ok 18 q.1 q.2.1 q.2.2.1 && (lnk "TurnHouseLaw" false q.2.1 q.2.2.2 && lnkC msL "TurnHouseLaw" q.2.1 q.2.2.2))) = true := by
  rw [law_fn]
  exact law_of (by decide +kernel)
set_option maxRecDepth 1000000 in
theorem law_tab_1 : tb_law_1.all (fun (q : pI) => decide (decode code q.1 = .ok (q.2.1, q.2.2.1)) && (p_ok 18 q.1 q.2.1 q.2.2.1 && (lnk "TurnHouseLaw" false q.2.1 q.2.2.2 && lnkC msL "TurnHouseLaw" q.2.1 q.2.2.2))) = true := by
  rw [law_fn]
  exact law_of (by decide +kernel)
set_option maxRecDepth 1000000 in
theorem law_tab_2 : tb_law_2.all (fun (q : pI) => decide (decode code q.1 = .ok (q.2.1, q.2.2.1)) && (p_ok 18 q.1 q.2.1 q.2.2.1 && (lnk "TurnHouseLaw" false q.2.1 q.2.2.2 && lnkC msL "TurnHouseLaw" q.2.1 q.2.2.2))) = true := by
  rw [law_fn]
  exact law_of (by decide +kernel)
set_option maxRecDepth 1000000 in
theorem law_tab_3 : tb_law_3.all (fun (q : pI) => decide (decode code q.1 = .ok (q.2.1, q.2.2.1)) && (p_ok 18 q.1 q.2.1 q.2.2.1 && (lnk "TurnHouseLaw" false q.2.1 q.2.2.2 && lnkC msL "TurnHouseLaw" q.2.1 q.2.2.2))) = true := by
  rw [law_fn]
  exact law_of (by decide +kernel)
theorem law_tab : tb_law.all (fun (q : pI) => decide (decode code q.1 = .ok (q.2.1, q.2.2.1)) && (p_ok 18 q.1 q.2.1 q.2.2.1 && (lnk "TurnHouseLaw" false q.2.1 q.2.2.2 && lnkC msL "TurnHouseLaw" q.2.1 q.2.2.2))) = true := by
  unfold tb_law
  simp only [List.all_append, law_tab_0, law_tab_1, law_tab_2, law_tab_3, Bool.and_self]
