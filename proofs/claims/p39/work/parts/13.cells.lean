/-! THE SYSTEM'S CELLS behind the constructors: what never changes of them (classes, lengths, references), and what does (qS). -/
abbrev qS : Type := (Nat → Nat → Int32) × (Nat → Nat → Int64) × (Nat → Nat → Nat)
def lcL : List Nat := [11, 9, 23, 21, 20, 20, 21, 4, 20, 20, 20, 5, 21, 21, 20, 20, 20, 24, 20, 20, 20, 20, 20, 20, 20, 20, 20, 20, 20, 20, 20, 20, 20, 20, 20, 20, 5, 21, 21, 20, 20, 20, 24, 20, 20, 20, 20, 20, 20, 20, 20, 20, 20, 20, 20, 20, 20, 20, 20, 20, 20, 4, 20, 20, 20, 6, 21, 21, 20, 20, 10, 3, 20, 20, 20, 20, 0, 20, 20, 20, 20, 20, 20, 7, 21, 20, 20, 7, 20, 20, 20, 20, 20, 20, 21, 20, 20, 20, 20, 7, 21, 20, 20, 2, 20, 20, 20, 20, 20, 20, 20, 8, 3, 20, 20, 20, 20, 24, 20, 20, 20, 20, 20, 20, 21, 1, 24, 20, 20, 20, 20, 20, 20, 24, 20, 20, 20, 20, 20, 20, 20, 20, 20, 20, 20, 20, 20, 20, 20, 20, 20]
def lnL : List Nat := [0, 0, 4000, 33, 4001, 4001, 4001, 0, 500, 500, 502, 0, 16, 24, 4, 8, 4, 18, 100, 100, 100, 100, 100, 100, 100, 100, 100, 100, 100, 100, 100, 100, 100, 100, 100, 100, 0, 16, 24, 4, 8, 4, 18, 100, 100, 100, 100, 100, 100, 100, 100, 100, 100, 100, 100, 100, 100, 100, 100, 100, 100, 0, 400, 400, 402, 0, 7, 100, 100, 4, 0, 0, 236, 236, 40, 220, 0, 10000, 8, 4, 5, 4, 4, 0, 740000, 20000, 32768, 0, 20000, 32768, 200000, 20000, 20001, 20000, 110, 4, 80000, 80000, 80000, 0, 68000, 4000, 8192, 0, 20000, 20000, 20000, 20000, 20000, 20000, 20000, 0, 0, 236, 236, 40, 220, 6, 200, 200, 200, 200, 200, 200, 800, 0, 6, 200, 200, 200, 200, 200, 200, 13, 13, 13, 13, 13, 13, 13, 13, 13, 13, 13, 13, 13, 13, 13, 4, 12, 12]
def lrL : List (List Nat) := [[1, 11, 36, 65, 70, 99, 103, 111, 125], [2, 3, 4, 5, 6], [], [], [], [], [], [8, 9, 10], [], [], [], [7, 12, 13, 14, 15, 16, 17], [], [], [], [], [], [18], [], [], [], [], [], [], [], [], [], [], [], [], [], [], [], [], [], [], [7, 37, 38, 39, 40, 41, 42], [], [], [], [], [], [43], [], [], [], [], [], [], [], [], [], [], [], [], [], [], [], [], [], [], [62, 63, 64], [], [], [], [1, 11, 61, 66, 67, 68, 69], [], [], [], [], [71, 76, 83, 87, 90, 91, 92, 93, 94, 95, 96, 97, 98], [72, 73, 74, 0, 75], [], [], [], [], [77, 78, 79, 80, 81, 82], [], [], [], [], [], [], [84, 85, 86], [], [], [], [84, 88, 89], [], [], [], [], [], [], [], [], [], [], [], [100, 101, 102], [], [], [], [70, 61, 104, 105, 106, 107, 108, 109, 110], [], [], [], [], [], [], [], [112, 117, 124], [113, 114, 115, 0, 116], [], [], [], [], [118], [], [], [], [], [], [], [], [126, 133, 147, 148, 149, 150], [127], [], [], [], [], [], [], [134], [], [], [], [], [], [], [], [], [], [], [], [], [], [], [], [], []]
def fkL : List (List Nat) := [[2, 2, 2, 2, 2, 2, 0], [2, 2, 2, 2, 2, 2, 0, 0, 0, 0, 0], [2, 2, 2, 2, 2, 2, 2, 2, 2, 0, 0, 0, 0, 0], [2, 2, 2, 0, 2, 0, 0, 3, 0, 0, 0, 0, 0], [2, 2, 2, 0, 0], [2, 2, 2, 2, 2, 2, 2, 0, 0, 0, 0, 0, 0, 0], [2, 2, 2, 2, 2, 2, 2, 3, 0, 0, 0, 0, 0, 0, 0], [2, 2, 2, 0, 0, 0], [2, 2, 2, 0, 0], [2, 2, 2, 2, 2, 0, 0, 0, 0, 0, 0, 1], [2, 2, 2, 2, 2, 2, 2, 2, 2, 2, 2, 2, 2, 0, 0, 0, 0, 0, 0, 0], [2, 2, 2, 2, 2, 2, 2, 2, 2, 0, 0, 0, 0, 0, 0]]
def cnL : List Nat := [7, 11, 14, 13, 5, 14, 15, 6, 5, 12, 20, 15]
/-- the class of the object at a cell, or 20 and the number of its array's type -/
def lc (a : Nat) : Nat := lcL.getD a 99
/-- how long the array at a cell is -/
def ln (a : Nat) : Nat := lnL.getD a 0
/-- the reference in a field that never changes, the first of the rows of an array of arrays -/
def lr (a k : Nat) : Nat := (lrL.getD a []).getD k 0
/-- fields by kinds: 0 an int, 1 a long, 2 a reference that never changes, 3 one that does -/
def fk (ci k : Nat) : Nat := (fkL.getD ci []).getD k 9
def cn (ci : Nat) : Nat := cnL.getD ci 0
def qNC : Nat := 151
def qNS : Nat := 1603647
variable {hX : pH}
theorem lc_lt {a : Nat} (h : lc a < 99) : a < qNC := by
  rcases Nat.lt_or_ge a qNC with q | q
  · exact q
  · exfalso
    have : lc a = 99 := by
      unfold lc
      rw [List.getD_eq_getElem?_getD, List.getElem?_eq_none (by rw [show lcL.length = qNC by decide +kernel]; exact q)]
      rfl
    omega
theorem lc_ltX {hX : pH} {a : Nat} (h : lc a < 99) : a < qNC + hX.1 := Nat.lt_of_lt_of_le (lc_lt h) (Nat.le_add_right _ _)
def qfv (σ : qS) (a k : Nat) : Value := match fk (lc a) k with
  | 0 => .int (σ.1 a k)
  | 1 => .long (σ.2.1 a k)
  | 2 => .ref (lr a k)
  | _ => if σ.2.2 a k = 0 then .null else .ref (σ.2.2 a k - 1)
def qarr (σ : qS) (a : Nat) : (Nat → Int32) ⊕ (Nat → Int64) ⊕ (Nat → UInt32) ⊕ (Nat → UInt64) ⊕ (Nat → Option Nat) := match lc a with
  | 21 => .inr (.inl (σ.2.1 a))
  | 24 => .inr (.inr (.inr (.inr (fun j => if j < ln a then some (lr a 0 + j) else none))))
  | _ => .inl (σ.1 a)
/-- hX: how many cells and slots there are beside the system's own, and what stands there -/
def qcell (hX : pH) (σ : qS) (a : Nat) : pE := if a < qNC then (if lc a < 13 then .inr (lc a, (List.range (cn (lc a))).map (qfv σ a)) else .inl (lc a - 20, ln a, qarr σ a)) else hX.2.2 a
/-- the cells of the small machine -/
def heapOf (hX : pH) (σ : qS) : pH := (qNC + hX.1, qNS + hX.2.1, qcell hX σ)
def uI (σ : qS) (a k : Nat) (v : Int32) : qS := (fun a' k' => if a' = a ∧ k' = k then v else σ.1 a' k', σ.2.1, σ.2.2)
def uJ (σ : qS) (a k : Nat) (v : Int64) : qS := (σ.1, fun a' k' => if a' = a ∧ k' = k then v else σ.2.1 a' k', σ.2.2)
def uR (σ : qS) (a k : Nat) (v : Nat) : qS := (σ.1, σ.2.1, fun a' k' => if a' = a ∧ k' = k then v else σ.2.2 a' k')
/-- a whole row of ints, of longs -/
def uIr (σ : qS) (a : Nat) (f : Nat → Int32) : qS := (fun a' k' => if a' = a then f k' else σ.1 a' k', σ.2.1, σ.2.2)
def uJr (σ : qS) (a : Nat) (f : Nat → Int64) : qS := (σ.1, fun a' k' => if a' = a then f k' else σ.2.1 a' k', σ.2.2)
theorem qcell_eq {σ τ : qS} {a : Nat} (h1 : σ.1 a = τ.1 a) (h2 : σ.2.1 a = τ.2.1 a) (h3 : σ.2.2 a = τ.2.2 a) : qcell hX σ a = qcell hX τ a := by
  have e1 : qfv σ a = qfv τ a := by
    funext k
    unfold qfv
    rw [h1, h2, h3]
  have e2 : qarr σ a = qarr τ a := by
    unfold qarr
    rw [h1, h2]
  unfold qcell
  rw [e1, e2]
theorem uI_ne {σ : qS} {a k b : Nat} {v : Int32} (h : b ≠ a) : (uI σ a k v).1 b = σ.1 b := by
  funext j
  exact if_neg (fun q => h q.1)
theorem uJ_ne {σ : qS} {a k b : Nat} {v : Int64} (h : b ≠ a) : (uJ σ a k v).2.1 b = σ.2.1 b := by
  funext j
  exact if_neg (fun q => h q.1)
theorem uR_ne {σ : qS} {a k b : Nat} {v : Nat} (h : b ≠ a) : (uR σ a k v).2.2 b = σ.2.2 b := by
  funext j
  exact if_neg (fun q => h q.1)
theorem uIr_ne {σ : qS} {a b : Nat} {f : Nat → Int32} (h : b ≠ a) : (uIr σ a f).1 b = σ.1 b := by
  funext j
  exact if_neg h
theorem uJr_ne {σ : qS} {a b : Nat} {f : Nat → Int64} (h : b ≠ a) : (uJr σ a f).2.1 b = σ.2.1 b := by
  funext j
  exact if_neg h
theorem uI_row {σ : qS} {a k : Nat} {v : Int32} : (uI σ a k v).1 a = upd (σ.1 a) k v := by
  funext j
  show (if a = a ∧ j = k then v else σ.1 a j) = if j = k then v else σ.1 a j
  by_cases h : j = k
  · rw [if_pos ⟨rfl, h⟩, if_pos h]
  · rw [if_neg (fun q => h q.2), if_neg h]
theorem uJ_row {σ : qS} {a k : Nat} {v : Int64} : (uJ σ a k v).2.1 a = vp_updL (σ.2.1 a) k v := by
  funext j
  show (if a = a ∧ j = k then v else σ.2.1 a j) = if j = k then v else σ.2.1 a j
  by_cases h : j = k
  · rw [if_pos ⟨rfl, h⟩, if_pos h]
  · rw [if_neg (fun q => h q.2), if_neg h]
theorem uIr_row {σ : qS} {a : Nat} {f : Nat → Int32} : (uIr σ a f).1 a = f := by
  funext j
  exact if_pos rfl
theorem uJr_row {σ : qS} {a : Nat} {f : Nat → Int64} : (uJr σ a f).2.1 a = f := by
  funext j
  exact if_pos rfl
theorem heap_set {σ τ : qS} {a : Nat} {e : pE} (h1 : ∀ b : Nat, b ≠ a → qcell hX τ b = qcell hX σ b) (h2 : qcell hX τ a = e) : heapOf hX τ = ((heapOf hX σ).1, (heapOf hX σ).2.1, p_up (heapOf hX σ).2.2 a e) := by
  show (qNC + hX.1, qNS + hX.2.1, qcell hX τ) = (qNC + hX.1, qNS + hX.2.1, p_up (qcell hX σ) a e)
  congr 2
  funext b
  unfold p_up
  by_cases h : b = a
  · rw [if_pos h, h, h2]
  · rw [if_neg h, h1 b h]
theorem uI_heap {σ : qS} {a k : Nat} {v : Int32} {e : pE} (h2 : qcell hX (uI σ a k v) a = e) : heapOf hX (uI σ a k v) = ((heapOf hX σ).1, (heapOf hX σ).2.1, p_up (heapOf hX σ).2.2 a e) := heap_set (fun b hb => qcell_eq (uI_ne hb) rfl rfl) h2
theorem uJ_heap {σ : qS} {a k : Nat} {v : Int64} {e : pE} (h2 : qcell hX (uJ σ a k v) a = e) : heapOf hX (uJ σ a k v) = ((heapOf hX σ).1, (heapOf hX σ).2.1, p_up (heapOf hX σ).2.2 a e) := heap_set (fun b hb => qcell_eq rfl (uJ_ne hb) rfl) h2
theorem uR_heap {σ : qS} {a k : Nat} {v : Nat} {e : pE} (h2 : qcell hX (uR σ a k v) a = e) : heapOf hX (uR σ a k v) = ((heapOf hX σ).1, (heapOf hX σ).2.1, p_up (heapOf hX σ).2.2 a e) := heap_set (fun b hb => qcell_eq rfl rfl (uR_ne hb)) h2
theorem uIr_heap {σ : qS} {a : Nat} {f : Nat → Int32} {e : pE} (h2 : qcell hX (uIr σ a f) a = e) : heapOf hX (uIr σ a f) = ((heapOf hX σ).1, (heapOf hX σ).2.1, p_up (heapOf hX σ).2.2 a e) := heap_set (fun b hb => qcell_eq (uIr_ne hb) rfl rfl) h2
theorem uJr_heap {σ : qS} {a : Nat} {f : Nat → Int64} {e : pE} (h2 : qcell hX (uJr σ a f) a = e) : heapOf hX (uJr σ a f) = ((heapOf hX σ).1, (heapOf hX σ).2.1, p_up (heapOf hX σ).2.2 a e) := heap_set (fun b hb => qcell_eq rfl (uJr_ne hb) rfl) h2
/-- an object's fields with one of them anew -/
theorem qfields_set {g g' : Nat → Value} {n k : Nat} {v : Value} (hk : g' k = v) (h : ∀ j : Nat, j ≠ k → g' j = g j) : (List.range n).map g' = ((List.range n).map g).set k v := by
  apply List.ext_getElem?
  intro j
  rw [List.getElem?_set, List.getElem?_map, List.getElem?_map, List.length_map, List.length_range]
  by_cases hj : k = j
  · subst hj
    rw [if_pos rfl]
    by_cases hn : k < n
    · rw [if_pos hn, List.getElem?_range hn]
      show some (g' k) = some v
      rw [hk]
    · rw [if_neg hn, List.getElem?_eq_none (by rw [List.length_range]; omega)]
      rfl
  · rw [if_neg hj]
    by_cases hn : j < n
    · rw [List.getElem?_range hn]
      show some (g' j) = some (g j)
      rw [h j (fun q => hj q.symm)]
    · rw [List.getElem?_eq_none (by rw [List.length_range]; omega)]
      rfl
/-- a field anew -/
def qput (σ : qS) (a k : Nat) (v : Value) : Option qS := match fk (lc a) k, v with
  | 0, .int z => some (uI σ a k z)
  | 1, .long z => some (uJ σ a k z)
  | 3, .ref q => some (uR σ a k (q + 1))
  | _, _ => none
theorem qput_spec {σ τ : qS} {a k : Nat} {v : Value} (hc : lc a < 13) (h : qput σ a k v = some τ) : heapOf hX τ = ((heapOf hX σ).1, (heapOf hX σ).2.1, p_up (heapOf hX σ).2.2 a (.inr (lc a, ((List.range (cn (lc a))).map (qfv σ a)).set k v))) := by
  have key : ∀ (ρ : qS), qfv ρ a k = v → (∀ j : Nat, j ≠ k → qfv ρ a j = qfv σ a j) → qcell hX ρ a = .inr (lc a, ((List.range (cn (lc a))).map (qfv σ a)).set k v) := by
    intro ρ h1 h2
    unfold qcell
    rw [if_pos (lc_lt (by omega)), if_pos hc, qfields_set h1 h2]
  unfold qput at h
  split at h
  · rename_i z hf
    cases h
    refine uI_heap (key _ ?_ ?_)
    · unfold qfv
      rw [hf]
      show Value.int ((uI σ a k z).1 a k) = _
      rw [uI_row]
      simp [upd]
    · intro j hj
      unfold qfv
      have e1 : (uI σ a k z).1 a j = σ.1 a j := by rw [uI_row]; simp [upd, hj]
      rw [e1]
      rfl
  · rename_i z hf
    cases h
    refine uJ_heap (key _ ?_ ?_)
    · unfold qfv
      rw [hf]
      show Value.long ((uJ σ a k z).2.1 a k) = _
      rw [uJ_row]
      simp [vp_updL]
    · intro j hj
      unfold qfv
      have e1 : (uJ σ a k z).2.1 a j = σ.2.1 a j := by rw [uJ_row]; simp [vp_updL, hj]
      rw [e1]
      rfl
  · rename_i z hf
    cases h
    refine uR_heap (key _ ?_ ?_)
    · unfold qfv
      rw [hf]
      show (if (uR σ a k (z + 1)).2.2 a k = 0 then Value.null else .ref ((uR σ a k (z + 1)).2.2 a k - 1)) = _
      have e1 : (uR σ a k (z + 1)).2.2 a k = z + 1 := if_pos ⟨rfl, rfl⟩
      rw [e1]
      rfl
    · intro j hj
      unfold qfv
      have e1 : (uR σ a k (z + 1)).2.2 a j = σ.2.2 a j := if_neg (fun q => hj q.2)
      rw [e1]
      rfl
  · cases h
/-- arrays' cells -/
theorem qcell_arr {σ : qS} {a : Nat} (h : 13 ≤ lc a) (h9 : lc a < 99) : qcell hX σ a = .inl (lc a - 20, ln a, qarr σ a) := by
  unfold qcell
  rw [if_pos (lc_lt h9), if_neg (Nat.not_lt.mpr h)]
theorem qcell_int {σ : qS} {a t : Nat} (h : lc a = 20 + t) (h1 : t ≠ 1) (h4 : t ≠ 4) (h9 : t < 79 := by decide) : qcell hX σ a = .inl (t, ln a, .inl (σ.1 a)) := by
  rw [qcell_arr (by omega) (by omega)]
  unfold qarr
  rw [h]
  rw [show 20 + t - 20 = t by omega]
  split
  · omega
  · omega
  · rfl
theorem qcell_long {σ : qS} {a : Nat} (h : lc a = 21) : qcell hX σ a = .inl (1, ln a, .inr (.inl (σ.2.1 a))) := by
  rw [qcell_arr (by omega) (by omega)]
  unfold qarr
  rw [h]
  rfl
theorem qcell_ref {σ : qS} {a : Nat} (h : lc a = 24) : qcell hX σ a = .inl (4, ln a, .inr (.inr (.inr (.inr (fun j => if j < ln a then some (lr a 0 + j) else none))))) := by
  rw [qcell_arr (by omega) (by omega)]
  unfold qarr
  rw [h]
  rfl
theorem qcell_obj {σ : qS} {a : Nat} (h : lc a < 13) : qcell hX σ a = .inr (lc a, (List.range (cn (lc a))).map (qfv σ a)) := by
  unfold qcell
  rw [if_pos (lc_lt (by omega)), if_pos h]
/-- instructions that read or write cells -/
def qstepH (en : pN) (pc : Nat) (i : Instr) (x : pX) (ls : List (Nat × Value)) (st : List Value) (σ : qS) : Option (pF × qS) := match i with
  | .getfield _ => match st with
    | .ref a :: r => if x.1 = (lc a : Int) ∧ (lc a < 13 ∧ x.2.1 < cn (lc a)) then some ((pc + 3, ls, qfv σ a x.2.1 :: r), σ) else none
    | .retAddr q :: r => if (1 ≤ q ∧ q ≤ 3) ∧ x.1 = -1 then (if x.2.1 = 0 then some ((pc + 3, ls, .int 0 :: r), σ) else some ((pc + 3, ls, .retAddr (q + 3) :: r), σ)) else none
    | _ => none
  | .putfield _ => match st with
    | v :: .ref a :: r => if (x.1 = (lc a : Int) ∧ (lc a < 13 ∧ x.2.1 < cn (lc a))) ∧ p_fit (clTy (lc a) x.2.1) v = true then (match qput σ a x.2.1 v with
      | some τ => some ((pc + 3, ls, r), τ)
      | none => none) else none
    | _ => none
  | .getstatic _ => match stL[x.2.1]? with
    | some q => some ((pc + 3, ls, q.2.2.2 :: st), σ)
    | none => none
  | .iaload => match st with
    | .int i :: .ref a :: r => if lc a = 20 ∧ p_inB i (ln a) = true then some ((pc + 1, ls, .int (σ.1 a i.toNatClampNeg) :: r), σ) else none
    | .int i :: .retAddr q :: r => match oArr en q with
      | some (0, n, f) => if p_inB i n = true then some ((pc + 1, ls, .int (f i.toNatClampNeg) :: r), σ) else none
      | _ => none
    | _ => none
  | .laload => match st with
    | .int i :: .ref a :: r => if lc a = 21 ∧ p_inB i (ln a) = true then some ((pc + 1, ls, .long (σ.2.1 a i.toNatClampNeg) :: r), σ) else none
    | _ => none
  | .baload => match st with
    | .int i :: .ref a :: r => if (False ∨ lc a = 23) ∧ p_inB i (ln a) = true then some ((pc + 1, ls, .int (σ.1 a i.toNatClampNeg) :: r), σ) else none
    | .int i :: .retAddr q :: r => match oArr en q with
      | some (3, n, f) => if p_inB i n = true then some ((pc + 1, ls, .int (f i.toNatClampNeg) :: r), σ) else none
      | _ => none
    | _ => none
  | .aaload => match st with
    | .int i :: .ref a :: r => if lc a = 24 ∧ p_inB i (ln a) = true then some ((pc + 1, ls, .ref (lr a 0 + i.toNatClampNeg) :: r), σ) else none
    | _ => none
  | .arraylength => match st with
    | .ref a :: r => if 20 ≤ lc a ∧ lc a < 25 then some ((pc + 1, ls, .int (Int32.ofNat (ln a)) :: r), σ) else none
    | .retAddr q :: r => match oArr en q with
      | some (_, n, _) => some ((pc + 1, ls, .int (Int32.ofNat n) :: r), σ)
      | none => none
    | _ => none
  | .iastore => match st with
    | .int v :: .int i :: .ref a :: r => if lc a = 20 ∧ p_inB i (ln a) = true then some ((pc + 1, ls, r), uI σ a i.toNatClampNeg v) else none
    | _ => none
  | .lastore => match st with
    | .long v :: .int i :: .ref a :: r => if lc a = 21 ∧ p_inB i (ln a) = true then some ((pc + 1, ls, r), uJ σ a i.toNatClampNeg v) else none
    | _ => none
  | .bastore => match st with
    | .int v :: .int i :: .ref a :: r => if lc a = 23 ∧ p_inB i (ln a) = true then some ((pc + 1, ls, r), uI σ a i.toNatClampNeg (vp_nar .byte v)) else none
    | _ => none
  | .ldc _ => if x.2.1 = 0 then some ((pc + 2, ls, .int (Int32.ofInt x.1) :: st), σ) else some ((pc + 2, ls, .retAddr x.2.1 :: st), σ)
  | .ldc_w _ => some ((pc + 3, ls, .int (Int32.ofInt x.1) :: st), σ)
  | .ldc2_w _ => some ((pc + 3, ls, .long (Int64.ofInt x.1) :: st), σ)
  | _ => none
theorem q_fields {σ : qS} {a k : Nat} (h : k < cn (lc a)) : ((List.range (cn (lc a))).map (qfv σ a))[k]? = some (qfv σ a k) := by
  rw [List.getElem?_map, List.getElem?_range h]
  rfl
theorem qH {en : pN} {pc : Nat} {i : Instr} {x : pX} {ls : List (Nat × Value)} {st : List Value} {σ τ : qS} {f' : pF} (hs : qstepH en pc i x ls st σ = some (f', τ)) : pstepH en pc i x ls st (heapOf hX σ) = some (f', heapOf hX τ) := by
  have hh : ∀ a : Nat, (heapOf hX σ).2.2 a = qcell hX σ a := fun _ => rfl
  have hn : (heapOf hX σ).1 = qNC + hX.1 := rfl
  cases i
  case getfield idx =>
    simp only [qstepH] at hs
    split at hs
    · rename_i a r
      split at hs
      · rename_i hg
        cases hs
        simp only [pstepH, hh, qcell_obj hg.2.1, hn]
        rw [if_pos ⟨lc_ltX (by omega), hg.1⟩, q_fields hg.2.2]
      · cases hs
    · rename_i q r
      split at hs
      · rename_i hg
        simp only [pstepH]
        rw [if_pos hg]
        split at hs
        · rename_i h0
          cases hs
          rw [if_pos h0]
        · rename_i h0
          cases hs
          rw [if_neg h0]
      · cases hs
    · cases hs
  case putfield idx =>
    simp only [qstepH] at hs
    split at hs
    · rename_i v a r
      split at hs
      · rename_i hg
        split at hs
        · rename_i τ' hp
          cases hs
          have e1 := qput_spec (hX := hX) hg.1.2.1 hp
          simp only [pstepH, hh, qcell_obj hg.1.2.1, hn]
          rw [if_pos ⟨⟨lc_ltX (by omega), hg.1.1⟩, by rw [List.length_map, List.length_range]; exact hg.1.2.2, hg.2⟩, e1]
          rfl
        · cases hs
      · cases hs
    · cases hs
  case getstatic idx =>
    simp only [qstepH] at hs
    simp only [pstepH]
    split at hs
    · rename_i q hq
      cases hs
      rw [hq]
    · cases hs
  case iaload =>
    simp only [qstepH] at hs
    split at hs
    · rename_i i a r
      split at hs
      · rename_i hg
        cases hs
        simp only [pstepH, hh, qcell_int (t := 0) hg.1 (by decide) (by decide), hn]
        rw [if_pos ⟨lc_ltX (by omega), hg.2⟩]
      · cases hs
    · rename_i i q r
      split at hs
      · rename_i n f hq
        split at hs
        · rename_i hg
          cases hs
          simp only [pstepH, hq]
          rw [if_pos hg]
        · cases hs
      · cases hs
    · cases hs
  case laload =>
    simp only [qstepH] at hs
    split at hs
    · rename_i i a r
      split at hs
      · rename_i hg
        cases hs
        simp only [pstepH, hh, qcell_long hg.1, hn]
        rw [if_pos ⟨lc_ltX (by omega), hg.2⟩]
      · cases hs
    · cases hs
  case baload =>
    simp only [qstepH] at hs
    split at hs
    · rename_i i a r
      split at hs
      · rename_i hg
        cases hs
        rcases hg with ⟨hg | hg, hi⟩
        · exact hg.elim
        · simp only [pstepH, hh, qcell_int (t := 3) hg (by decide) (by decide), hn]
          rw [if_pos ⟨lc_ltX (by omega), hi⟩]
      · cases hs
    · rename_i i q r
      split at hs
      · rename_i n f hq
        split at hs
        · rename_i hg
          cases hs
          simp only [pstepH, hq]
          rw [if_pos hg]
        · cases hs
      · cases hs
    · cases hs
  case aaload =>
    simp only [qstepH] at hs
    split at hs
    · rename_i i a r
      split at hs
      · rename_i hg
        cases hs
        have hlt : i.toNatClampNeg < ln a := Nat.not_le.mp fun z => (p_inB_spec hg.2) (Or.inr z)
        simp only [pstepH, hh, qcell_ref hg.1, hn, if_pos hlt]
        rw [if_pos ⟨lc_ltX (by omega), hg.2⟩]
      · cases hs
    · cases hs
  case arraylength =>
    simp only [qstepH] at hs
    split at hs
    · rename_i a r
      split at hs
      · rename_i hg
        cases hs
        simp only [pstepH, hh, qcell_arr (a := a) (σ := σ) (hX := hX) (by omega) (by omega), hn]
        rw [if_pos ⟨lc_ltX (by omega), by omega⟩]
      · cases hs
    · rename_i q r
      split at hs
      · rename_i t n f hq
        cases hs
        simp only [pstepH, hq]
      · cases hs
    · cases hs
  case iastore =>
    simp only [qstepH] at hs
    split at hs
    · rename_i v i a r
      split at hs
      · rename_i hg
        cases hs
        have e1 : heapOf hX (uI σ a i.toNatClampNeg v) = _ := uI_heap (e := .inl (0, ln a, .inl (upd (σ.1 a) i.toNatClampNeg v))) (by rw [qcell_int (t := 0) hg.1 (by decide) (by decide), uI_row])
        simp only [pstepH, hh, qcell_int (t := 0) (σ := σ) hg.1 (by decide) (by decide), hn]
        rw [if_pos ⟨lc_ltX (by omega), hg.2⟩, e1]
        rfl
      · cases hs
    · cases hs
  case lastore =>
    simp only [qstepH] at hs
    split at hs
    · rename_i v i a r
      split at hs
      · rename_i hg
        cases hs
        have e1 : heapOf hX (uJ σ a i.toNatClampNeg v) = _ := uJ_heap (e := .inl (1, ln a, .inr (.inl (vp_updL (σ.2.1 a) i.toNatClampNeg v)))) (by rw [qcell_long hg.1, uJ_row])
        simp only [pstepH, hh, qcell_long (σ := σ) hg.1, hn]
        rw [if_pos ⟨lc_ltX (by omega), hg.2⟩, e1]
        rfl
      · cases hs
    · cases hs
  case bastore =>
    simp only [qstepH] at hs
    split at hs
    · rename_i v i a r
      split at hs
      · rename_i hg
        cases hs
        have e1 : heapOf hX (uI σ a i.toNatClampNeg (vp_nar .byte v)) = _ := uI_heap (e := .inl (3, ln a, .inl (upd (σ.1 a) i.toNatClampNeg (vp_nar .byte v)))) (by rw [qcell_int (t := 3) hg.1 (by decide) (by decide), uI_row])
        simp only [pstepH, hh, qcell_int (t := 3) (σ := σ) hg.1 (by decide) (by decide), hn]
        rw [if_pos ⟨lc_ltX (by omega), hg.2⟩, e1]
        rfl
      · cases hs
    · cases hs
  case ldc idx =>
    simp only [qstepH] at hs
    simp only [pstepH]
    split at hs
    · rename_i h0
      cases hs
      rw [if_pos h0]
    · rename_i h0
      cases hs
      rw [if_neg h0]
  case ldc_w idx =>
    simp only [qstepH] at hs
    cases hs
    rfl
  case ldc2_w idx =>
    simp only [qstepH] at hs
    cases hs
    rfl
  all_goals (simp [qstepH] at hs)

