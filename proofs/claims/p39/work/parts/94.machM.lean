/-! THE MODEL'S MACHINE: its picture. F the fields, s the state's row, y why threads went wrong, g the pile, D the word of a call. -/
section MMr
variable {σ : qS} {a k : Nat} {F s y g : fI} {v : Int32} {D E : Int64}
end MMr
/-- the model's row of a state -/
def wid (w : Nat) : Nat := if w = 0 then 52 else if w = 1 then 80 else 213
def sm (w : Nat) (N : fI) (i : Nat) : Int32 :=
  if i < 4 then N i else if i < 8 then N i + 1 else if i < 12 then (if N (i - 8) = 5 then N i else N (i + 4))
  else if i < 36 then N (i + 4) else if i < 40 then N (i + 4) + 1 else if i < 52 then N (i + 4)
  else if w = 1 then (if i < 56 then N (i + 4) else if i < 68 then N (i + 4) &&& (7 : Int32) else N (i - 8) >>> ((3 : Int32) &&& 31))
  else N (i + 20)
section MRr
variable {w i j t l c k : Nat} {N s M : fI} {v x : Int32}
theorem wid_1 : wid 1 = 80 := rfl
/-! writing -/
abbrev dep (w i a : Nat) : Prop := (i < 12 ∧ a = i) ∨ (8 ≤ i ∧ i < 12 ∧ (a = i - 8 ∨ a = i + 4)) ∨ (12 ≤ i ∧ i < 52 ∧ a = i + 4) ∨ (52 ≤ i ∧ w = 1 ∧ (i < 68 ∧ a = i + 4 ∨ 68 ≤ i ∧ a = i - 8)) ∨ (52 ≤ i ∧ w ≠ 1 ∧ a = i + 20)
theorem sm_congr (h : ∀ a, dep w i a → M a = N a) : sm w M i = sm w N i := by
  unfold sm
  by_cases h1 : i < 4
  · rw [if_pos h1, if_pos h1]; exact h _ (by omega)
  rw [if_neg h1, if_neg h1]
  by_cases h2 : i < 8
  · rw [if_pos h2, if_pos h2, h i (by omega)]
  rw [if_neg h2, if_neg h2]
  by_cases h3 : i < 12
  · rw [if_pos h3, if_pos h3, h i (by omega), h (i - 8) (by omega), h (i + 4) (by omega)]
  rw [if_neg h3, if_neg h3]
  by_cases h4 : i < 36
  · rw [if_pos h4, if_pos h4]; exact h _ (by omega)
  rw [if_neg h4, if_neg h4]
  by_cases h5 : i < 40
  · rw [if_pos h5, if_pos h5, h _ (by omega)]
  rw [if_neg h5, if_neg h5]
  by_cases h6 : i < 52
  · rw [if_pos h6, if_pos h6]; exact h _ (by omega)
  rw [if_neg h6, if_neg h6]
  by_cases h7 : w = 1
  · rw [if_pos h7, if_pos h7]
    by_cases h8 : i < 56
    · rw [if_pos h8, if_pos h8]; exact h _ (by omega)
    rw [if_neg h8, if_neg h8]
    by_cases h9 : i < 68
    · rw [if_pos h9, if_pos h9, h _ (by omega)]
    rw [if_neg h9, if_neg h9, h _ (by omega)]
  rw [if_neg h7, if_neg h7]
  exact h _ (by omega)
end MRr

