/-! THE READER: statements that begin with a key word, on both sides. -/
section STM
variable {en : pN} {d d' k i i' n N j x y r m m' u F p nc nl nt D m0 f e0 : Nat} {V cl cl' th : Nat → Nat} {U U' : Nat → Nat → Nat} {s s' s'' s0 t t' t'' t0 : qS} {B : Nat → Nat} {v w dp : Int32}
theorem hxB_no {se : Bool} (h : k = 1 ∨ 5 ≤ k ∧ k ≤ 13) : hxB k se = false := by
  unfold hxB
  rw [if_neg (show ¬ (k = 15 ∨ k = 16) by omega), decide_eq_false (show ¬ k = 0 by omega), decide_eq_false (show ¬ (2 ≤ k ∧ k ≤ 4) by omega), decide_eq_false (show ¬ k = 14 by omega), decide_eq_false (show ¬ k = 17 by omega), decide_eq_false (show ¬ k = 18 by omega)]
  rfl
theorem hxB_yes {se : Bool} (h : k = 0 ∨ k = 2 ∨ k = 4 ∨ k = 3 ∨ k = 14 ∨ k = 17 ∨ k = 18) : hxB k se = true := by
  rcases h with rfl | rfl | rfl | rfl | rfl | rfl | rfl <;> rfl
end STM

