/-! THE READER: what begins an operand, on both sides. -/
def begB (law : Bool) (k : Nat) : Bool := (law && decide (328 ≤ k ∧ k ≤ 332)) || decide (k = 3) || decide (k = 2) || decide (k = 45) || decide (k = 33) || decide (k = 40)
section BGR
variable {en : pN} {d v k i j n p : Nat} {s t : qS} {B : Nat → Nat} {law : Bool} {v1 v2 v3 : Int32}
theorem x_begK (hk : k < 2 ^ 31) (h8 : s.1 65 8 = bt law) : qev en (d + 1) 137 [.ref 65, .int (nI k)] s = some (some (.int (bt (begB law k))), s) := by
  have f23 : ¬ (law = true ∧ 328 ≤ k ∧ k ≤ 332) → L_X6_beginsOne_23 en d (nI k) s = some (some (.int (bt (begB law k))), s) := fun hl => by
    have e0 : begB law k = (decide (k = 3) || decide (k = 2) || decide (k = 45) || decide (k = 33) || decide (k = 40)) := by
      unfold begB
      cases hb : law
      · rw [Bool.false_and, Bool.false_or]
      · rw [decide_eq_false (fun z => hl ⟨hb, z⟩), Bool.and_false, Bool.false_or]
    refine le_X6_beginsOne_23 en _ _ _ _ ?_
    rw [e0]
    by_cases q1 : k = 3
    · subst q1; rfl
    rw [if_neg (by rw [n_eq (by decide) hk]; exact q1)]
    by_cases q2 : k = 2
    · subst q2; rfl
    rw [if_neg (by rw [n_eq (by decide) hk]; exact q2)]
    by_cases q3 : k = 45
    · subst q3; rfl
    rw [if_neg (by rw [n_eq (by decide) hk]; exact q3)]
    by_cases q4 : k = 33
    · subst q4; rfl
    rw [if_neg (by rw [n_eq (by decide) hk]; exact q4)]
    by_cases q5 : k = 40
    · subst q5; rfl
    rw [if_pos (by rw [n_eq (by decide) hk]; exact q5), decide_eq_false q1, decide_eq_false q2, decide_eq_false q3, decide_eq_false q4, decide_eq_false q5]
    rfl
  refine le_X6_beginsOne en _ _ _ _ ?_
  rw [h8]
  cases hb : law
  · rw [if_pos (show bt false = (0 : Int32) from rfl)]
    rw [hb] at f23
    exact f23 (fun z => Bool.noConfusion z.1)
  · rw [if_neg (show ¬ bt true = (0 : Int32) by decide)]
    rw [hb] at f23
    by_cases q1 : k < 328
    · rw [if_pos (by rw [n_gt (by decide) hk]; exact q1)]
      exact f23 (fun z => by omega)
    rw [if_neg (by rw [n_gt (by decide) hk]; exact q1)]
    by_cases q2 : 332 < k
    · rw [if_pos (by rw [n_lt (by decide) hk]; exact q2)]
      exact f23 (fun z => by omega)
    rw [if_neg (by rw [n_lt (by decide) hk]; exact q2)]
    unfold begB
    rw [decide_eq_true (show 328 ≤ k ∧ k ≤ 332 by omega)]
    rfl
end BGR

