/-! THE TOP: what leaves the programs of both as they are. -/
/-- what the program that was read depends on -/
abbrev pfX (s s' : qS) : Prop := (∀ c, 11 ≤ c → c ≤ 35 → s'.1 c = s.1 c) ∧ (∀ j, j < 400 → s'.1 8 j = s.1 8 j ∧ s'.1 9 j = s.1 9 j) ∧ s'.1 68 = s.1 68 ∧ ∀ c, c = 12 ∨ c = 13 ∨ c = 67 → s'.2.1 c = s.2.1 c
/-- what the rewritten one depends on -/
abbrev rfX (s s' : qS) : Prop := ∀ c, c = 8 ∨ c = 9 ∨ 36 ≤ c ∧ c ≤ 60 → s'.1 c = s.1 c
section FRT
variable {en : pN} {d d' k i n N j r v u m nc nl nt key a w : Nat} {V cl th K : Nat → Nat} {U : Nat → Nat → Nat} {bl : Nat → List Nat} {go : Nat → Bool} {s s' s1 t t' t1 : qS} {e x g y : Bool} {z A E A' E' : Int32} {P : Nat → fI}
theorem rd_eq (f : rfX s s') : rdP s' 36 = rdP s 36 ∨ ∀ a, a < 28 → rdP s' 36 a = rdP s 36 a := Or.inr fun a ha => by
  unfold rdP
  by_cases q1 : a = 25
  · rw [if_pos q1, if_pos q1]; exact f 8 (by omega)
  · rw [if_neg q1, if_neg q1]
    by_cases q2 : a = 26
    · rw [if_pos q2, if_pos q2]; exact f 9 (by omega)
    · rw [if_neg q2, if_neg q2]
      by_cases q3 : a = 27
      · rw [if_pos q3, if_pos q3]
      · rw [if_neg q3, if_neg q3]
        exact f (36 + a) (by omega)
end FRT

