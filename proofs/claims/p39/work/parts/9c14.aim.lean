/-! THE READER: which threads are started or joined, on both sides. -/
/-- lines below v that start or join know their thread -/
abbrev aiI (s : qS) (nt v : Nat) : Prop := ∀ i, i < v → s.1 18 i = 10 ∨ s.1 18 i = 11 → ∃ u, u < nt ∧ s.1 20 i = nI u
section AIM
variable {en : pN} {d d' k i i' n N j x y c u v q nc nc' nl nl' nt nt' m D b a e : Nat} {V V' cl cl' th K : Nat → Nat} {U : Nat → Nat → Nat} {bl : Nat → List Nat} {s s' s'' t t' t'' : qS} {B : Nat → Nat} {w z v1 : Int32} {W : Int64} {F p : Nat}
/-- what aiming changes -/
abbrev aiX (s s' : qS) : Prop := (∀ a, a ≠ 20 → a ≠ 65 → s'.1 a = s.1 a) ∧ (∀ j, j ≠ 11 → j ≠ 12 → s'.1 65 j = s.1 65 j) ∧ s'.2 = s.2
end AIM

