/-! THE RUN: before and the races, the model's side. -/
section MB2
variable {en : pN} {d : Nat} {s : qS} {g : Nat → fI} {V : fI} {n : Nat} {L : Nat → Nat → Bool}
abbrev rcM (L : Nat → Nat → Bool) (g : Nat → fI) (V : fI) (i j : Nat) : Prop := (rgM (g 3 i) (g 3 j) ∧ ¬ g 0 i = g 0 j ∧ g 4 i = g 4 j ∧ bfo L j i = false) ∧ V (clp (g 4 i)) = 0
end MB2

