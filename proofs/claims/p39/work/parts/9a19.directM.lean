/-! THE RUN: what its steps say of each other, the model's side. s: any state; g: its rows of steps; V: its row of volatile cells. -/
abbrev gvM (g : Nat → fI) (V : fI) (i : Nat) : Prop := (g 3 i = 2 ∧ ¬ V (clp (g 4 i)) = 0) ∨ (g 3 i = 3 ∨ g 3 i = 4)
abbrev tkM (g : Nat → fI) (V : fI) (i : Nat) : Prop := (g 3 i = 1 ∧ ¬ V (clp (g 4 i)) = 0) ∨ (g 3 i = 3 ∨ g 3 i = 4)
abbrev nmM (g : Nat → fI) (i : Nat) : Prop := g 3 i = 1 ∨ g 3 i = 2 → p_inB (g 4 i) 8 = true
section RMn
variable {en : pN} {d : Nat} {s : qS} {i j : Nat} {g : Nat → fI} {V : fI} {a b x y z : Int32}
abbrev ldM (g : Nat → fI) (V : fI) (i j : Nat) : Prop := (g 3 i ≠ 20 ∧ g 3 j ≠ 20) ∧ (g 0 i = g 0 j ∨ ((g 3 i = 10 ∧ g 4 i = g 0 j) ∨ (g 3 j = 11 ∧ g 4 j = g 0 i) ∨ (g 4 i = g 4 j ∧ (g 3 i = 6 ∨ g 3 i = 7) ∧ (g 3 j = 5 ∨ g 3 j = 19)) ∨ (g 4 i = g 4 j ∧ gvM g V i ∧ tkM g V j) ∨ (g 3 i = 12 ∧ g 3 j = 12)))
abbrev toM (a : Int32) : Prop := a = 1 ∨ a = 2 ∨ (a = 3 ∨ a = 4)
abbrev rgM (a b : Int32) : Prop := toM b ∧ toM a ∧ ((a = 2 ∨ b = 2) ∨ (a = 1 ∧ (b = 3 ∨ b = 4)) ∨ (b = 1 ∧ (a = 3 ∨ a = 4)))
end RMn

