/-! THE READER: the row of tokens on the model's side. -/
/-- a token's kind, as the model has it -/
def kdM (k : Nat) : Nat := if k = 2 ∨ 300 ≤ k then 1 else if k = 3 then 2 else k
section TKM
variable {en : pN} {d n q f i p k F : Nat} {B : Nat → Nat} {s s' s'' : qS}
end TKM

