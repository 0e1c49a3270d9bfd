/-! THE READER: simple statements on both sides, all kinds. -/
section SIT
variable {en : pN} {d d' k b i i' n N j x y r m m' u F p nc nl nt D m0 key un : Nat} {V cl cl' th th' K : Nat → Nat} {U U' : Nat → Nat → Nat} {s s' s'' s0 t t' t'' t0 t1 : qS} {B : Nat → Nat} {v w dp pa pt lv ow kk kk' la laM : Int32} {lo : Option Nat} {bl : Nat → List Nat}
/-- what a statement leaves of the open blocks -/
abbrev stkI (t t' : qS) (b N : Nat) : Prop := (∀ j, j ≠ b → t'.1 186 j = t.1 186 j) ∧ t'.1 184 = t.1 184 ∧ t'.1 185 = t.1 185 ∧ t'.1 186 b = nI N
end SIT

