/-! ALL TURNS, the model's side: a state looked at. -/
abbrev fRm (σ σ' : qS) (F F' : fI) : Prop := (∀ c, c < 210 ∨ 226 < c → c ≠ 190 → σ'.1 c = σ.1 c) ∧ (∀ j, j < 62 ∨ 74 ≤ j → j ≠ 101 → j ≠ 102 → j ≠ 103 → j ≠ 115 → F' j = F j) ∧ σ'.2 = σ.2
section ML
variable {en : pN} {d w nc nl nt n t u k a l : Nat} {P : Nat → fI} {v1 v2 : Int32} {σ σ' : qS} {F F' s y g N : fI} {D : Int64} {x : xT} {fw : Bool}
end ML

