/-! THE RUN, the model's side: a step of it. -/
section ST
variable {en : pN} {d w nc nl nt n t ch len k r : Nat} {σ : qS} {P : Nat → fI} {K W F s y gg N : fI} {g : Nat → fI} {X : fJ} {D : Int64} {v : Int32}
/-- what the model's rows say of a step -/
def msV (t ch : Nat) (F : fI) : Nat → Int32 := fun r => if r = 0 then nI t else if r = 1 then nI ch else F (66 + r)
end ST

