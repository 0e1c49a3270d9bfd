/-! THE MODEL'S CHOICES, its list of ready steps. -/
/-- threads that have a ready step, as bits -/
def rdM (P : Nat → fI) (w : Nat) (N : fI) (nt : Nat) : Nat → Int32
  | 0 => 0
  | t + 1 => rdM P w N nt t ||| (if 0 < chs P w N t nt ∨ ¬ N (56 + t) = 0 then (1 : Int32) <<< (nI t &&& 31) else 0)
section MC
variable {en : pN} {d t i n top k K w e a c l u ch nc nl nt vv j m p o : Nat} {v x z : Int32} {q : Nat} {σ : qS} {F s y g N : fI} {P : Nat → fI} {D : Int64}
end MC

