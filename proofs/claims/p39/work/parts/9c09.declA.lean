/-! THE READER: declarations added, on both sides. -/
/-- the class's new cell, the model's -/
def ncX (s : qS) (c v : Nat) : qS := uI (uI (uJ s 12 c (Int64.ofNat v)) 15 c 0) 11 9 (nI (c + 1))
def ncM (t : qS) (c v : Nat) : qS := uI (uI (uI (uJ t 153 c (Int64.ofNat (w8 8 v))) 154 c 0) 155 c 0) 151 12 (nI (c + 1))
def nlX (s : qS) (l v : Nat) : qS := uI (uJ s 12 (8 + l) (Int64.ofNat v)) 11 10 (nI (l + 1))
def nlM (t : qS) (l v : Nat) : qS := uI (uJ t 156 l (Int64.ofNat (w8 8 v))) 151 16 (nI (l + 1))
def ntX (s : qS) (u v : Nat) : qS := uI (uI (uI (uJ s 12 (12 + u) (Int64.ofNat v)) 16 u (-1)) 11 11 (nI (u + 1))) 65 14 (nI u)
def ntM (t : qS) (u v : Nat) : qS := uI (uI (uI (uI (uJ t 157 u (Int64.ofNat (w8 8 v))) 158 u 0) 159 u 0) 181 u (-2)) 151 18 (nI (u + 1))
section TPA
variable {en : pN} {d d' k i i' n N j x y c u v q nc nc' nl nl' nt nt' m : Nat} {V V' cl cl' th K : Nat → Nat} {U : Nat → Nat → Nat} {bl : Nat → List Nat} {s s' s'' t t' t'' : qS} {B : Nat → Nat} {w z : Int32} {W : Int64}
end TPA

