/-! THE READER: statements that begin with a key word, on both sides: all but cas, add, if and while. -/
section KYS
variable {en : pN} {d d' k i i' n N j x y r m m' u F p nc nl nt D m0 f e0 : Nat} {V cl cl' th : Nat → Nat} {U U' : Nat → Nat → Nat} {s s' s'' s0 t t' t'' t0 : qS} {B : Nat → Nat} {v w dp : Int32}
/-- the class's statement behind its first word, the model's -/
noncomputable abbrev kwX (en : pN) (D N k : Nat) (dp : Int32) (s : qS) : Option qR := bV (qev en D 129 [.ref 65, .int (nI N), .int (nI k)] s) (fun s7 => L_X6_readStatement_47 en D (nI N) dp (nI k) s7)
end KYS

