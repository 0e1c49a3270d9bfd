/-! THE READER: an expression on both sides: brackets; whole expressions. -/
section EXB
variable {en : pN} {d d' k K q bs u n i i' ct ct' m m' m0 c c' c0 k' nc nl nt a b z h dp F p x j r l l0 y f D d0 e : Nat} {lw : Bool} {V cl cl' : Nat → Nat} {U U' : Nat → Nat → Nat} {pl pl' : Nat → Nat} {s s' s'' t t' t'' : qS} {B : Nat → Nat} {O Q M W v w v1 v2 v3 v4 v5 a2 : Int32} {R X : Option qR}
/-- the class at a bracket -/
theorem x_bracket {s1 s2 s3 : qS} (c1 : s.1 1 9 = 40) (h1 : qev en (e + 7) 167 [.ref 1] s = some (none, s1)) (h2 : qev en (e + 7) 134 [.ref 65, .int (nI 0), .int (nI (dp + 1))] s1 = some (none, s2)) (h3 : qev en (e + 7) 115 [.ref 65, .int (nI 41)] s2 = some (none, s3)) : oneB en (e + 7) dp s = some (none, s3) := by
  show (if ¬ (s.1 1 9) = (40 : Int32) then _ else _) = _
  have h2' : qev en (e + 7) 134 [.ref 65, .int (0 : Int32), .int (nI (dp + 1))] s1 = some (none, s2) := h2
  have h3' : qev en (e + 7) 115 [.ref 65, .int (41 : Int32)] s2 = some (none, s3) := h3
  rw [if_neg (not_not_intro c1), h1, bV_some, show nI dp + (1 : Int32) = nI (dp + 1) from n_ar, h2', bV_some, h3', bV_some]
end EXB

