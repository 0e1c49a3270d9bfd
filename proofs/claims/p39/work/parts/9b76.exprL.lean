/-! THE READER: an expression on both sides: operands of a law. -/
section EXL
variable {en : pN} {d d' k K q bs u n i i' ct ct' m m' m0 c c' c0 k' nc nl nt a b z dp F p x j : Nat} {lw : Bool} {V cl cl' : Nat → Nat} {U U' : Nat → Nat → Nat} {pl pl' : Nat → Nat} {s s' s'' t t' t'' : qS} {B : Nat → Nat} {O Q M W v w v1 v2 v3 v4 v5 a2 : Int32}
theorem mEnd_tk (hq : q = 7 ∨ q = 61) (h : mEnd s q m) (f : tnF s s') : mEnd s' q m := by
  obtain ⟨y, z1, z2⟩ := h
  exact ⟨y, by rw [f.1 q (by omega) (by omega)]; exact z1, z2⟩
end EXL

