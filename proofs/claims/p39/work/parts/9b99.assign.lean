/-! THE READER: assignments on both sides. -/
theorem uI_cg {σ τ : qS} {a b k : Nat} {v : Int32} (h : σ.1 a = τ.1 a) : (uI σ b k v).1 a = (uI τ b k v).1 a := by
  funext j
  rw [rdU, rdU, h]
theorem smW_is {a : Nat} (h : smW a = true) : a = 164 ∨ a = 166 ∨ a = 167 ∨ a = 176 ∨ a = 177 ∨ a = 178 ∨ a = 179 ∨ a = 183 := by
  unfold smW at h
  have := List.contains_iff_mem.mp h
  simp at this
  omega
section ASG
variable {en : pN} {d d' k b i i' n N j x y r m m' u F p nc nl nt D m0 key un : Nat} {V cl cl' th : Nat → Nat} {U U' : Nat → Nat → Nat} {s s' s'' s0 t t' t'' t0 : qS} {B : Nat → Nat} {v w dp pa pt lv ow kk kk' : Int32} {lo : Option Nat}
end ASG

