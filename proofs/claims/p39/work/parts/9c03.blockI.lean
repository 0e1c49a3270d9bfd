/-! THE READER: if and while on both sides, given the blocks within. -/
section BLI
variable {en : pN} {d d' k b i i' n N N' j x y r m m' u F p nc nl nt D m0 key key' un : Nat} {V cl cl' cl'' th th' th'' K K' K'' : Nat → Nat} {U U' : Nat → Nat → Nat} {s s' s'' s0 t t' t'' t0 t1 : qS} {B : Nat → Nat} {v w dp pa pt lv ow kk kk' la laM : Int32} {lo : Option Nat} {bl bl' bl'' : Nat → List Nat}
theorem bV_out {α : Type} {x : Option qR} {f : qS → Option α} {z : α} (h : bV x f = some z) : ∃ s, x = some (none, s) ∧ f s = some z := by
  cases x with
  | none => cases h
  | some r =>
    obtain ⟨o, s⟩ := r
    cases o with
    | none => exact ⟨s, rfl, h⟩
    | some q => cases h
theorem kw_eq (h : 300 ≤ x) : (nI x - (300 : Int32)) + (3 : Int32) = nI (x - 297) := by
  rw [show nI x - (300 : Int32) = nI (x - 300) from n_sr (by omega), show nI (x - 300) + (3 : Int32) = nI (x - 300 + 3) from n_ar, show x - 300 + 3 = x - 297 by omega]
end BLI

