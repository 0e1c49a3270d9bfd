/-! THE READER: a cell on both sides. -/
def sgI (b : Bool) (x : Int32) : Int32 := if b = true then -x else x
section RCL
variable {en : pN} {d d' k i i' n N j x y c u v q nc nc' nl nl' nt nt' m : Nat} {V V' cl cl' th K : Nat → Nat} {U : Nat → Nat → Nat} {bl : Nat → List Nat} {s s' s'' t t' t'' : qS} {B : Nat → Nat} {w z : Int32} {W : Int64}
theorem tnF_ui {a : Nat} (h : tnF s s') (h1 : a ≠ 1) (h2 : a ≠ 65) : tnF (uI s a j w) (uI s' a j w) := ⟨fun c a1 a2 => by
  funext k
  rw [rdU, rdU, h.1 c a1 a2], fun j a b c => by rw [uI_ne (Ne.symm h1), uI_ne (Ne.symm h1)]; exact h.2.1 j a b c, fun j a b => by rw [uI_ne (Ne.symm h2), uI_ne (Ne.symm h2)]; exact h.2.2.1 j a b, h.2.2.2.1, h.2.2.2.2⟩
theorem inR_sg (hv : v < 1000) {b : Bool} : inR (sgI b (nI v)) := by
  obtain ⟨h1, h2⟩ := (show ∀ v, v < 1000 → ((-999 : Int32) ≤ nI v ∧ nI v ≤ 999) ∧ ((-999 : Int32) ≤ -nI v ∧ -nI v ≤ 999) by decide +kernel) v hv
  cases b
  · exact h1
  · exact h2
end RCL

