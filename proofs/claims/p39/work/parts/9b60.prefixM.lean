/-! THE READER: prefixes ended; a node put. -/
section PFX
variable {en : pN} {d c k r K F p q m v : Nat} {s s' s'' : qS} {pl : Nat → Nat}
/-- what putting a node changes, on the class's side -/
abbrev ptF (q m : Nat) (s s' : qS) : Prop := (∀ a, a ≠ q → a ≠ q + 1 → a ≠ q + 2 → s'.1 a = s.1 a) ∧ (∀ j, j ≠ 3 → s'.1 q j = s.1 q j) ∧ (∀ j, j ≠ m → s'.1 (q + 1) j = s.1 (q + 1) j ∧ s'.1 (q + 2) j = s.1 (q + 2) j) ∧ s'.2 = s.2
end PFX

