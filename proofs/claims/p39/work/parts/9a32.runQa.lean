/-! THE RUN: before, and the races, both sides. -/
section BA
variable {en : pN} {d : Nat} {σ τ : qS} {p w nc nl nt n len : Nat} {P f g : Nat → fI} {N T : fI} {u v : Int32}
theorem in_or {len : Nat} (hlen : len ≤ 200) (u v : Int32) : (u < 0 ∨ nI len ≤ u ∨ v < 0 ∨ nI len ≤ v) ∨ ∃ i j, u = nI i ∧ v = nI j ∧ i < len ∧ j < len := by
  by_cases a0 : u < 0
  · exact Or.inl (Or.inl a0)
  by_cases a1 : nI len ≤ u
  · exact Or.inl (Or.inr (Or.inl a1))
  by_cases b0 : v < 0
  · exact Or.inl (Or.inr (Or.inr (Or.inl b0)))
  by_cases b1 : nI len ≤ v
  · exact Or.inl (Or.inr (Or.inr (Or.inr b1)))
  obtain ⟨i, hi, rfl⟩ := nI_of a0
  obtain ⟨j, hj, rfl⟩ := nI_of b0
  rw [n_LE (by omega) (by omega)] at a1 b1
  exact Or.inr ⟨i, j, rfl, rfl, by omega, by omega⟩
end BA

