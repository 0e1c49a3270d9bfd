/-! JUDGING: a group is closed. -/
section TJT
variable {A E : Nat → Nat} {W : Nat → Bool} {N C no m nn Q v k0 : Nat} {I L G G' X op tr : Nat → Nat}
/-- where the trail is empty all that has a number has a group -/
theorem TJ.all (h : TJ A E W N C I L G X no op 0 tr Q) {u : Nat} (hu : u < N) (hn : I u ≠ 0) : G u ≠ 0 := by
  obtain ⟨_, _, _, ⟨_, d2⟩, _⟩ := h
  intro q
  obtain ⟨i, hi, _⟩ := d2 u hu hn q
  omega
end TJT

