/-! THE READER: how reading begins, on both sides. -/
/-- the cells of the class's tokens -/
def sT (a : Nat) : Prop := 1 ≤ a ∧ a ≤ 6
set_option maxRecDepth 100000 in
theorem frC_T : frC sT := by
  have h := frC_of (p := fun a => decide (1 ≤ a ∧ a ≤ 6)) (by decide +kernel) (by decide +kernel)
  simp only [decide_eq_true_eq] at h
  exact h
/-- what the beginning changes of the class -/
abbrev oxF (q : Nat) (s s' : qS) : Prop := (∀ a, a ≠ 65 → a ≠ q → ¬ sT a → s'.1 a = s.1 a) ∧ (∀ j, j ≠ 3 → s'.1 q j = s.1 q j) ∧ (∀ j, j ≠ 8 → j ≠ 11 → j ≠ 12 → j ≠ 13 → s'.1 65 j = s.1 65 j) ∧ (∀ a, ¬ sT a → s'.2.1 a = s.2.1 a) ∧ ∀ a k, ¬ sT a → ¬ (a = 65 ∧ k = 7) → s'.2.2 a k = s.2.2 a k
section OPN
variable {en : pN} {d d' n q : Nat} {lw : Bool} {s t : qS} {B : Nat → Nat}
theorem x_cutF (hT : TX s n B) (hz : frS sT s) : ∃ τ : qS, qev en (d + 7) 166 [.ref 1] s = some (none, τ) ∧ TX τ n B ∧ TC τ (cutL (s.2.1 3) B n (n + 1) 0) ∧ TA τ (cutL (s.2.1 3) B n (n + 1) 0) 0 ∧ τ.2.1 3 = s.2.1 3 ∧ frK sT s τ ∧ frS sT τ := by
  obtain ⟨τ, h1, h2, h3, h4, h5⟩ := c_cut (en := en) (d := d) hT
  obtain ⟨⟨g1, g2⟩, -⟩ := fr_ev frC_T (d + 7) 166 [.ref 1] s τ none h1 (fun v hv => by
    rw [List.mem_singleton.mp hv]
    show sT 1
    exact ⟨by decide, by decide⟩) hz
  exact ⟨τ, h1, h2, h3, h4, h5, g2, g1⟩
theorem tkN_0 : tkN B n 0 = (skp B (n - 0) false 0, aTok B n (skp B (n - 0) false 0)) := by
  unfold tkN aL
  rfl
end OPN

