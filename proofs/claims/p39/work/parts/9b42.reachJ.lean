/-! JUDGING: what is come to from the beginnings; the class's side. -/
/-- it is come to without what is wanted -/
abbrev isRJ (A E : Nat → Nat) (W B : Nat → Bool) (N v : Nat) : Prop := W v = false ∧ ∃ b, b < N ∧ B b = true ∧ W b = false ∧ rcW A E W b v
/-- the search under way: R what has been come to, no how many wait (st), z the state looked at up to step e, p how many have been looked at -/
abbrev RS (A E : Nat → Nat) (W B : Nat → Bool) (N : Nat) (R : Nat → Bool) (no : Nat) (st : Nat → Nat) (z e p : Nat) : Prop := (∀ v, v < N → R v = true → isRJ A E W B N v) ∧ (∀ i, i < no → st i < N ∧ R (st i) = true) ∧ (∀ v, v < N → R v = true → (∃ i, i < no ∧ st i = v) ∨ ∀ e', A v ≤ e' → e' < A (v + 1) → (v = z → e' < e) → W (E e') = false → R (E e') = true) ∧ p + no + sumF (fun v => if R v = true then 0 else 1) N = N
section RSJ
variable {en : pN} {d N no z e p v c : Nat} {st A E T M : Nat → Nat} {s s' s'' τ : qS} {W B R K : Nat → Bool}
/-- nothing waits: all is found -/
theorem RS.all (hEN : ∀ e, e < A N → E e < N) (hA : ∀ i j, i ≤ j → j ≤ N → A i ≤ A j) (h : RS A E W B N R 0 st N 0 p) (hB : ∀ b, b < N → B b = true → W b = false → R b = true) (hv : v < N) : R v = true ↔ isRJ A E W B N v := by
  obtain ⟨h1, h2, h3, h4⟩ := h
  constructor
  · exact h1 v hv
  · rintro ⟨_, b, b1, b2, b3, b4⟩
    refine (b4 (fun x => x < N ∧ R x = true) ⟨b1, hB b b1 b2 b3⟩ (fun x e' ⟨x1, x2⟩ g1 g2 g3 => ?_)).2
    refine ⟨hEN e' (Nat.lt_of_lt_of_le g2 (hA (x + 1) N x1 (Nat.le_refl _))), ?_⟩
    rcases h3 x x1 x2 with ⟨i, hi, _⟩ | w
    · omega
    · exact w e' g1 g2 (fun q => by omega) g3
end RSJ

