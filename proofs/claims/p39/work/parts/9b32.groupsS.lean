/-! JUDGING: the groups of states that lead to each other, as both find them. -/
def sumF (f : Nat → Nat) : Nat → Nat
  | 0 => 0
  | n + 1 => sumF f n + f n
section SMF
variable {f g : Nat → Nat} {n i : Nat}
end SMF
/-- what is come to from u by the steps whose goals are not wanted -/
def rcW (A E : Nat → Nat) (W : Nat → Bool) (u v : Nat) : Prop := ∀ S : Nat → Prop, S u → (∀ a e, S a → A a ≤ e → e < A (a + 1) → W (E e) = false → S (E e)) → S v
section RCW
variable {A E : Nat → Nat} {W : Nat → Bool} {u v z e : Nat}
end RCW
/-- what holds while groups are looked for: C how many have numbers, I the numbers, L the low numbers, G the groups, X the next step, op the open ones, tr the trail, Q how many groups -/
abbrev TJ (A E : Nat → Nat) (W : Nat → Bool) (N C : Nat) (I L G X : Nat → Nat) (no : Nat) (op : Nat → Nat) (nn : Nat) (tr : Nat → Nat) (Q : Nat) : Prop :=
  (C + sumF (fun v => if I v = 0 then 1 else 0) N = N ∧ (∀ v, v < N → I v ≤ C) ∧ (∀ v u, v < N → u < N → I v = I u → I v ≠ 0 → v = u) ∧ (∀ v, v < N → I v = 0 → G v = 0) ∧ ∀ v, v < N → I v ≠ 0 → W v = false) ∧
  ((∀ i, i < no → op i < N ∧ I (op i) ≠ 0 ∧ G (op i) = 0) ∧ (∀ i j, i < j → j < no → I (op i) < I (op j)) ∧ ∀ v, v < N → I v ≠ 0 → G v = 0 → ∃ i, i < no ∧ op i = v) ∧
  ((∀ i, i < nn → tr i < N ∧ I (tr i) ≠ 0 ∧ G (tr i) = 0) ∧ ∀ i j, i < j → j < nn → I (tr i) < I (tr j)) ∧
  ((∀ i u, i < nn → u < N → I u ≠ 0 → G u = 0 → I (tr i) ≤ I u → rcW A E W (tr i) u) ∧ ∀ u, u < N → I u ≠ 0 → G u = 0 → ∃ i, i < nn ∧ I (tr i) ≤ I u ∧ rcW A E W u (tr i)) ∧
  (∀ v, v < N → I v ≠ 0 → G v = 0 → L v ≤ I v ∧ ∃ u, u < N ∧ I u ≠ 0 ∧ G u = 0 ∧ I u = L v ∧ rcW A E W v u) ∧
  ((∀ v, v < N → I v ≠ 0 → A v ≤ X v ∧ X v ≤ A (v + 1)) ∧ ∀ v, v < N → I v ≠ 0 → (∀ i, i < nn → tr i ≠ v) → X v = A (v + 1)) ∧
  (∀ v e, v < N → I v ≠ 0 → A v ≤ e → e < X v → W (E e) = false → I (E e) ≠ 0 ∧ (G v = 0 → G (E e) = 0 → ∃ i, i < nn ∧ I (tr i) ≤ I v ∧ L (tr i) ≤ I (E e) ∧ (i + 1 < nn → I v < I (tr (i + 1))))) ∧
  (∀ v, v < N → G v ≠ 0 → G v ≤ Q ∧ (∀ e, A v ≤ e → e < A (v + 1) → W (E e) = false → G (E e) ≠ 0 ∧ G (E e) ≤ G v) ∧ ∀ u, u < N → G u = G v → rcW A E W v u)
section TJS
variable {A E : Nat → Nat} {W : Nat → Bool} {N C no nn Q v l i0 : Nat} {I L G X op tr : Nat → Nat}
end TJS

