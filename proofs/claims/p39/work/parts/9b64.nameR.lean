/-! THE READER: what a word names, on both sides. -/
section NAR
variable {en : pN} {d d' v k i c n nc nl nt : Nat} {V cl : Nat → Nat} {U : Nat → Nat → Nat} {s t : qS} {B : Nat → Nat}
theorem fnN_of {W : Nat → Nat} {j : Nat} (hW : ∀ a, a < k → W a = v → a = j) (hj : j < k) (h : W j = v) : fnN W v k 0 = nI j := by
  rcases fnN_is (V := W) (v := v) k 0 with ⟨_, h2⟩ | ⟨a, _, a2, a3, a4, _⟩
  · exact absurd h (h2 j (Nat.zero_le _) (by omega))
  · rw [a3, hW a (by omega) a4]
theorem fnN_no {W : Nat → Nat} (hW : ∀ a, a < k → W a ≠ v) : fnN W v k 0 = -1 := by
  rcases fnN_is (V := W) (v := v) k 0 with ⟨h1, _⟩ | ⟨a, _, a2, _, a4, _⟩
  · exact h1
  · exact absurd a4 (hW a (by omega))
/-- a word is worth more than nothing -/
theorem wnu_ge {Q : Nat → Bool} {m : Nat} : ∀ (k p a : Nat), 1 ≤ m → a ≤ wnu Q m B k p a := by
  intro k
  induction k with
  | zero => intro p a _; exact Nat.le_refl _
  | succ k ih =>
    intro p a hm
    unfold wnu
    split
    · refine Nat.le_trans ?_ (ih (p + 1) _ hm)
      have := Nat.le_mul_of_pos_left a hm
      omega
    · exact Nat.le_refl _
end NAR

