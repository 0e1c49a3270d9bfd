/-! THE READER: names and locals on both sides. -/
/-- the first of k places from i on with the value v -/
def fnN (V : Nat → Nat) (v : Nat) : Nat → Nat → Int32
  | 0, _ => -1
  | k + 1, i => if V i = v then nI i else fnN V v k (i + 1)
section NMR
variable {en : pN} {d v k i t c nc nl nt : Nat} {V : Nat → Nat} {f : Nat → Int64} {s : qS}
theorem of64_inj {a b : Nat} (ha : a < 2 ^ 63) (hb : b < 2 ^ 63) : Int64.ofNat a = Int64.ofNat b ↔ a = b := by
  constructor
  · intro h
    have h1 := congrArg Int64.toInt h
    rw [Int64.toInt_ofNat_of_lt ha, Int64.toInt_ofNat_of_lt hb] at h1
    omega
  · intro h; rw [h]
theorem fnd_N {e : Nat → Nat} (he : ∀ a b, a < 128 ^ 8 → b < 128 ^ 8 → (Int64.ofNat (e a) = Int64.ofNat (e b) ↔ a = b)) (hv : v < 128 ^ 8) : ∀ k i, (∀ j, i ≤ j → j < i + k → f j = Int64.ofNat (e (V j)) ∧ V j < 128 ^ 8) → fnd f (Int64.ofNat (e v)) k i = fnN V v k i := by
  intro k
  induction k with
  | zero => intro _ _; rfl
  | succ k ih =>
    intro i h
    obtain ⟨h1, h2⟩ := h i (Nat.le_refl _) (by omega)
    unfold fnd fnN
    rw [h1]
    by_cases q : V i = v
    · rw [if_pos ((he _ _ h2 hv).mpr q), if_pos q]
    · rw [if_neg (fun z => q ((he _ _ h2 hv).mp z)), if_neg q]
      exact ih (i + 1) (fun j a b => h j (by omega) (by omega))
theorem fnN_is : ∀ k i, (fnN V v k i = -1 ∧ ∀ j, i ≤ j → j < i + k → V j ≠ v) ∨ ∃ j, i ≤ j ∧ j < i + k ∧ fnN V v k i = nI j ∧ V j = v ∧ ∀ l, i ≤ l → l < j → V l ≠ v := by
  intro k
  induction k with
  | zero => intro i; exact Or.inl ⟨rfl, fun j a b => absurd b (by omega)⟩
  | succ k ih =>
    intro i
    unfold fnN
    by_cases q : V i = v
    · rw [if_pos q]
      exact Or.inr ⟨i, Nat.le_refl _, by omega, rfl, q, fun l a b => absurd b (by omega)⟩
    · rw [if_neg q]
      rcases ih (i + 1) with ⟨h1, h2⟩ | ⟨j, h1, h2, h3, h4, h5⟩
      · exact Or.inl ⟨h1, fun j a b => by
          by_cases z : j = i
          · rw [z]; exact q
          · exact h2 j (by omega) (by omega)⟩
      · exact Or.inr ⟨j, by omega, by omega, h3, h4, fun l a b => by
          by_cases z : l = i
          · rw [z]; exact q
          · exact h5 l (by omega) b⟩
end NMR

