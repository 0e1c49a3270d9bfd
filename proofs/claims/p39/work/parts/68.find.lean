/-! SEARCHES FOR A WORD. -/
def fnd (f : Nat → Int64) (m : Int64) : Nat → Nat → Int32
  | 0, _ => -1
  | k + 1, i => if f i = m then nI i else fnd f m k (i + 1)
theorem fnd_is {f : Nat → Int64} {m : Int64} : ∀ k i : Nat, (fnd f m k i = -1 ∧ ∀ j, i ≤ j → j < i + k → f j ≠ m) ∨ ∃ j, i ≤ j ∧ j < i + k ∧ fnd f m k i = nI j ∧ f j = m ∧ ∀ l, i ≤ l → l < j → f l ≠ m := by
  intro k
  induction k with
  | zero => intro i; exact Or.inl ⟨rfl, fun j a b => by omega⟩
  | succ k ih =>
    intro i
    unfold fnd
    by_cases h : f i = m
    · rw [if_pos h]
      exact Or.inr ⟨i, Nat.le_refl _, by omega, rfl, h, fun l a b => by omega⟩
    · rw [if_neg h]
      rcases ih (i + 1) with ⟨a, b⟩ | ⟨j, a, b, c, e, g⟩
      · refine Or.inl ⟨a, fun j x y => ?_⟩
        rcases Nat.lt_or_ge i j with q | q
        · exact b j (by omega) (by omega)
        · rw [show j = i by omega]; exact h
      · refine Or.inr ⟨j, by omega, by omega, c, e, fun l x y => ?_⟩
        rcases Nat.lt_or_ge i l with q | q
        · exact g l (by omega) y
        · rw [show l = i by omega]; exact h
theorem c_find {en : pN} {d a p c : Nat} {m : Int64} {σ : qS} (hl : lc a = 21) (hp : p + c ≤ ln a) (hn : ln a < 2 ^ 31) : qev en (d + 1) 83 [.ref a, .int (nI p), .int (nI c), .long m] σ = some (some (.int (fnd (fun j => σ.2.1 a (p + j)) m c 0)), σ) := by
  refine le_X5_find en d a (nI p) (nI c) m σ _ ?_
  rw [gd_true hl]
  have go : ∀ k i : Nat, i + k = c → L_X5_find_3 en d a (nI p) (nI c) m (nI i) σ = some (some (.int (fnd (fun j => σ.2.1 a (p + j)) m k i)), σ) := by
    intro k
    induction k with
    | zero =>
      intro i hi
      refine le_X5_find_3 en d a (nI p) (nI c) m (nI i) σ _ ?_
      rw [gd_true hl, if_pos (nI_le (by omega) (by omega))]
      rfl
    | succ k ih =>
      intro i hi
      refine le_X5_find_3 en d a (nI p) (nI c) m (nI i) σ _ ?_
      rw [gd_true hl, if_neg (nI_ge (by omega) (by omega)), nI_add, gd_true (inB_nI (by omega) hn), nI_clamp (by omega), nI_1]
      unfold fnd
      by_cases h : σ.2.1 a (p + i) = m
      · rw [if_neg (not_not_intro (lgc0.mpr h)), if_pos h]
      · rw [if_pos (fun z => h (lgc0.mp z)), if_neg h]
        exact ih (i + 1) (by omega)
  exact go c 0 (by omega)
theorem c_named {en : pN} {d r : Nat} {m : Int64} {σ : qS} (hl : lc r = 5) : qev en (d + 1) 84 [.ref r, .long m] σ = some (some (.int (fnd (σ.2.1 (r + 1)) m 16 0)), σ) := by
  refine le_X5_named en d r m σ _ ?_
  rw [gd_true hl]
  have go : ∀ k i : Nat, i + k = 16 → L_X5_named_2 en d r m (nI i) σ = some (some (.int (fnd (σ.2.1 (r + 1)) m k i)), σ) := by
    intro k
    induction k with
    | zero =>
      intro i hi
      refine le_X5_named_2 en d r m (nI i) σ _ ?_
      rw [gd_true hl, if_pos (show (16 : Int32) ≤ nI i from nI_le (a := 16) (by omega) (by omega))]
      rfl
    | succ k ih =>
      intro i hi
      refine le_X5_named_2 en d r m (nI i) σ _ ?_
      rw [gd_true hl, if_neg (show ¬ (16 : Int32) ≤ nI i from nI_ge (b := 16) (by omega) (by decide)), gd_true (inB_nI (by omega) (by decide)), nI_clamp (by omega), nI_1]
      unfold fnd
      by_cases h : σ.2.1 (r + 1) i = m
      · rw [if_neg (not_not_intro (lgc0.mpr h)), if_pos h]
      · rw [if_pos (fun z => h (lgc0.mp z)), if_neg h]
        exact ih (i + 1) (by omega)
  exact go 16 0 rfl
