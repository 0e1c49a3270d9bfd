/-! WHERE LINES GO ON: the class's ways, the model's flow. -/
/-- what is behind line i, within so many blocks -/
def bhS (nx pa kd : fI) : Nat → Nat → Int32
  | 0, _ => -1
  | k + 1, i => if nx i < 0 then (if pa i < 0 then pa i else if kd (clp (pa i)) = 18 then pa i else bhS nx pa kd k (clp (pa i))) else nx i
abbrev bhR (s : qS) (r i : Nat) : Int32 := bhS (s.1 (r + 17)) (s.1 (r + 18)) (s.1 (r + 7)) (i + 1) i
abbrev itV (s : qS) (r i : Nat) : Int32 := if s.1 (r + 20) i < 0 then (if s.1 (r + 7) i = 18 then nI i else bhR s r i) else s.1 (r + 20) i
abbrev elV (s : qS) (r i : Nat) : Int32 := if s.1 (r + 21) i < 0 then bhR s r i else s.1 (r + 21) i
section LWY
variable {en : pN} {d d' k i n N j r v : Nat} {s s' t t' : qS} {nx pa kd : fI}
/-- enough blocks -/
theorem bhS_eq (hp : ∀ i, i < N → pa i < 0 ∨ ∃ p, p < i ∧ pa i = nI p) (hN : N ≤ 100) : ∀ (i k : Nat), i < N → i + 1 ≤ k → bhS nx pa kd k i = bhS nx pa kd (i + 1) i := by
  intro i
  induction i using Nat.strongRecOn with
  | ind i ih =>
    intro k hi hk
    obtain ⟨k, rfl⟩ : ∃ k', k = k' + 1 := ⟨k - 1, by omega⟩
    unfold bhS
    by_cases q : nx i < 0
    · rw [if_pos q, if_pos q]
      by_cases q2 : pa i < 0
      · rw [if_pos q2, if_pos q2]
      · rw [if_neg q2, if_neg q2]
        obtain ⟨p, p1, p2⟩ := (hp i hi).resolve_left q2
        rw [p2, n_clp (by omega)]
        by_cases q3 : kd p = 18
        · rw [if_pos q3, if_pos q3]
        · rw [if_neg q3, if_neg q3, ih p p1 k (by omega) (by omega), ih p p1 i (by omega) (by omega)]
    · rw [if_neg q, if_neg q]
end LWY

