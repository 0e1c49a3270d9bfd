/-! THE READER: signs between operands, on both sides. -/
/-- the level of a sign -/
def lvV (k : Nat) : Int32 := if k = 38 then 1 else if k = 42 then 4 else if k = 43 then 3 else if k = 45 then 3 else if k = 60 then 2 else if k = 62 then 2 else if k = 124 then 0 else if k = 161 then 2 else if k = 188 then 2 else if k = 189 then 2 else if k = 190 then 2 else -1
/-- the model's number of a sign -/
def opV (k : Nat) : Int32 := if k = 38 then 13 else if k = 42 then 4 else if k = 43 then 5 else if k = 45 then 6 else if k = 60 then 9 else if k = 62 then 11 else if k = 124 then 14 else if k = 161 then 8 else if k = 188 then 10 else if k = 189 then 7 else if k = 190 then 12 else -1
section SGR
variable {en : pN} {d d' k c n i F p : Nat} {s t : qS} {B : Nat → Nat}
theorem x_levelOf (hk : k < 2 ^ 31) : qev en (d + 1) 133 [.int (nI k)] s = some (some (.int (lvV k)), s) := by
  refine le_X6_levelOf en _ _ _ _ ?_
  rw [n_to hk]
  by_cases h0 : k = 38
  · subst h0; rfl
  by_cases h1 : k = 42
  · subst h1; rfl
  by_cases h2 : k = 43
  · subst h2; rfl
  by_cases h3 : k = 45
  · subst h3; rfl
  by_cases h4 : k = 60
  · subst h4; rfl
  by_cases h5 : k = 62
  · subst h5; rfl
  by_cases h6 : k = 124
  · subst h6; rfl
  by_cases h7 : k = 161
  · subst h7; rfl
  by_cases h8 : k = 188
  · subst h8; rfl
  by_cases h9 : k = 189
  · subst h9; rfl
  by_cases h10 : k = 190
  · subst h10; rfl
  rw [swL_next (by omega), swL_next (by omega), swL_next (by omega), swL_next (by omega), swL_next (by omega), swL_next (by omega), swL_next (by omega), swL_next (by omega), swL_next (by omega), swL_next (by omega), swL_next (by omega)]
  unfold lvV
  rw [if_neg h0, if_neg h1, if_neg h2, if_neg h3, if_neg h4, if_neg h5, if_neg h6, if_neg h7, if_neg h8, if_neg h9, if_neg h10]
  rfl
/-- the signs: a kind, the model's number of it, its level -/
theorem sg_all (k : Nat) : (lvV k = -1 ∧ opV k = -1) ∨ ∃ K, 4 ≤ K ∧ K ≤ 14 ∧ opV k = nI K ∧ 1 ≤ rkM K ∧ rkM K ≤ 5 ∧ lvV k = nI (rkM K - 1) ∧ k < 256 ∧ 38 ≤ k ∧ ndR 0 k 0 K 0 := by
  by_cases h0 : k = 38
  · subst h0; exact Or.inr ⟨13, by decide, by decide, rfl, by decide, by decide, rfl, by decide, by decide, by unfold ndR; simp⟩
  by_cases h1 : k = 42
  · subst h1; exact Or.inr ⟨4, by decide, by decide, rfl, by decide, by decide, rfl, by decide, by decide, by unfold ndR; simp⟩
  by_cases h2 : k = 43
  · subst h2; exact Or.inr ⟨5, by decide, by decide, rfl, by decide, by decide, rfl, by decide, by decide, by unfold ndR; simp⟩
  by_cases h3 : k = 45
  · subst h3; exact Or.inr ⟨6, by decide, by decide, rfl, by decide, by decide, rfl, by decide, by decide, by unfold ndR; simp⟩
  by_cases h4 : k = 60
  · subst h4; exact Or.inr ⟨9, by decide, by decide, rfl, by decide, by decide, rfl, by decide, by decide, by unfold ndR; simp⟩
  by_cases h5 : k = 62
  · subst h5; exact Or.inr ⟨11, by decide, by decide, rfl, by decide, by decide, rfl, by decide, by decide, by unfold ndR; simp⟩
  by_cases h6 : k = 124
  · subst h6; exact Or.inr ⟨14, by decide, by decide, rfl, by decide, by decide, rfl, by decide, by decide, by unfold ndR; simp⟩
  by_cases h7 : k = 161
  · subst h7; exact Or.inr ⟨8, by decide, by decide, rfl, by decide, by decide, rfl, by decide, by decide, by unfold ndR; simp⟩
  by_cases h8 : k = 188
  · subst h8; exact Or.inr ⟨10, by decide, by decide, rfl, by decide, by decide, rfl, by decide, by decide, by unfold ndR; simp⟩
  by_cases h9 : k = 189
  · subst h9; exact Or.inr ⟨7, by decide, by decide, rfl, by decide, by decide, rfl, by decide, by decide, by unfold ndR; simp⟩
  by_cases h10 : k = 190
  · subst h10; exact Or.inr ⟨12, by decide, by decide, rfl, by decide, by decide, rfl, by decide, by decide, by unfold ndR; simp⟩
  left
  unfold lvV opV
  rw [if_neg h0, if_neg h1, if_neg h2, if_neg h3, if_neg h4, if_neg h5, if_neg h6, if_neg h7, if_neg h8, if_neg h9, if_neg h10, if_neg h0, if_neg h1, if_neg h2, if_neg h3, if_neg h4, if_neg h5, if_neg h6, if_neg h7, if_neg h8, if_neg h9, if_neg h10]
  exact ⟨rfl, rfl⟩
/-- a node counted, or one too many -/
theorem x_countNode (hc : s.1 65 13 = nI c) (hl : c ≤ 400) : (c < 400 ∧ qev en (d + 2) 136 [.ref 65] s = some (some (.int 1), uI s 65 13 (nI (c + 1)))) ∨ (c = 400 ∧ qev en (d + 2) 136 [.ref 65] s = some (some (.int 0), bmS s 4)) := by
  by_cases q : c < 400
  · refine Or.inl ⟨q, le_X6_countNode en _ _ _ ?_⟩
    rw [hc, if_pos (by rw [n_gt (by decide) (by omega)]; exact q), nm_eq, show nI c + (1 : Int32) = nI (c + 1) from n_ar]
  · refine Or.inr ⟨by omega, le_X6_countNode en _ _ _ ?_⟩
    rw [hc, if_neg (by rw [n_gt (by decide) (by omega)]; exact q), x_blame, bV_some]
end SGR

