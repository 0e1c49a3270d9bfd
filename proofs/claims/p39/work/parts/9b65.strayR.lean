/-! THE READER: a word that can't stand in an expression of a line, on both sides. -/
section STR
variable {en : pN} {d d' v k i c n nc nl nt p : Nat} {V cl : Nat → Nat} {U : Nat → Nat → Nat} {s t : qS} {B : Nat → Nat}
/-- a word is worth more than nothing -/
theorem word_pos (hB : ∀ j, j < n → B j < 256) (hi : i < tkL B n) (hk : tkK B n i = 2 ∨ 300 ≤ tkK B n i) : (tkN B n i).2.2.1 ≠ 0 := by
  obtain ⟨-, hp, h, -⟩ := aL_next (n + 1) 0 i _ (by omega) (by omega) (tk_at (B := B) hi)
  have hk' : (aTok B n (tkN B n i).1).1 = 2 ∨ 300 ≤ (aTok B n (tkN B n i).1).1 := by rw [← h]; exact hk
  rw [h]
  generalize (tkN B n i).1 = p at *
  unfold aTok at hk' ⊢
  by_cases q1 : n ≤ p
  · rw [if_pos q1] at hk'
    rcases hk' with z | z <;> simp at z
  rw [if_neg q1] at hk' ⊢
  by_cases q2 : ltr (B p) = true
  · rw [if_pos q2] at hk' ⊢
    by_cases q3 : wnd wch B (n - p) p - p ≤ 8
    · rw [if_pos q3]
      show wnu wch 128 B (n - p) p 0 ≠ 0
      obtain ⟨m, hm⟩ : ∃ m, n - p = m + 1 := ⟨n - p - 1, by omega⟩
      have hw : wch (B p) = true := by unfold wch; rw [q2]; rfl
      rw [hm]
      unfold wnu
      rw [if_pos hw]
      have h1 := @wnu_ge B wch 128 m (p + 1) (128 * 0 + B p) (by decide)
      have h2 := wch_lt hw
      omega
    · rw [if_neg q3] at hk'
      rcases hk' with z | z <;> simp at z
  rw [if_neg q2] at hk' ⊢
  by_cases q4 : dgt (B p) = true
  · rw [if_pos q4] at hk'
    by_cases q5 : wnd dgt B (n - p) p - p ≤ 3
    · rw [if_pos q5] at hk'
      rcases hk' with z | z <;> simp at z
    · rw [if_neg q5] at hk'
      rcases hk' with z | z <;> simp at z
  · rw [if_neg q4] at hk'
    exfalso
    have hg : gkd (B p) (byt B n (p + 1)) ≠ 2 ∧ gkd (B p) (byt B n (p + 1)) < 300 := by
      have hb := hB p (by omega)
      unfold gkd
      repeat' split
      all_goals first | omega | (rename_i hs; have := sgn_rg hs; omega) | (rename_i hs _; have := sgn_rg hs; omega) | (rename_i hs _ _; have := sgn_rg hs; omega)
    rcases hk' with z | z
    · exact hg.1 z
    · exact absurd z (by have := hg.2; show ¬ 300 ≤ gkd (B p) (byt B n (p + 1)); omega)
end STR

