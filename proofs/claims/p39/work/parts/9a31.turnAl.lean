/-! THE RUN: a turn, both sides. -/
section BT
variable {σ σ' τ τ' : qS} {p w nc nl nt n len t ch : Nat} {P f g : Nat → fI} {N : fI} {u v r r' : Int32}
theorem sR_cg {f' g' : Nat → fI} {i : Nat} (hf : ∀ r, f' r i = f r i) (hg : ∀ r, g' r i = g r i) (h : sR P n f g i) : sR P n f' g' i := by
  show (_ ∧ _ ∧ _ ∧ _ ∧ _) ∧ _
  rw [hf, hf, hf, hf, hf, hf, hg, hg, hg, hg, hg, hg]
  exact h
theorem acA_20 (hP : PV P nc nl nt n) (hS : SV P w nc nl nt n N) (hr : rdS P w N t ch nt) (h9 : ch ≠ 9) : ∃ i, i < n ∧ N (4 + t) = nI i ∧ (acA P w N t ch nt = P 7 i ∨ acA P w N t ch nt = 19 ∨ acA P w N t ch nt = 21) ∧ acA P w N t ch nt ≠ 20 := by
  obtain ⟨i, hi, h4, h8⟩ := ln_rd hP hS hr h9
  have hn := hP.2.2.2.1.2
  obtain ⟨⟨hk, hkk⟩, -⟩ := hP.2.2.2.2.1 i hi
  have ec : clp (N (4 + t)) = i := by rw [h4]; exact n_clp (by omega)
  have e : acA P w N t ch nt = P 7 i ∨ acA P w N t ch nt = 19 ∨ acA P w N t ch nt = 21 := by
    unfold acA
    rw [if_neg h9]
    by_cases a : N t = 3
    · rw [if_pos a]; exact Or.inr (Or.inl rfl)
    · rw [if_neg a]
      split
      · exact Or.inr (Or.inr rfl)
      · rw [ec]; exact Or.inl hk.symm
  refine ⟨i, hi, h4, e, fun z => ?_⟩
  rcases e with q | q | q
  · rw [z, hk] at q
    have := (nI_eq (a := 20) (by decide) (by omega)).mp q
    omega
  · rw [z] at q; exact absurd q (by decide)
  · rw [z] at q; exact absurd q (by decide)
theorem sR_new {told : Int32} {F1 : fI} (hP : PV P nc nl nt n) (hS : SV P w nc nl nt n N) (hr : rdS P w N t ch nt) (h1 : F1 68 = lnA P N t ch) (h2 : F1 69 = acA P w N t ch nt) (h3 : ch ≠ 9 → F1 70 = P 9 (clp (N (4 + t)))) (h4 : acA P w N t ch nt = 15 ∨ acA P w N t ch nt = 16 → F1 71 = exr (exv P 5 N (clp (N (4 + t))))) (h5 : acA P w N t ch nt = 15 ∨ acA P w N t ch nt = 16 → told = exr (exv P 5 N (clp (N (4 + t))))) : sR P n (stR f len (stV P w N t ch nt told)) (stR g len (msV t ch F1)) len := by
  have hn := hP.2.2.2.1.2
  show (_ ∧ _ ∧ _ ∧ _ ∧ _) ∧ _
  rw [stR_n (by decide), stR_n (by decide), stR_n (by decide), stR_n (by decide), stR_n (by decide), stR_n (by decide), stR_n (by decide), stR_n (by decide), stR_n (by decide), stR_n (by decide), stR_n (by decide), stR_n (by decide)]
  show (nI t = nI t ∧ nI ch = nI ch ∧ lnA P N t ch = F1 68 ∧ acA P w N t ch nt = F1 69 ∧ (acA P w N t ch nt = 15 ∨ acA P w N t ch nt = 16 → told = F1 71)) ∧ ((acA P w N t ch nt = 20 ∧ lnA P N t ch = -2) ∨ (acA P w N t ch nt ≠ 20 ∧ (if ch = 9 then -2 else P 9 (clp (N (4 + t)))) = F1 70 ∧ ∃ l, l < n ∧ lnA P N t ch = nI l ∧ (if ch = 9 then -2 else P 9 (clp (N (4 + t)))) = P 9 l ∧ (acA P w N t ch nt = P 7 l ∨ acA P w N t ch nt = 19 ∨ acA P w N t ch nt = 21)))
  refine ⟨⟨rfl, rfl, h1.symm, h2.symm, fun z => (h5 z).trans (h4 z).symm⟩, ?_⟩
  by_cases h9 : ch = 9
  · refine Or.inl ⟨?_, ?_⟩
    · unfold acA; rw [if_pos h9]
    · unfold lnA; rw [if_pos h9]
  · obtain ⟨i, hi, e4, ea, e20⟩ := acA_20 hP hS hr h9
    have ec : clp (N (4 + t)) = i := by rw [e4]; exact n_clp (by omega)
    refine Or.inr ⟨e20, ?_, i, hi, ?_, ?_, ea⟩
    · rw [if_neg h9]; exact (h3 h9).symm
    · unfold lnA; rw [if_neg h9]; exact e4
    · rw [if_neg h9, ec]
end BT

