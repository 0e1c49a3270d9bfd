/-! THE RUN: a turn, both sides, its thread too. -/
section BT2
variable {σ σ' τ τ' : qS} {p w nc nl nt n len t ch : Nat} {P f g : Nat → fI} {N : fI} {u v r r' : Int32}
theorem turn_alike2 (hx : trX τ p P w N nt len f u v r τ') (hm : trM σ P w N nc nl nt n len g u v r' σ') (hP : PV P nc nl nt n) (hS : SV P w nc nl nt n N) (hw2 : w ≤ 2) (hs : ∀ i, i < len → sR P n f g i) (hth : ∀ i, i < len → ∃ t, t < nt ∧ f 0 i = nI t) : r = r' ∧ ((RXi τ' p P w N len f ∧ RMi σ' P w N nc nl nt n len g) ∨ (len < 200 ∧ ∃ (N' : fI) (f' g' : Nat → fI), SV P w nc nl nt n N' ∧ RXi τ' p P w N' (len + 1) f' ∧ RMi σ' P w N' nc nl nt n (len + 1) g' ∧ (∀ i, i < len + 1 → sR P n f' g' i) ∧ ∀ i, i < len + 1 → ∃ t, t < nt ∧ f' 0 i = nI t)) := by
  have ht4 := hP.2.2.1.2
  obtain ⟨-, hx⟩ := hx
  obtain ⟨-, hm⟩ := hm
  rcases hx with ⟨hn, rfl, hx⟩ | ⟨t, ch, ⟨rfl, rfl, hch, hr⟩, hx⟩
  · rcases hm with ⟨-, rfl, hm⟩ | ⟨t, ch, hh, -⟩
    · exact ⟨rfl, Or.inl ⟨hx, hm⟩⟩
    · exact absurd ⟨t, ch, hh⟩ hn
  · rcases hm with ⟨hn, -⟩ | ⟨t', ch', ⟨et, ec, hch', hr'⟩, hm⟩
    · exact absurd ⟨t, ch, rfl, rfl, hch, hr⟩ hn
    · have h1 := hr.1
      have h2 := hr'.1
      have e1 : t = t' := (nI_eq (by omega) (by omega)).mp et
      have e2 : ch = ch' := (nI_eq (by omega) (by omega)).mp ec
      subst e1 e2
      rcases hx with ⟨h200, rfl, hx⟩ | ⟨h200, rfl, told, ht, hx⟩
      · rcases hm with ⟨-, rfl, hm⟩ | ⟨h, -⟩
        · exact ⟨rfl, Or.inl ⟨hx, hm⟩⟩
        · omega
      · rcases hm with ⟨h, -⟩ | ⟨-, rfl, F1, ⟨a1, a2, a3, a4⟩, hm⟩
        · omega
        · refine ⟨rfl, Or.inr ⟨h200, _, _, _, SV_stp hP hS hw2 hr hch, hx, hm, fun i hi => ?_, fun i hi => ?_⟩⟩
          · by_cases q : i = len
            · subst q
              exact sR_new hP hS hr a1 a2 a3 a4 ht
            · exact sR_cg (fun r => stR_o q) (fun r => stR_o q) (hs i (by omega))
          · by_cases q : i = len
            · subst q
              rw [stR_n (by decide)]
              exact ⟨t, h1, rfl⟩
            · rw [stR_o q]
              exact hth i (by omega)
end BT2
