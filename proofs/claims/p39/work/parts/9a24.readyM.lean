/-! THE RUN, the model's side: which steps are ready now. -/
section RD
variable {P N : Nat → fI} {M : fI} {w nc nl nt n : Nat}
theorem rdT_mem {P : Nat → fI} {N : fI} {t z : Nat} (h9 : chs P w N t nt ≤ 9) : z ∈ rdT P w N nt t ↔ ∃ ch, ch < 10 ∧ z = 10 * t + ch ∧ (ch < chs P w N t nt ∨ ch = 9 ∧ ¬ N (56 + t) = 0) := by
  unfold rdT
  rw [List.mem_append, List.mem_map]
  constructor
  · rintro (⟨k, hk, e⟩ | q)
    · have := List.mem_range.mp hk
      exact ⟨k, by omega, e.symm, Or.inl this⟩
    · by_cases h : N (56 + t) = 0
      · rw [if_pos h] at q; exact absurd q List.not_mem_nil
      · rw [if_neg h, List.mem_singleton] at q
        exact ⟨9, by decide, q, Or.inr ⟨rfl, h⟩⟩
  · rintro ⟨ch, h10, e, q | ⟨q, h⟩⟩
    · exact Or.inl ⟨ch, List.mem_range.mpr q, e.symm⟩
    · rw [if_neg h]
      exact Or.inr (List.mem_singleton.mpr (by omega))
theorem rdl_mem {P : Nat → fI} {N : fI} (hP : PV P nc nl nt n) (hS : SV P w nc nl nt n N) : ∀ (T : Nat), T ≤ nt → ∀ t ch, ch < 10 → (10 * t + ch ∈ rdl P w N nt T ↔ t < T ∧ rdS P w N t ch nt) := by
  intro T
  induction T with
  | zero =>
    intro _ t ch _
    exact ⟨fun z => absurd z List.not_mem_nil, fun z => absurd z.1 (Nat.not_lt_zero _)⟩
  | succ T ih =>
    intro hT t ch hch
    show 10 * t + ch ∈ rdl P w N nt T ++ rdT P w N nt T ↔ _
    rw [List.mem_append, ih (by omega) t ch hch, rdT_mem (ch_le hP hS (show T < nt by omega))]
    constructor
    · rintro (⟨a, b⟩ | ⟨c, hc, e, q⟩)
      · exact ⟨by omega, b⟩
      · have h1 : t = T := by omega
        have h2 : ch = c := by omega
        subst h1 h2
        exact ⟨by omega, by omega, q⟩
    · rintro ⟨a, b⟩
      by_cases q : t = T
      · subst q
        exact Or.inr ⟨ch, hch, rfl, b.2⟩
      · exact Or.inl ⟨by omega, b⟩
end RD
section RN2
variable {en : pN} {d w nc nl nt n : Nat} {a b : Int32} {s : qS} {P : Nat → fI} {N R : fI}
variable {σ : qS} {K W F y gg : fI} {s' : fI} {g : Nat → fI} {X : fJ} {D : Int64}
end RN2

