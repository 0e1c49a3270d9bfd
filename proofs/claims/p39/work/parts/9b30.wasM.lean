/-! SOUND, the model's side: outcomes that were, and whether one was. -/
abbrev frW9 (s s' : qS) : Prop := (∀ c, c ≠ 247 → c ≠ 248 → c ≠ 249 → s'.1 c = s.1 c) ∧ s'.2 = s.2
section SNM
variable {en : pN} {d w nc nl nt n n2 i k f : Nat} {P P2 : Nat → fI} {s s' s'' τ : qS} {X X2 : xT} {N M : fI} {v1 : Int32}
theorem frW9.rf : frW9 s s := ⟨fun _ _ _ _ => rfl, rfl⟩
theorem frW9.tr (h : frW9 s s') (g : frW9 s' s'') : frW9 s s'' := ⟨fun c a b e => (g.1 c a b e).trans (h.1 c a b e), g.2.trans h.2⟩
/-! whether one was -/
end SNM

