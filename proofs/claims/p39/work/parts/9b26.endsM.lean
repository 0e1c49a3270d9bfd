/-! CHANCES, the model's side: a drawn run. -/
/-- what drawn runs may change on the model's side -/
abbrev dmF (σ σ' : qS) : Prop := (∀ c, c ≠ 190 → c ≠ 231 → σ'.1 c = σ.1 c) ∧ σ'.2 = σ.2
abbrev dmG (F F' : fI) : Prop := ∀ j, j < 58 ∨ j = 61 ∨ 74 ≤ j → F' j = F j
section CHE
variable {en : pN} {d nc nl nt n t k r m o q u : Nat} {P : Nat → fI} {σ σ' σ'' s : qS} {F F' F'' N sr y g : fI} {D : Int64} {L : Nat → Nat} {X : xT}
theorem dmF.rf : dmF σ σ := ⟨fun _ _ _ => rfl, rfl⟩
theorem dmF.tr (h : dmF σ σ') (g : dmF σ' σ'') : dmF σ σ'' := ⟨fun c a b => (g.1 c a b).trans (h.1 c a b), g.2.trans h.2⟩
theorem dmG.tr (h : dmG F F') (g : dmG F' F'') : dmG F F'' := fun j hj => (g j hj).trans (h j hj)
end CHE

