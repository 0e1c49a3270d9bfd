/-! ALL TURNS, the model's side: findings in a state. -/
abbrev fMd (σ σ' : qS) (F F' : fI) : Prop := (∀ c, c ≠ 223 → c ≠ 224 → σ'.1 c = σ.1 c) ∧ σ'.2 = σ.2 ∧ ∀ j, j ≠ 62 → F' j = F j
section MFi
variable {en : pN} {d w nc nl nt n vv t k i l u : Nat} {σ : qS} {P : Nat → fI} {F s y g N T0 T g0 : fI} {D : Int64} {τ : qS} {Q : Nat → Prop} {sv : Int32}
theorem fMd.tr {σ σ' σ'' : qS} {F F' F'' : fI} (h : fMd σ σ' F F') (g : fMd σ' σ'' F' F'') : fMd σ σ'' F F'' := ⟨fun c h1 h2 => (g.1 c h1 h2).trans (h.1 c h1 h2), g.2.1.trans h.2.1, fun j hj => (g.2.2 j hj).trans (h.2.2 j hj)⟩
end MFi

