/-! ALL TURNS, the model's side: the states one after another. -/
section MR2
variable {en : pN} {d w nc nl nt n t u k a l : Nat} {P : Nat → fI} {v1 v2 : Int32} {σ σ' : qS} {F F' s y g N : fI} {D : Int64} {x : xT} {fw : Bool}
theorem fRm.tr {σ σ' σ'' : qS} {F F' F'' : fI} (h : fRm σ σ' F F') (g : fRm σ' σ'' F' F'') : fRm σ σ'' F F'' := ⟨fun c h1 h2 => (g.1 c h1 h2).trans (h.1 c h1 h2), fun j h1 h2 h3 h4 h5 => (g.2.1 j h1 h2 h3 h4 h5).trans (h.2.1 j h1 h2 h3 h4 h5), g.2.2.trans h.2.2⟩
end MR2

