/-! ALL TURNS, the model's side: a step tried, done. -/
section MU
variable {en : pN} {d w nc nl nt n t u k a j l : Nat} {σ σ' τ : qS} {P : Nat → fI} {F F' s y g N : fI} {D : Int64} {x : xT} {v1 v2 v3 v5 v6 : Int32} {O : Nat → Nat → Bool} {z : Int32}
theorem fTm.tr {m m' : Nat} {σ σ' σ'' : qS} {F F' F'' : fI} (hm : m ≤ m') (h : fTm m σ σ' F F') (g : fTm m' σ' σ'' F' F'') : fTm m σ σ'' F F'' := ⟨fun c h1 h2 => (g.1 c h1 h2).trans (h.1 c h1 h2), fun i hi => ⟨((g.2.1 i (by omega)).1).trans (h.2.1 i hi).1, ((g.2.1 i (by omega)).2).trans (h.2.1 i hi).2⟩, fun j h1 h2 h3 => (g.2.2.1 j h1 h2 h3).trans (h.2.2.1 j h1 h2 h3), g.2.2.2.trans h.2.2.2⟩
theorem wid_w (hw2 : w ≤ 2) : wid w ≤ 213 ∧ (wid w ≤ 80 ∨ w = 2) := by
  unfold wid
  split
  · omega
  · split <;> omega
end MU

