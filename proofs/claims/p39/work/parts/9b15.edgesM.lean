/-! SWITCHES, the model's side: the steps from a node. -/
/-- the tables of steps that the count reads -/
abbrev mwE (P : Nat → fI) (w nt : Nat) (X : xT) (s : qS) : Prop := (∀ e, e < xM X → s.1 219 e = nI (xE X e).1 ∧ s.1 220 e = nI (xE X e).2) ∧ (∀ i, i < xN X + 1 → s.1 218 i = nI (xA X i)) ∧ ∀ i, i < xN X → s.1 215 i = rdM P w (xS X i) nt nt ∧ s.1 216 i = bt (endC P w (xS X i) nt) ∧ s.1 217 i = if endC P w (xS X i) nt = true then nI (outN P w nt (xS X) i) else -2
section MW2
variable {en : pN} {d w nc nl nt n D D' v f m b t e k l oN : Nat} {P : Nat → fI} {s s' s'' τ : qS} {X : xT} {T T' Q Q' G G' : Nat → Nat} {x : Option Nat} {N : fI}
theorem mwE.fr (h : mwE P w nt X s) (g : mwF s s') : mwE P w nt X s' := ⟨fun e he => by rw [g.1 219 (by decide) (by decide) (by decide), g.1 220 (by decide) (by decide) (by decide)]; exact h.1 e he, fun i hi => by rw [g.1 218 (by decide) (by decide) (by decide)]; exact h.2.1 i hi, fun i hi => by rw [g.1 215 (by decide) (by decide) (by decide), g.1 216 (by decide) (by decide) (by decide), g.1 217 (by decide) (by decide) (by decide)]; exact h.2.2 i hi⟩
end MW2

