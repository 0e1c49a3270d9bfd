/-! SWITCHES, the model's side: the queue. -/
section MW3
variable {en : pN} {d w nc nl nt n D D' v f m b t e k l oN : Nat} {P : Nat → fI} {s s' s'' τ : qS} {X : xT} {T T' Q Q' G G' : Nat → Nat} {x : Option Nat} {N : fI}
/-- what stands when the queue is empty -/
abbrev mwZ (P : Nat → fI) (w nt : Nat) (X : xT) (oN : Nat) (T G : Nat → Nat) : Prop := grT P w nt X 100000 (fun k l => T (5 * k + l)) ∧ (∀ v, v < 5 * xN X → T v ≠ 100000 → endC P w (xS X (v / 5)) nt = true → G (outN P w nt (xS X) (v / 5)) ≤ T v) ∧ (∀ o, o < oN → G o ≤ 100000 ∧ (G o = 100000 ∨ ∃ v, v < 5 * xN X ∧ endC P w (xS X (v / 5)) nt = true ∧ outN P w nt (xS X) (v / 5) = o ∧ T v ≤ G o ∧ T v ≠ 100000)) ∧ T 4 = 0 ∧ ∀ k, 1 ≤ k → k < xN X → T (5 * k + 4) = 100000
end MW3

