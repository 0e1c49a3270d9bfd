/-! ALL TURNS, both sides: explore. -/
abbrev frEx (p : Nat) (τ τ' : qS) : Prop := (∀ c, c < 70 ∨ 99 ≤ c → c ≠ 7 → c ≠ 10 → c ≠ 0 → τ'.1 c = τ.1 c) ∧ (∀ j, j ≠ 11 → τ'.1 0 j = τ.1 0 j) ∧ (∀ a, a ≠ 84 → a ≠ 94 → τ'.2.1 a = τ.2.1 a) ∧ τ'.2.2 = (uR τ 71 7 (p + 1)).2.2 ∧ τ'.1 70 19 = 0
section EP
variable {en : pN} {d w nc nl nt n n' p : Nat} {P : Nat → fI} {τ σ : qS} {X : xT} {fw : Bool} {u : Int32}
end EP

