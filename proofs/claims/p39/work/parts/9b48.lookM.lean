/-! JUDGING, the model's side: lookWays. -/
/-- the model's search: what has been come to, what waits -/
abbrev srF (s s' : qS) : Prop := (∀ c, c ≠ 235 → c ≠ 237 → s'.1 c = s.1 c) ∧ s'.2 = s.2
section LKM
variable {en : pN} {d N v u e nt no z p : Nat} {A E T M st : Nat → Nat} {s s' s'' σ : qS} {W B R H H' : Nat → Bool} {fr c1 : Bool} {y2 : Int32}
theorem srF.tr' (h : srF s s') (g : srF s' s'') : srF s s'' := ⟨fun c a b => (g.1 c a b).trans (h.1 c a b), g.2.trans h.2⟩
end LKM

