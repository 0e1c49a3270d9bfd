/-! ALL TURNS, both sides: schedules. -/
section SC
variable {en : pN} {d d' w nc nl nt n p o j : Nat} {P : Nat → fI} {τ σ : qS} {X : xT} {fw : Bool} {a q z : Int32}
theorem x_stateOf {t a : Nat} (ha : a < 40) (ht : t < 2 ^ 20) : qev en (d + 1) 187 [.int (nI (t * 64 + stN a))] τ = some (some (.int (nI t)), τ) := by
  refine le_X10_stateOf en _ _ _ _ ?_
  rw [ed_st ha ht]
theorem x_threadOf {t a : Nat} (ha : a < 40) (ht : t < 2 ^ 20) : qev en (d + 1) 188 [.int (nI (t * 64 + stN a))] τ = some (some (.int (nI (a / 10))), τ) := by
  refine le_X10_threadOf en _ _ _ _ ?_
  rw [ed_th ha ht]
end SC

