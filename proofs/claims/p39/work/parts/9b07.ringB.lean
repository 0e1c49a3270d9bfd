/-! RINGS and lost ends, both sides. -/
section RG2
variable {en : pN} {d d' w nc nl nt n p k t i m vv : Nat} {P : Nat → fI} {S : Nat → fI} {τ σ ρ : qS} {X : xT} {fw : Bool} {F F0 s y g N : fI} {D : Int64} {a : Int32}
theorem bl_v (hv : ∀ u, u < nt → hopS P N u = -1 ∨ ∃ e, e < nt ∧ hopS P N u = nI e) (ht : t < nt) : blS P N t = -2 ∨ ∃ e, e < nt ∧ blS P N t = nI e := by
  unfold blS
  rcases hv t ht with h | ⟨e, he, h⟩
  · rw [h]; exact Or.inl rfl
  · rw [h]
    split
    · exact Or.inl rfl
    · exact Or.inr ⟨e, he, rfl⟩
/-- the least thread of a ring, told by the model -/
def mlF (P : Nat → fI) (N : fI) : Nat → Nat → Option Nat
  | 0, _ => none
  | m + 1, t => if mrF P N t 4 (blS P N t) = true then some t else mlF P N m (t + 1)
abbrev opI (o : Option Nat) : Int32 := match o with
  | some t => nI t
  | none => -2
theorem ml_eq (hnt : nt ≤ 4) (hv : ∀ u, u < nt → hopS P N u = -1 ∨ ∃ e, e < nt ∧ hopS P N u = nI e) (hs : ∀ u, u < nt → ¬ hopS P N u = nI u) : ∀ m t, t + m = nt → mlF P N m t = lrF P N m t := by
  intro m
  induction m with
  | zero => intro t _; rfl
  | succ m ih =>
    intro t ht
    show (if mrF P N t 4 (blS P N t) = true then some t else mlF P N m (t + 1)) = if rngF P N t 4 (nI t) = true then some t else lrF P N m (t + 1)
    rw [ring_eq hnt (by omega) hv hs, ih (t + 1) (by omega)]
/-- the fields of a state at hand -/
abbrev tkF (w : Nat) (F : fI) : fI := upd (upd (upd F 59 2) 58 (nI w)) 60 (nI (wid w))
theorem tkF_o {j : Nat} (h1 : j ≠ 58) (h2 : j ≠ 59) (h3 : j ≠ 60) : tkF w F j = F j := by
  show upd (upd (upd F 59 2) 58 (nI w)) 60 (nI (wid w)) j = F j
  rw [pk_un h3, pk_un h1, pk_un h2]
end RG2

