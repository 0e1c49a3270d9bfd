/-! THE MODEL'S MACHINE: leaves. -/
theorem upd_cm {f : fI} {a b : Nat} {x z : Int32} (h : a ≠ b) : upd (upd f a x) b z = upd (upd f b z) a x := by
  funext j
  by_cases h1 : j = b
  · rw [h1, pk_us, pk_un (Ne.symm h), pk_us]
  · rw [pk_un h1]
    by_cases h2 : j = a
    · rw [h2, pk_us, pk_us]
    · rw [pk_un h2, pk_un h2, pk_un h1]
def isL (P : Nat → fI) (t : Nat) : Bool := decide (¬ ((P 0 8 >>> (nI t &&& 31)) &&& (1 : Int32)) = 0)
/-- fields that a step may change -/
abbrev FE (F G : fI) : Prop := ∀ j, j < 62 ∨ 74 ≤ j → G j = F j
theorem FE.rf {F : fI} : FE F F := fun _ _ => rfl
theorem FE.tr {F G H : fI} (h : FE F G) (g : FE G H) : FE F H := fun j hj => (g j hj).trans (h j hj)
section ML
variable {en : pN} {d t i n top k K w e a c l u ch nc nl nt vv j : Nat} {v q x z : Int32} {σ : qS} {F s y g N : fI} {P : Nat → fI} {D : Int64}
end ML

