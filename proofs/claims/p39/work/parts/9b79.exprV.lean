/-! THE READER: an expression on both sides: levels. -/
def loL (l : Nat) : Nat := if l = 2 then 4 else l + 1
section EXV
variable {en : pN} {d d' k K q bs u n i i' ct ct' m m' m0 c c' c0 k' nc nl nt a b z h dp F p x j r l l0 y f D e : Nat} {lw : Bool} {V cl cl' : Nat → Nat} {U U' : Nat → Nat → Nat} {pl pl' : Nat → Nat} {s s' s'' t t' t'' : qS} {B : Nat → Nat} {O Q M W v w v1 v2 v3 v4 v5 a2 : Int32}
/-- behind a fault no side -/
theorem x_deadSide (h : dX s F p) (hl : l ≤ 5) (hD : 16 ≤ D) {a : Int32} : ∃ s', qev en D 135 [.ref 65, .int (nI l), .int a] s = some (none, s') ∧ bmF s s' ∧ dX s' F p := by
  by_cases q5 : l = 5
  · obtain ⟨e, rfl⟩ : ∃ e, D = e + 3 := ⟨D - 3, by omega⟩
    refine ⟨bmS s 2, le_X6_readSide en _ _ _ _ _ ?_, bmS_F, bmS_dead h⟩
    rw [if_pos (by rw [q5]; decide), x_deadOne h, bV_some]
  · obtain ⟨e, rfl⟩ : ∃ e, D = e + 2 * (4 - l) + 4 + 1 := ⟨D - 2 * (4 - l) - 5, by omega⟩
    obtain ⟨s', y1, y2, y3⟩ := x_deadLevel (en := en) (d := e) (a := a) (4 - l) l s (by omega) h
    refine ⟨s', le_X6_readSide en _ _ _ _ _ ?_, y2, y3⟩
    rw [if_neg (by rw [n_le (by decide) (by omega)]; omega), y1, bV_some]
theorem rxF.lo (h : rxF lw q m' s s') (hm : m ≤ m') : rxF lw q m s s' := ⟨h.1, h.2.1, h.2.2.1, fun j hj => h.2.2.2.1 j (by omega), h.2.2.2.2⟩
theorem nd1_eq {O' Q' M' W' : Int32} (h : nd1 lw u O Q M W) (e1 : O' = O) (e2 : Q' = Q) (e3 : M' = M) (e4 : W' = W) : nd1 lw u O' Q' M' W' := by rw [e1, e2, e3, e4]; exact h
theorem rxF_ct3 (hq : q = 7 ∨ q = 61) : (uI s 65 13 v).1 q 3 = s.1 q 3 := by rw [uI_ne (by omega)]
end EXV

