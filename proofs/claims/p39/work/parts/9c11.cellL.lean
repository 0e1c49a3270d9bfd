/-! THE READER: cells, locks, threads declared, on both sides. -/
section RDC
variable {en : pN} {d d' k i i' n N j x y c u v q nc nc' nl nl' nt nt' m D : Nat} {V V' cl cl' th K : Nat → Nat} {U : Nat → Nat → Nat} {bl : Nat → List Nat} {s s' s'' t t' t'' : qS} {B : Nat → Nat} {w z : Int32} {W : Int64}
theorem x_addCell (h9 : s.1 11 9 = nI c) (hc : c < 8) : qev en (d + 1) 95 [.ref 11, .long (Int64.ofNat v)] s = some (some (.int (nI c)), ncX s c v) := by
  have e11 : lc 11 = 5 := rfl
  refine le_X5_addCell en _ _ _ _ _ ?_
  rw [gd_true e11, h9, gd_in (by omega) (by decide), n_cl (by omega), nm_eq, show (uJ s (11 + 1) c (Int64.ofNat v)).1 11 9 = nI c from h9, gd_in (by omega) (by decide), n_cl (by omega), nm_eq, show (uI (uJ s (11 + 1) c (Int64.ofNat v)) (11 + 4) c 0).1 11 9 = nI c from by rw [uI_ne (by decide)]; exact h9, show nI c + (1 : Int32) = nI (c + 1) from n_ar, nm_eq]
  have e : (ncX s c v).1 11 9 - (1 : Int32) = nI c := by
    rw [show (ncX s c v).1 11 9 = nI (c + 1) from rdW]
    exact n_sr (by omega)
  show some (some (Value.int ((ncX s c v).1 11 9 - (1 : Int32))), ncX s c v) = _
  rw [e]
theorem tqX_nc : tqX s (ncX s c v) := (((tqX.uj (Or.inl rfl)).tr (tqX.ui (by decide))).tr (tqX.ui (by decide)))
theorem tqX_nl : tqX s (nlX s c v) := ((tqX.uj (Or.inl rfl)).tr (tqX.ui (by decide)))
theorem tqX_nt : tqX s (ntX s c v) := ((((tqX.uj (Or.inl rfl)).tr (tqX.ui (by decide))).tr (tqX.ui (by decide))).tr (tqX.uf (by decide)))
end RDC

