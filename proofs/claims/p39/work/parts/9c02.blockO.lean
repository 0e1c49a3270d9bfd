/-! THE READER: blocks on both sides: how they open, how they end. -/
section BLO
variable {en : pN} {d d' k b i i' n N N' j x y r m m' u F p nc nl nt D m0 key key' un : Nat} {V cl cl' cl'' th th' th'' K K' K'' : Nat → Nat} {U U' : Nat → Nat → Nat} {s s' s'' s0 t t' t'' t0 t1 : qS} {B : Nat → Nat} {v w dp pa pt lv ow kk kk' la laM : Int32} {lo : Option Nat} {bl bl' bl'' : Nat → List Nat}
/-- the class's loop behind a fault -/
theorem xD_35 (h : dX s F p) {v5 : Int32} (h5 : ¬ (100 : Int32) < v5) : L_X6_readBlock_35 en (d + 3) dp pa pt la v5 s = some (none, bmS s 2) := by
  refine le_X6_readBlock_35 en _ _ _ _ _ _ _ _ ?_
  have e123 : qev en (d + 3) 123 [.ref 65] s = some (some (.int 0), bmS s 2) := by
    refine le_X6_mayBegin en _ _ _ ?_
    rw [if_pos (dX_2 h)]
    refine le_X6_mayBegin_16 en _ _ _ _ ?_
    rw [if_pos rfl]
    refine le_X6_mayBegin_39 en _ _ _ _ _ ?_
    rw [if_neg (not_not_intro rfl), if_pos (by
      rcases dX_kind h with z | z <;> (rw [z]; decide))]
    refine le_X6_mayBegin_70 en _ _ _ ?_
    rw [x_blame, bV_some]
    refine le_X6_mayBegin_117 en _ _ _ ?_
    rw [if_pos bmS_0]
  rw [if_neg h5, if_neg (dX_125 h), e123, bI_some, if_neg (not_not_intro rfl)]
end BLO

