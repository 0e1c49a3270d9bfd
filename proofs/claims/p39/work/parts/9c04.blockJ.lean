/-! THE READER: the blocks of an if or a while on both sides. -/
section BLJ
variable {en : pN} {d d' k b i i' n N N0 N' j x y r m m' u F p nc nl nt D D2 m0 m1 key key' un : Nat} {V cl cl0 cl' cl'' th th0 th' th'' K K0 K' K'' : Nat → Nat} {U U' : Nat → Nat → Nat} {s s' s'' s0 t t' t'' t0 t1 : qS} {B : Nat → Nat} {v w dp pa pt lv ow kk kk' la laM o q : Int32} {lo : Option Nat} {bl bl0 bl' bl'' : Nat → List Nat} {L : List Nat}
theorem x_116 (hm : cL s B n i) (hk : 2 ≤ k ∧ k < 2 ^ 31) : (tkK B n i ≠ k → ∀ D, qev en (D + 1) 116 [.ref 65, .int (nI k)] s = some (some (.int 0), s)) ∧ (tkK B n i = k → ∀ D s', qev en D 167 [.ref 1] s = some (none, s') → qev en (D + 1) 116 [.ref 65, .int (nI k)] s = some (some (.int 1), s')) := by
  obtain ⟨hi, c1, -, -⟩ := cL_at hm
  have hx := tkK_lt (B := B) hi
  refine ⟨fun h D => le_X6_skip en _ _ _ _ ?_, fun h D s' e => le_X6_skip en _ _ _ _ ?_⟩
  · rw [if_pos (by rw [c1, n_EQ (by omega) (by omega)]; exact h)]
    refine le_X6_skip_16 en _ _ _ _ ?_
    rw [if_pos rfl, gd_true (Or.inl rfl)]
  · rw [if_neg (by rw [c1, h]; exact not_not_intro rfl)]
    refine le_X6_skip_16 en _ _ _ _ ?_
    rw [if_neg (by decide), e, bV_some, gd_true (Or.inr rfl)]
end BLJ

