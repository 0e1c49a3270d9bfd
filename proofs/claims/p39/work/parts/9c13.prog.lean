/-! THE READER: all declarations of a program on both sides. -/
section RDP
variable {en : pN} {d d' k i i' n N j x y c u v q nc nc' nl nl' nt nt' m D b : Nat} {V V' cl cl' th K : Nat → Nat} {U : Nat → Nat → Nat} {bl : Nat → List Nat} {s s' s'' t t' t'' : qS} {B : Nat → Nat} {w z v1 : Int32} {W : Int64} {F p : Nat}
/-! behind a fault -/
theorem xD_118 (h : dX s F p) : qev en (d + 2) 118 [.ref 65, .int v1, .int w] s = some (some (.int 0), bmS s 2) := by
  refine le_X6_isNewName en _ _ _ _ _ ?_
  rw [if_neg (dX_2 h), x_blame, bV_some]
  refine le_X6_isNewName_54 en _ _ _ ?_
  rw [if_pos (by rw [bmS_0]; decide)]
theorem xD_119 (h : dX s F p) : qev en (d + 3) 119 [.ref 65] s = some (none, bmS s 2) := by
  refine le_X6_readCell en _ _ _ ?_
  rw [xD_118 h, bI_some, if_neg (not_not_intro rfl)]
theorem xD_120 (h : dX s F p) : qev en (d + 3) 120 [.ref 65] s = some (none, bmS s 2) := by
  refine le_X6_readLock en _ _ _ ?_
  rw [xD_118 h, bI_some, if_pos rfl]
theorem xD_121 (h : dX s F p) : qev en (d + 3) 121 [.ref 65] s = some (none, bmS s 2) := by
  refine le_X6_readThread en _ _ _ ?_
  rw [xD_118 h, bI_some, if_pos rfl]
theorem xD_21 (h : dX s F p) (hv : v + 1 < 4000) : ∃ s', (∀ r, L_X6_readProgram_100 en (d + 3) s' = some r → L_X6_readProgram_21 en (d + 3) (nI v) s = some r) ∧ bmF s s' ∧ s'.1 65 11 = nI F ∧ s'.1 65 12 = nI p ∧ F ≠ 0 ∧ F < 16 := by
  have go : ∀ (s : qS) (v : Nat), v < 4000 → s.1 1 9 = 0 → ∀ r, L_X6_readProgram_100 en (d + 3) s = some r → L_X6_readProgram_21 en (d + 3) (nI v) s = some r := fun s v hv h0 r hr => by
    refine le_X6_readProgram_21 en _ _ _ _ ?_
    rw [if_neg (by rw [n_le (by decide) (by omega)]; omega), if_pos h0]
    exact hr
  rcases id h with ⟨a1, a2, a3, a4, a5⟩ | ⟨a1, a2, a3, a4⟩
  · exact ⟨s, go s v (by omega) a1, bmF.rf, a2, a3, a4, a5⟩
  · have h2 : dX (bmS s 2) F p := bmS_dead h
    have h0 : (bmS s 2).1 1 9 = 0 := bmS_0
    rcases h2 with ⟨b1, b2, b3, b4, b5⟩ | ⟨b1, _⟩
    · refine ⟨bmS s 2, fun r hr => le_X6_readProgram_21 en _ _ _ _ ?_, bmS_F, b2, b3, b4, b5⟩
      rw [if_neg (by rw [n_le (by decide) (by omega)]; omega), if_neg (by rw [a1]; decide)]
      rw [show qev en (d + 3) 116 [.ref 65, .int (317 : Int32)] s = _ from x_deadSkip (d := d + 2) (m := 317) h ⟨by decide, by decide⟩, bI_some, if_pos rfl]
      rw [show qev en (d + 3) 116 [.ref 65, .int (302 : Int32)] s = _ from x_deadSkip (d := d + 2) (m := 302) h ⟨by decide, by decide⟩, bI_some, if_pos rfl]
      rw [show qev en (d + 3) 116 [.ref 65, .int (319 : Int32)] s = _ from x_deadSkip (d := d + 2) (m := 319) h ⟨by decide, by decide⟩, bI_some, if_pos rfl, x_blame, bV_some, show nI v + (1 : Int32) = nI (v + 1) from n_ar]
      exact go _ (v + 1) hv h0 r hr
    · rw [h0] at b1; exact absurd b1 (by decide)
end RDP

