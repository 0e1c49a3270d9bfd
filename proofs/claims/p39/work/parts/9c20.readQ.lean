/-! THE READER: a whole program on both sides: its end. -/
/-- what reading changes of the model -/
def pgJ (j : Nat) : Bool := wmJ j || [1, 9, 10, 11, 27].contains j
section RPQ
variable {en : pN} {d d' k i n N j r v u m nc nl nt q : Nat} {V cl th K : Nat → Nat} {U : Nat → Nat → Nat} {bl : Nat → List Nat} {s s' s'' t t' t'' : qS} {B : Nat → Nat} {w : Int32} {F p : Nat}
theorem pgJ_wm (h : pgJ j = false) : wmJ j = false := by
  unfold pgJ at h
  cases hw : wmJ j
  · rfl
  · rw [hw] at h; cases h
/-- the class behind its declarations, with a fault -/
theorem x_100D (h : s.1 65 11 = nI F) (hF : F ≠ 0) (hF2 : F < 16) : L_X6_readProgram_100 en (d + 2) s = some (none, uI s 11 13 (s.1 65 13)) := by
  have h' : (uI s 11 13 (s.1 65 13)).1 65 11 = nI F := by rw [uI_ne (by decide)]; exact h
  have n0 : ¬ nI F = (0 : Int32) := by rw [n_eq (by decide) (by omega)]; exact hF
  refine le_X6_readProgram_100 en _ _ _ ?_
  have e : qev en (d + 2) 132 [.ref 65] (uI s 11 13 (s.1 65 13)) = some (none, uI s 11 13 (s.1 65 13)) := by
    refine le_X6_aimThreads en _ _ _ (le_X6_aimThreads_2 en _ _ _ _ ?_)
    by_cases y : (uI s 11 13 (s.1 65 13)).1 11 12 ≤ (0 : Int32)
    · rw [if_pos y]
    · rw [if_neg y, h', if_pos n0]
  rw [nm_eq, e, bV_some, h', if_pos n0]
end RPQ

