/-! A PROGRAM OF BOTH, once its ways are laid. -/
/-- below this the nodes are the program's own -/
def lmR (r : Nat) : Nat := if r = 11 then 400 else 500
/-- the rows of the class's program r -/
def rdP (s : qS) (r : Nat) : Nat → fI := fun a => if a = 25 then s.1 8 else if a = 26 then s.1 9 else if a = 27 then fun _ => nI (lmR r) else s.1 (r + a)
/-- names and numbers -/
abbrev cnF (r : Nat) (s t : qS) (nc nl nt N : Nat) (cl : Nat → Nat) : Prop := ((s.1 r 9 = nI nc ∧ nc ≤ 8) ∧ (s.1 r 10 = nI nl ∧ nl ≤ 4) ∧ (s.1 r 11 = nI nt ∧ nt ≤ 4) ∧ s.1 r 12 = nI N ∧ N ≤ 100) ∧ (∀ u, u < nt → s.1 (r + 3) u = nI (cl u) ∧ cl u ≤ 6) ∧ (∀ c, c < nc → t.1 154 c = s.1 (r + 4) c ∧ t.1 155 c = bt ((s.1 r 7).toBitVec.getLsbD c)) ∧ ∀ u, u < nt → t.1 158 u = bt ((s.1 r 8).toBitVec.getLsbD u)
section PMB
variable {en : pN} {d d' k i n N j r v u m nc nl nt : Nat} {cl th : Nat → Nat} {s s' t t' : qS} {a b A E A' E' : Int32}
theorem lmR_le : lmR r ≤ 500 := by
  unfold lmR
  split <;> decide
theorem lm_rd : lmN (rdP s r) = lmR r := n_cl (by have := @lmR_le r; omega)
end PMB

