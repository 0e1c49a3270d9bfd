/-! THE READER: an expression on both sides: what laws ask of threads and locks. -/
def askO (v1 : Int32) : Int32 := if v1 = 331 then 2 else 3
def askQ (v1 v2 : Int32) : Int32 := if v1 = 331 then ((40 : Int32) + v2) - (8 : Int32) else ((v2 - (12 : Int32)) * (8 : Int32)) + (if v1 = 328 then 4 else if v1 = 329 then 5 else 2)
section EXF
variable {en : pN} {d d' k K q bs u n i i' ct ct' m m' m0 c c' c0 k' nc nl nt a b z dp F p x : Nat} {lw : Bool} {V cl cl' : Nat → Nat} {U U' : Nat → Nat → Nat} {pl pl' : Nat → Nat} {s s' s'' t t' t'' : qS} {B : Nat → Nat} {O Q M W v w v1 v2 v3 v4 v5 a2 : Int32}
/-- the class: the name that is asked for, put -/
theorem x_80 (hq : q = 7 ∨ q = 61) (h7 : s'.2.2 65 7 = q + 1) (h : qev en (d + 1) 115 [.ref 65, .int (2 : Int32)] s = some (none, s')) (g : qev en (d + 1) 76 [.ref q, .int (askO v1), .int (askQ v1 v2)] s' = some (none, s'')) : L_X6_readAsked_80 en (d + 1) v1 v2 s = some (none, s'') := by
  have hlc : lc q = 4 := by rcases hq with rfl | rfl <;> rfl
  refine le_X6_readAsked_80 en _ _ _ _ _ ?_
  rw [h, bV_some]
  unfold askO askQ at g
  by_cases q1 : v1 = 331
  · rw [if_neg (not_not_intro q1), h7, Nat.add_sub_cancel, gd_true ⟨by omega, hlc⟩, nm_eq]
    rw [if_pos q1, if_pos q1] at g
    rw [g, bV_some]
  · rw [if_pos q1]
    rw [if_neg q1, if_neg q1] at g
    have f133 : ∀ y, qev en (d + 1) 76 [.ref q, .int (3 : Int32), .int (((v2 - (12 : Int32)) * (8 : Int32)) + y)] s' = some (none, s'') → L_X6_readAsked_133 en (d + 1) v2 y s' = some (none, s'') := fun y hy => by
      refine le_X6_readAsked_133 en _ _ _ _ _ ?_
      rw [h7, Nat.add_sub_cancel, gd_true ⟨by omega, hlc⟩, nm_eq, hy, bV_some]
    by_cases q2 : v1 = 328
    · rw [if_neg (not_not_intro q2)]
      rw [if_pos q2] at g
      exact f133 _ g
    · rw [if_pos q2]
      rw [if_neg q2] at g
      by_cases q3 : v1 = 329
      · rw [if_neg (not_not_intro q3)]
        rw [if_pos q3] at g
        exact f133 _ g
      · rw [if_pos q3]
        rw [if_neg q3] at g
        exact f133 _ g
/-- the class, behind a name looked up -/
noncomputable abbrev askB (en : pN) (d : Nat) (a1 : Int32) (s2 : qS) : Option qR := bI (qev en d 84 [.ref 11, .long (s2.2.1 1 11)] s2) (fun w5 s6 => if ¬ a1 = (331 : Int32) then bI (qev en d 87 [.int w5] s6) (fun w9 s10 => L_X6_readAsked_59 en d a1 w5 w9 s10) else bI (qev en d 86 [.int w5] s6) (fun w12 s13 => L_X6_readAsked_59 en d a1 w5 w12 s13))
theorem x_isThread {w : Int32} : qev en (d + 1) 87 [.int w] s = some (some (.int (if w < 12 then 0 else 1)), s) := by
  refine le_X5_isThread en _ _ _ _ ?_
  by_cases h : w < 12
  · rw [if_pos h, if_pos h]
  · rw [if_neg h, if_neg h]
theorem x_isLock {w : Int32} : qev en (d + 1) 86 [.int w] s = some (some (.int (if w < 8 then 0 else if 12 ≤ w then 0 else 1)), s) := by
  refine le_X5_isLock en _ _ _ _ ?_
  by_cases h : w < 8
  · rw [if_pos h, if_pos h]
  · rw [if_neg h, if_neg h]
    by_cases h' : 12 ≤ w
    · rw [if_pos h', if_pos h']
    · rw [if_neg h', if_neg h']
theorem x_askB {w5 : Int32} (h84 : qev en (d + 1) 84 [.ref 11, .long (s.2.1 1 11)] s = some (some (.int w5), s)) {r : qR} (g : L_X6_readAsked_59 en (d + 1) v1 w5 (if v1 = 331 then (if w5 < 8 then 0 else if 12 ≤ w5 then 0 else 1) else (if w5 < 12 then 0 else 1)) s = some r) : askB en (d + 1) v1 s = some r := by
  show bI _ _ = _
  rw [h84, bI_some]
  by_cases q1 : v1 = 331
  · rw [if_neg (not_not_intro q1), x_isLock, bI_some]
    rw [if_pos q1] at g; exact g
  · rw [if_pos q1, x_isThread, bI_some]
    rw [if_neg q1] at g; exact g
end EXF

