/-! THE READER: an expression on both sides: one operand with its prefixes. -/
section EXN
variable {en : pN} {d d' k K q bs u n i i' ct ct' m m' m0 c c' c0 k' nc nl nt a b z h dp F p x j r l l0 y f D d0 e : Nat} {lw : Bool} {V cl cl' : Nat → Nat} {U U' : Nat → Nat → Nat} {pl pl' : Nat → Nat} {s s' s'' t t' t'' : qS} {B : Nat → Nat} {O Q M W v w v1 v2 v3 v4 v5 a2 : Int32} {R X : Option qR}
/-- what the class's isStray says -/
def strV (s : qS) : Int32 := if s.1 1 9 = 2 then (if s.1 65 8 = 0 then (if fnd (s.2.1 12) (s.2.1 1 11) 16 0 < 0 then 0 else 1) else if fnd (s.2.1 12) (s.2.1 1 11) 16 0 < 0 then 1 else if fnd (s.2.1 12) (s.2.1 1 11) 16 0 < 8 then 0 else if 12 ≤ fnd (s.2.1 12) (s.2.1 1 11) 16 0 then 0 else 1) else 0
theorem x_strV : qev en (d + 2) 138 [.ref 65] s = some (some (.int (strV s)), s) := by
  refine le_X6_isStray en _ _ _ ?_
  rw [show qev en (d + 1) 84 [.ref 11, .long (s.2.1 1 11)] s = _ from c_named (r := 11) rfl, bI_some]
  unfold strV
  repeat' split
  all_goals first | rfl | contradiction
theorem stray_ct (h : qev en (d + 2) 138 [.ref 65] s = some (some (.int 0), s)) : qev en (d + 2) 138 [.ref 65] (uI s 65 13 v) = some (some (.int 0), uI s 65 13 v) := by
  rw [x_strV] at h ⊢
  have h1 : strV s = 0 := by
    have := (Prod.mk.inj (Option.some.inj h)).1
    injection this with this
    injection this
  have h2 : strV (uI s 65 13 v) = strV s := by
    unfold strV
    rw [show (uI s 65 13 v).1 1 9 = s.1 1 9 from rfl, show (uI s 65 13 v).1 65 8 = s.1 65 8 from rfl]
    rfl
  rw [h2, h1]
end EXN

