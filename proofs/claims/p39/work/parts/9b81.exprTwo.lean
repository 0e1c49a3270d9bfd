/-! THE READER: an expression on both sides: prefixes, brackets. -/
section EXW2
variable {en : pN} {d d' k K q bs u n i i' ct ct' m m' m0 c c' c0 k' nc nl nt a b z h dp F p x j r l l0 y f D d0 e : Nat} {lw : Bool} {V cl cl' : Nat → Nat} {U U' : Nat → Nat → Nat} {pl pl' : Nat → Nat} {s s' s'' t t' t'' : qS} {B : Nat → Nat} {O Q M W v w v1 v2 v3 v4 v5 a2 : Int32} {R X : Option qR}
theorem epC_at (hK : K = 2 ∨ K = 3) : epC (at1 pl k K) (k + 1) = epC pl k := by
  show (if at1 pl k K k = 2 ∨ at1 pl k K k = 3 then epC (at1 pl k K) k else k + 1) = _
  rw [at1_s, if_pos hK]
  have : ∀ j, j ≤ k → epC (at1 pl k K) j = epC pl j := by
    intro j
    induction j with
    | zero => intro _; rfl
    | succ j ih =>
      intro hj
      show (if at1 pl k K j = 2 ∨ at1 pl k K j = 3 then epC (at1 pl k K) j else j + 1) = if pl j = 2 ∨ pl j = 3 then epC pl j else j + 1
      rw [at1_n (show j ≠ k by omega), ih (by omega)]
  exact this k (Nat.le_refl k)
/-- the sign of a prefix: the class's, the model's -/
abbrev preK (y K OP : Nat) : Prop := (y = 45 ∧ K = 2 ∧ OP = 4) ∨ (y = 33 ∧ K = 3 ∧ OP = 33)
/-- the class at a prefix -/
theorem x_prefix {s1 s2 s3 s4 : qS} {OP : Nat} (hy : preK y K OP) (hq : q = 7 ∨ q = 61) (c1 : s.1 1 9 = nI y) (h1 : qev en (e + 7) 136 [.ref 65] s = some (some (.int 1), s1)) (h2 : qev en (e + 6) 167 [.ref 1] s1 = some (none, s2)) (h3 : qev en (e + 6) 139 [.ref 65, .int (nI (dp + 1))] s2 = some (none, s3)) (h4 : s3.2.2 65 7 = q + 1) (h5 : qev en (e + 6) 76 [.ref q, .int (nI OP), .int (0 : Int32)] s3 = some (none, s4)) : oneB en (e + 7) dp s = some (none, s4) := by
  have hlc : lc q = 4 := by rcases hq with rfl | rfl <;> rfl
  show (if ¬ (s.1 1 9) = (40 : Int32) then _ else _) = _
  have f73 : ∀ z : Int32, z = nI OP → L_X6_readNode_73 en (e + 6) q z s3 = some (none, s4) := fun z hz => by
    refine le_X6_readNode_73 en _ _ _ _ _ ?_
    rw [gd_true hlc, hz, h5, bV_some]
  have f43 : L_X6_readNode_43 en (e + 6) (nI y) (nI dp) s1 = some (none, s4) := by
    refine le_X6_readNode_43 en _ _ _ _ _ ?_
    rw [h2, bV_some, show nI dp + (1 : Int32) = nI (dp + 1) from n_ar, h3, bV_some, h4, Nat.add_sub_cancel, gd_true ⟨Nat.succ_ne_zero q, hlc⟩, nm_eq]
    rcases hy with ⟨z, -, w⟩ | ⟨z, -, w⟩
    · rw [if_neg (not_not_intro (by rw [z]; rfl))]
      exact f73 4 (by rw [w]; rfl)
    · rw [if_pos (by rw [z]; decide)]
      exact f73 33 (by rw [w]; rfl)
  have e140 : qev en (e + 7) 140 [.ref 65, .int (nI y), .int (nI dp)] s1 = some (none, s4) := by
    refine le_X6_readNode en _ _ _ _ _ ?_
    rcases hy with ⟨z, -, w⟩ | ⟨z, -, w⟩
    · rw [if_pos (by rw [z]; decide), if_pos (by rw [z]; rfl)]; exact f43
    · rw [if_pos (by rw [z]; decide), if_neg (by rw [z]; decide), if_neg (by rw [z]; decide)]; exact f43
  rw [if_pos (by rw [c1]; rcases hy with ⟨z, -⟩ | ⟨z, -⟩ <;> (rw [z]; decide)), h1, bI_some, if_neg (by decide), c1, e140, bV_some]
end EXW2

