/-! THE READER: statements that begin with a key word, on both sides: their parts. -/
/-- whether an expression stands there: se: a semicolon stands there -/
def hxB (k : Nat) (se : Bool) : Bool := if k = 15 ∨ k = 16 then !se else (decide (k = 0) || decide (2 ≤ k ∧ k ≤ 4) || decide (k = 14) || decide (k = 17) || decide (k = 18))
/-- a line that has just come to be -/
abbrev nwL (s t : qS) (N u k m0 : Nat) : Prop := (s.1 19 N = nI u ∧ t.1 165 N = nI u) ∧ t.1 164 N = nI k ∧ (s.1 20 N = -2 ∧ t.1 166 N = -2) ∧ (s.1 21 N = -2 ∧ t.1 167 N = -2) ∧ t.1 168 N = s.1 22 N ∧ (s.1 35 N = 0 ∧ t.1 175 N = 0) ∧ (s.1 25 N = 0 ∧ s.1 26 N = 0) ∧ (t.1 176 N = nI m0 ∧ t.1 177 N = nI m0 ∧ t.1 178 N = nI m0 ∧ t.1 179 N = nI m0) ∧ m0 ≤ 400
section KND
variable {en : pN} {d d' k i i' n N j x y r m m' u F p nc nl nt D m0 : Nat} {V cl cl' th : Nat → Nat} {U U' : Nat → Nat → Nat} {s s' s'' t t' t'' : qS} {B : Nat → Nat} {v w dp : Int32}
theorem x_hasE (hk : k < 19) : qev en (d + 1) 125 [.ref 65, .int (nI k)] s = some (some (.int (bt (hxB k (decide (s.1 1 9 = 59))))), s) := by
  have h12 : L_X6_hasExp_12 en d s = some (some (.int (bt (!decide (s.1 1 9 = 59)))), s) := by
    refine le_X6_hasExp_12 en _ _ _ ?_
    by_cases z : s.1 1 9 = 59
    · rw [if_pos z, decide_eq_true z]; rfl
    · rw [if_neg z, decide_eq_false z]; rfl
  refine le_X6_hasExp en _ _ _ _ ?_
  unfold hxB
  by_cases z1 : k = 15
  · rw [if_pos (by rw [z1]; rfl), if_pos (Or.inl z1)]; exact h12
  by_cases z2 : k = 16
  · rw [if_neg (by rw [z2]; decide), if_neg (by rw [z2]; decide), if_pos (Or.inr z2)]; exact h12
  rw [if_neg (by rw [n_eq (by decide) (by omega)]; exact z1), if_pos (by rw [n_eq (by decide) (by omega)]; exact z2), if_neg (show ¬ (k = 15 ∨ k = 16) by omega)]
  by_cases z3 : k = 0
  · rw [if_pos (by rw [z3]; rfl), decide_eq_true z3]; rfl
  rw [if_neg (by rw [n_eq (by decide) (by omega)]; exact z3), decide_eq_false z3]
  have h44 : ¬ (2 ≤ k ∧ k ≤ 4) → L_X6_hasExp_44 en d (nI k) s = some (some (.int (bt (false || decide (2 ≤ k ∧ k ≤ 4) || decide (k = 14) || decide (k = 17) || decide (k = 18)))), s) := fun h => by
    rw [decide_eq_false h]
    refine le_X6_hasExp_44 en _ _ _ _ ?_
    by_cases z4 : k = 14
    · rw [if_pos (by rw [z4]; rfl), decide_eq_true z4]; rfl
    by_cases z5 : k = 17
    · rw [if_neg (by rw [z5]; decide), if_pos (by rw [z5]; rfl), decide_eq_true z5, decide_eq_false z4]; rfl
    by_cases z6 : k = 18
    · rw [if_neg (by rw [z6]; decide), if_neg (by rw [z6]; decide), if_neg (by rw [z6]; decide), decide_eq_true z6, decide_eq_false z4, decide_eq_false z5]; rfl
    · rw [if_neg (by rw [n_eq (by decide) (by omega)]; exact z4), if_neg (by rw [n_eq (by decide) (by omega)]; exact z5), if_pos (by rw [n_eq (by decide) (by omega)]; exact z6), decide_eq_false z4, decide_eq_false z5, decide_eq_false z6]; rfl
  by_cases z7 : k < 2
  · rw [if_pos (by rw [n_gt (by decide) (by omega)]; exact z7)]; exact h44 (by omega)
  · rw [if_neg (by rw [n_gt (by decide) (by omega)]; exact z7)]
    by_cases z8 : k ≤ 4
    · rw [if_pos (by rw [n_ge (by decide) (by omega)]; exact z8), decide_eq_true (show 2 ≤ k ∧ k ≤ 4 from ⟨by omega, z8⟩)]; rfl
    · rw [if_neg (by rw [n_ge (by decide) (by omega)]; exact z8)]; exact h44 (by omega)
/-- the class's line gets its kind, and where its expression begins -/
noncomputable def s47 (s : qS) (N k m : Nat) : qS := uI (uI s 18 N (nI k)) 23 N (nI m)
theorem x_47 (h7 : s.2.2 65 7 = 8) (hm : s.1 7 3 = nI m) (hN : N < 100) : ∀ r, bI (qev en D 125 [.ref 65, .int (nI k)] (s47 s N k m)) (fun w6 s7 => if w6 = (0 : Int32) then L_X6_readStatement_90 en D (nI N) dp (nI k) s7 else bV (qev en D 134 [.ref 65, .int (0 : Int32), .int (1 : Int32)] s7) (fun s11 => L_X6_readStatement_90 en D (nI N) dp (nI k) s11)) = some r → L_X6_readStatement_47 en D (nI N) dp (nI k) s = some r := by
  intro r hr
  have e4 : lc (8 - 1) = 4 := rfl
  refine le_X6_readStatement_47 en _ _ _ _ _ _ ?_
  rw [gd_in (by omega) (by decide), n_cl (by omega), nm_eq, show (uI s 18 N (nI k)).2.2 65 7 = 8 from h7, gd_true ⟨by decide, e4⟩, nm_eq, show (uI s 18 N (nI k)).1 (8 - 1) 3 = nI m from by rw [uI_ne (by decide)]; exact hm, nm_eq]
  exact hr
theorem x_90 (h7 : s.2.2 65 7 = 8) (hm : s.1 7 3 = nI m) (hN : N < 100) (hk : k ≠ 3) (hk' : k < 19) : ∀ r, L_X6_readStatement_149 en D (nI N) dp (nI k) (uI s 24 N (nI m)) = some r → L_X6_readStatement_90 en D (nI N) dp (nI k) s = some r := by
  intro r hr
  have e4 : lc (8 - 1) = 4 := rfl
  refine le_X6_readStatement_90 en _ _ _ _ _ _ ?_
  rw [h7, gd_true ⟨by decide, e4⟩, nm_eq, gd_in (by omega) (by decide), n_cl (by omega), show s.1 (8 - 1) 3 = nI m from hm, nm_eq, if_pos (by rw [n_eq (by decide) (by omega)]; exact hk)]
  exact hr
theorem x_149 (hk : k ≠ 3 ∧ k ≠ 4) (hk' : k < 19) : ∀ r, L_X6_readStatement_164 en D v dp (nI k) s = some r → L_X6_readStatement_149 en D v dp (nI k) s = some r := by
  intro r hr
  refine le_X6_readStatement_149 en _ _ _ _ _ _ ?_
  rw [if_neg (by rw [n_eq (by decide) (by omega)]; exact hk.1), if_pos (by rw [n_eq (by decide) (by omega)]; exact hk.2)]
  exact hr
end KND

