/-! THE READER: cas and add on both sides. -/
section CAS
variable {en : pN} {d d' k i i' n N j x y r m m' u F p nc nl nt D m0 f e0 : Nat} {V cl cl' th : Nat → Nat} {U U' : Nat → Nat → Nat} {s s' s'' s0 t t' t'' t0 : qS} {B : Nat → Nat} {v w dp : Int32}
/-- the class behind the second comma -/
noncomputable abbrev xC2 (en : pN) (D N k : Nat) (dp : Int32) (s7 : qS) : Option qR := gd (s7.2.2 65 7 ≠ 0 ∧ lc (s7.2.2 65 7 - 1) = 4) (nm (s7.2.2 65 7 - 1) (fun q10 => nm (uI s7 25 N (s7.1 q10 3)) (fun s11 => bV (qev en D 134 [.ref 65, .int (0 : Int32), .int (1 : Int32)] s11) (fun s13 => gd (s13.2.2 65 7 ≠ 0 ∧ lc (s13.2.2 65 7 - 1) = 4) (nm (s13.2.2 65 7 - 1) (fun q16 => nm (uI s13 26 N (s13.1 q16 3)) (fun s17 => L_X6_readStatement_149 en D (nI N) dp (nI k) s17)))))))
theorem xC2_1 (h7 : s.2.2 65 7 = 8) (h : qev en D 134 [.ref 65, .int (0 : Int32), .int (1 : Int32)] (uI s 25 N (s.1 7 3)) = some (none, s')) (h7' : s'.2.2 65 7 = 8) : ∀ r, L_X6_readStatement_149 en D (nI N) dp (nI k) (uI s' 26 N (s'.1 7 3)) = some r → xC2 en D N k dp s = some r := by
  intro r hr
  have e4 : lc (8 - 1) = 4 := rfl
  show gd _ _ = _
  rw [h7, gd_true ⟨by decide, e4⟩, nm_eq, nm_eq]
  show bV (qev en D 134 [.ref 65, .int (0 : Int32), .int (1 : Int32)] (uI s 25 N (s.1 7 3))) _ = _
  rw [h, bV_some, h7', gd_true ⟨by decide, e4⟩, nm_eq, nm_eq]
  exact hr
theorem xC2_D (h7 : s.2.2 65 7 = 8) (h : dX s F p) : ∃ s', xC2 en (f + 12) N k dp s = some (none, s') ∧ dX s' F p ∧ wkX s s' := by
  have hD3 := dX_ui (j := N) (v := s.1 7 3) h (show 25 ≠ 1 by decide) (show 25 ≠ 65 by decide)
  obtain ⟨s4, g1, g2, g3⟩ := xD_134 (en := en) (d := f) hD3
  have hD5 := dX_ui (j := N) (v := s4.1 7 3) g3 (show 26 ≠ 1 by decide) (show 26 ≠ 65 by decide)
  obtain ⟨s6, e1, e2, e3⟩ := xD_149 (en := en) (d := f) (v := nI N) (dp := dp) (c := nI k) hD5
  exact ⟨s6, xC2_1 h7 g1 (by rw [g2.2.2.2]; exact h7) _ e1, e2, ((wkX.ui (by decide)).tr (wkX.bm g2)).tr ((wkX.ui (by decide)).tr e3)⟩
theorem x_90c (h7 : s.2.2 65 7 = 8) (hN : N < 100) (h : qev en D 115 [.ref 65, .int (44 : Int32)] (uI s 24 N (s.1 7 3)) = some (none, s')) : ∀ r, xC2 en D N 3 dp s' = some r → L_X6_readStatement_90 en D (nI N) dp (nI 3) s = some r := by
  intro r hr
  have e4 : lc (8 - 1) = 4 := rfl
  refine le_X6_readStatement_90 en _ _ _ _ _ _ ?_
  rw [h7, gd_true ⟨by decide, e4⟩, nm_eq, gd_in (by omega) (by decide), n_cl (by omega), nm_eq, if_neg (by decide)]
  show bV (qev en D 115 [.ref 65, .int (44 : Int32)] (uI s 24 N (s.1 7 3))) _ = _
  rw [h, bV_some]
  exact hr
theorem x_159 (hk : k = 3 ∨ k = 4) (h : qev en D 131 [.ref 65, .int v] s = some (none, s')) : ∀ r, L_X6_readStatement_164 en D v dp (nI k) s' = some r → L_X6_readStatement_149 en D v dp (nI k) s = some r := by
  intro r hr
  have g159 : L_X6_readStatement_159 en D v dp (nI k) s = some r := by
    refine le_X6_readStatement_159 en _ _ _ _ _ _ ?_
    rw [h, bV_some]
    exact hr
  refine le_X6_readStatement_149 en _ _ _ _ _ _ ?_
  rcases hk with z | z
  · rw [if_pos (by rw [z]; rfl)]; exact g159
  · rw [if_neg (by rw [z]; decide), if_neg (by rw [z]; decide)]; exact g159
end CAS

