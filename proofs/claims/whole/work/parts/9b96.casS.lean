/-! THE READER: cas and add on both sides. -/
section CAS
variable {en : pN} {d d' k i i' n N j x y r m m' u F p nc nl nt D m0 f e0 : Nat} {V cl cl' th : Nat → Nat} {U U' : Nat → Nat → Nat} {s s' s'' s0 t t' t'' t0 : qS} {B : Nat → Nat} {v w dp : Int32}
/-- the model at the end of a statement -/
noncomputable abbrev endM (en : pN) (D : Nat) (X : Option qR) : Option qR := bV X (fun s15 => bV (qev en D 252 [.ref 151, .int (59 : Int32)] s15) (fun s18 => some (none, s18)))
theorem m_71D (h : mtD t F p) : L_X12_readRest_71 en (d + 1) v t = some (none, t) := by
  refine le_X12_readRest_71 en _ _ _ _ ?_
  rw [m_goodD h, bI_some, if_pos rfl]
theorem m_60 (hN : N < 100) {w : Int32} : ∀ r, L_X12_readRest_71 en D (nI N) (uI (uI t 178 N w) 179 N (t.1 151 25)) = some r → L_X12_readRest_60 en D (nI N) (nI N) w t = some r := by
  intro r hr
  refine le_X12_readRest_60 en _ _ _ _ _ _ ?_
  rw [gd_in (by omega) (by decide), n_cl (by omega), nm_eq, gd_in (by omega) (by decide), nm_eq, uI_ne (show 151 ≠ 178 by decide)]
  exact hr
/-- the model behind the second comma -/
noncomputable abbrev mC3 (en : pN) (D N : Nat) (t : qS) : Option qR := bI (qev en D 243 [.ref 151] t) (fun w14 s15 => if w14 = (0 : Int32) then L_X12_readRest_60 en D (nI N) (nI N) (s15.1 151 25) s15 else bI (qev en D 268 [.ref 151] s15) (fun w18 s19 => L_X12_readRest_60 en D (nI N) (nI N) w18 s19))
theorem mC3_D (hN : N < 100) (h : mtD t F p) : ∃ t', mC3 en (d + 1) N t = some (none, t') ∧ mtD t' F p ∧ wkM t t' := by
  have hD : mtD (uI (uI t 178 N (t.1 151 25)) 179 N (t.1 151 25)) F p := mtD_fr h (by rw [uI_ne (by decide), uI_ne (by decide)]) (by rw [uI_ne (by decide), uI_ne (by decide)])
  refine ⟨_, ?_, hD, (wkM.ui (by decide)).tr (wkM.ui (by decide))⟩
  show bI _ _ = _
  rw [m_goodD h, bI_some, if_pos rfl]
  exact m_60 hN _ (m_71D hD)
/-- the class behind the second comma -/
noncomputable abbrev xC2 (en : pN) (D N k : Nat) (dp : Int32) (s7 : qS) : Option qR := gd (s7.2.2 65 7 ≠ 0 ∧ lc (s7.2.2 65 7 - 1) = 4) (nm (s7.2.2 65 7 - 1) (fun q10 => nm (uI s7 25 N (s7.1 q10 3)) (fun s11 => bV (qev en D 134 [.ref 65, .int (0 : Int32), .int (1 : Int32)] s11) (fun s13 => gd (s13.2.2 65 7 ≠ 0 ∧ lc (s13.2.2 65 7 - 1) = 4) (nm (s13.2.2 65 7 - 1) (fun q16 => nm (uI s13 26 N (s13.1 q16 3)) (fun s17 => L_X6_readStatement_149 en D (nI N) dp (nI k) s17)))))))
theorem xC2_1 (h7 : s.2.2 65 7 = 8) (h : qev en D 134 [.ref 65, .int (0 : Int32), .int (1 : Int32)] (uI s 25 N (s.1 7 3)) = some (none, s')) (h7' : s'.2.2 65 7 = 8) : ∀ r, L_X6_readStatement_149 en D (nI N) dp (nI k) (uI s' 26 N (s'.1 7 3)) = some r → xC2 en D N k dp s = some r := by
  intro r hr
  have e4 : lc (8 - 1) = 4 := rfl
  show gd _ _ = _
  rw [h7, gd_true ⟨by decide, e4⟩, nm_eq, nm_eq]
  show bV (qev en D 134 [.ref 65, .int (0 : Int32), .int (1 : Int32)] (uI s 25 N (s.1 7 3))) _ = _
  rw [h, bV_some, h7', gd_true ⟨by decide, e4⟩, nm_eq, nm_eq]
  exact hr
theorem xC2_D (h7 : s.2.2 65 7 = 8) (h : dX s F p) : ∃ s', xC2 en (f + 12) N k dp s = some (none, s') ∧ dX s' F p ∧ wkX s s' := by
  have hD3 := dX_ui (j := N) (v := s.1 7 3) h (show 25 ≠ 1 by decide) (show 25 ≠ 65 by decide)
  obtain ⟨s4, g1, g2, g3⟩ := xD_134 (en := en) (d := f) hD3
  have hD5 := dX_ui (j := N) (v := s4.1 7 3) g3 (show 26 ≠ 1 by decide) (show 26 ≠ 65 by decide)
  obtain ⟨s6, e1, e2, e3⟩ := xD_149 (en := en) (d := f) (v := nI N) (dp := dp) (c := nI k) hD5
  exact ⟨s6, xC2_1 h7 g1 (by rw [g2.2.2.2]; exact h7) _ e1, e2, ((wkX.ui (by decide)).tr (wkX.bm g2)).tr ((wkX.ui (by decide)).tr e3)⟩
theorem x_90c (h7 : s.2.2 65 7 = 8) (hN : N < 100) (h : qev en D 115 [.ref 65, .int (44 : Int32)] (uI s 24 N (s.1 7 3)) = some (none, s')) : ∀ r, xC2 en D N 3 dp s' = some r → L_X6_readStatement_90 en D (nI N) dp (nI 3) s = some r := by
  intro r hr
  have e4 : lc (8 - 1) = 4 := rfl
  refine le_X6_readStatement_90 en _ _ _ _ _ _ ?_
  rw [h7, gd_true ⟨by decide, e4⟩, nm_eq, gd_in (by omega) (by decide), n_cl (by omega), nm_eq, if_neg (by decide)]
  show bV (qev en D 115 [.ref 65, .int (44 : Int32)] (uI s 24 N (s.1 7 3))) _ = _
  rw [h, bV_some]
  exact hr
theorem x_159 (hk : k = 3 ∨ k = 4) (h : qev en D 131 [.ref 65, .int v] s = some (none, s')) : ∀ r, L_X6_readStatement_164 en D v dp (nI k) s' = some r → L_X6_readStatement_149 en D v dp (nI k) s = some r := by
  intro r hr
  have g159 : L_X6_readStatement_159 en D v dp (nI k) s = some r := by
    refine le_X6_readStatement_159 en _ _ _ _ _ _ ?_
    rw [h, bV_some]
    exact hr
  refine le_X6_readStatement_149 en _ _ _ _ _ _ ?_
  rcases hk with z | z
  · rw [if_pos (by rw [z]; rfl)]; exact g159
  · rw [if_neg (by rw [z]; decide), if_neg (by rw [z]; decide)]; exact g159
/-- the parts of the line that into and the end leave -/
theorem intoEnd_al (hE : exS false 7 0 u B n s t V U cl nc nl nt i m') (hB : ∀ j, j < n → B j < 256) (hN : N < 100) (hk : k = 3 ∨ k = 4) (hm : m ≤ m') (hcl : ∀ w, cl' w ≤ cl w)
    (hL : ∀ (s1 t1 : qS) (cl1 : Nat → Nat), (∀ w, cl w ≤ cl1 w) → stF N m' s s1 → smF N m' t t1 → kpX 21 s s1 → kpM 167 t t1 → ((s1.1 21 N = s.1 21 N ∧ t1.1 167 N = t.1 167 N) ∨ ∃ j, j < cl1 u ∧ s1.1 21 N = nI j ∧ t1.1 167 N = nI j) → lnB s1 t1 nc nl nt m' cl1 th N) : ∃ s' t', L_X6_readStatement_149 en (d + 12) (nI N) dp (nI k) s = some (none, s') ∧ endM en (d' + 13) (L_X12_readRest_71 en (d' + 12) (nI N) t) = some (none, t') ∧ wkX s s' ∧ wkM t t' ∧ ((∃ (U' : Nat → Nat → Nat) (cl2 : Nat → Nat) (i' : Nat), exS false 7 0 u B n s' t' V U' cl2 nc nl nt i' m' ∧ (∀ w, cl' w ≤ cl2 w) ∧ lnB s' t' nc nl nt m' cl2 th N ∧ stF N m' s s' ∧ smF N m' t t') ∨ rdD s' t') := by
  have hm4 := hE.2.2.2.2.1.2.2
  obtain ⟨s1, t1, e1, e2, e3, e4, e5, e6, e7⟩ := into_al (en := en) (d := d + 6) (d' := d' + 5) hE hB hN
  have e1' : qev en (d + 12) 131 [.ref 65, .int (nI N)] s = some (none, s1) := e1
  have e2' : L_X12_readRest_71 en (d' + 12) (nI N) t = some (none, t1) := e2
  rcases e7 with ⟨U', cl1, i1, g1, g2, g3⟩ | ⟨F', p', g1, g2⟩
  · obtain ⟨s2, t2, a1, a2, a3, a4, a5⟩ := end_al (en := en) (d := d + 10) (d' := d' + 9) (v := nI N) (dp := dp) (k := k) g1 ⟨by omega, by omega⟩ (by omega)
    have a2' : qev en (d' + 13) 252 [.ref 151, .int (59 : Int32)] t1 = some (none, t2) := a2
    refine ⟨s2, t2, x_159 hk e1' _ a1, (show bV _ _ = _ by rw [e2', bV_some, a2', bV_some]), (wkX.st e3).tr (wkX.st (N := N) (m := m') (stF.tk a3)), (wkM.sm e4).tr (wkM.mv a4), ?_⟩
    rcases a5 with ⟨i2, a5⟩ | a5
    · exact Or.inl ⟨U', cl1, i2, a5, fun w => Nat.le_trans (hcl w) (g2 w), lnB_tk (hL s1 t1 cl1 g2 e3 e4 e5 e6 g3) hm4 a3 a4, e3.tr (stF.tk a3) (Nat.le_refl _), e4.tr (smF.mv a4) (Nat.le_refl _)⟩
    · exact Or.inr a5
  · obtain ⟨s2, a1, a2, a3⟩ := xD_164 (en := en) (d := d) (v := nI N) (dp := dp) (c := nI k) g1
    refine ⟨s2, t1, x_159 hk e1' _ a1, (show bV _ _ = _ by rw [e2', bV_some, show d' + 13 = d' + 10 + 3 from rfl, endD_m g2, bV_some]), (wkX.st e3).tr a3, wkM.sm e4, Or.inr ⟨F', p', a2, g2⟩⟩
/-- add -/
theorem add_al (hE : exS false 7 0 u B n s t V U cl nc nl nt i m) (hn : nwL s t N u 4 m0) (hth : th N = u) (hu : u < nt) (hB : ∀ j, j < n → B j < 256) (hN : N < 100) : stmR (kwX en (d + 140) N 4 dp s) (kwM en (d' + 13) N 4 t) u B n s t V cl th nc nl nt m N := by
  have hn' := hn
  obtain ⟨⟨n1, n2⟩, n3, ⟨n4, n4'⟩, ⟨n5, n5'⟩, n6, ⟨n7, n8⟩, ⟨n9, n9'⟩, ⟨n10, n10', n10'', n10'''⟩, n11⟩ := hn
  have h7 : s.2.2 65 7 = 8 := hE.2.2.2.1.1
  obtain ⟨s1, ta, t1, e1, e2, e2b, e3, e4, e5, e6, e7⟩ := obj34 (en := en) (d := d + 134) (d' := d' + 7) hE hB hN (k := 4) (Or.inr rfl)
  have e1' : qev en (d + 140) 129 [.ref 65, .int (nI N), .int (nI 4)] s = some (none, s1) := e1
  have hR : ∀ s', L_X6_readStatement_47 en (d + 140) (nI N) dp (nI 4) s1 = some (none, s') → kwX en (d + 140) N 4 dp s = some (none, s') := fun s' h => by
    show bV _ _ = _
    rw [e1', bV_some]
    exact h
  have hX : ∀ t2 t', qev en (d' + 12) 280 [.ref 151, .int (nI N)] t1 = some (none, t2) → endM en (d' + 13) (L_X12_readRest_71 en (d' + 12) (nI N) t2) = some (none, t') → kwM en (d' + 13) N 4 t = some (none, t') := fun t2 t' h1 h2 => by
    have e2' : qev en (d' + 12) 281 [.ref 151, .int (nI N)] t = some (none, ta) := e2
    have e2b' : qev en (d' + 12) 252 [.ref 151, .int (44 : Int32)] ta = some (none, t1) := e2b
    have pre : ∀ r, L_X12_readRest_71 en (d' + 12) (nI N) t2 = some r → qev en (d' + 13) 279 [.ref 151, .int (nI N), .int (nI 4)] t = some r := fun r hr => by
      refine le_X12_readRest en _ _ _ _ _ ?_
      rw [if_neg (by decide), if_neg (by decide)]
      refine le_X12_readRest_10 en _ _ _ _ _ ?_
      rw [e2', bV_some, e2b', bV_some, h1, bV_some, if_pos (by decide)]
      exact hr
    show bV _ _ = _
    cases hL : L_X12_readRest_71 en (d' + 12) (nI N) t2 with
    | none =>
      have h2' : bV (L_X12_readRest_71 en (d' + 12) (nI N) t2) _ = _ := h2
      rw [hL] at h2'
      exact absurd h2' (by intro z; cases z)
    | some r =>
      have h2' : bV (L_X12_readRest_71 en (d' + 12) (nI N) t2) _ = _ := h2
      rw [hL] at h2'
      rw [pre r hL]
      exact h2'
  rcases e7 with ⟨i1, c, g1, g2, g3, g4⟩ | e7
  · have hm7 := g1.1.2.2.1
    obtain ⟨s2, t2, a1, a2, a3, a4, a5, a6, ⟨a7, a7'⟩, ⟨a8, a8'⟩, a9⟩ := mid_al (en := en) (D := d + 140) (d' := d' + 1) (dp := dp) (k := 4) g1 hB hN (by decide) (by decide) (by omega) (hxB_yes (se := decide (s1.1 1 9 = 59)) (by decide)) ⟨m0, by omega, by rw [e6.1 176 rfl (by decide)]; exact n10, by rw [e6.1 177 rfl (by decide)]; exact n10'⟩
    rw [if_pos rfl] at a2
    have a2' : qev en (d' + 11) 276 [.ref 151, .int (nI N)] t1 = some (none, t2) := a2
    have h280 : qev en (d' + 12) 280 [.ref 151, .int (nI N)] t1 = some (none, t2) := m_280 (d := d' + 10) hm7 a2'
    have fx : stF N m s s2 := e3.tr a3 (Nat.le_refl m)
    have fm : smF N m t t2 := e4.tr a4 (Nat.le_refl m)
    rcases a9 with ⟨U', cl1, i2, m2, b1, b2, b3, b4, -, b6⟩ | ⟨F', p', b1, b2⟩
    · have c20 : ∀ a, 18 ≤ a → a ≤ 27 → a ≠ 18 → a ≠ 20 → a ≠ 23 → a ≠ 24 → s2.1 a = s.1 a := fun a q1 q2 q3 q4 q5 q6 => (a5 a q1 q2 q3 q5 q6).trans (e5.1 a q1 q2 q4)
      have c166 : ∀ a, smW a = true → a ≠ 166 → a ≠ 176 → a ≠ 177 → t2.1 a = t.1 a := fun a q1 q2 q3 q4 => (a6 a q1 q3 q4).trans (e6.1 a q1 q2)
      obtain ⟨s4, t4, f1, f2, f3, f4, f5⟩ := intoEnd_al (en := en) (d := d + 128) (d' := d') (dp := dp) (k := 4) (m := m) (cl' := cl) (th := th) b1 hB hN (Or.inr rfl) b2 b6 (fun s3 t3 cl2 q1 q2 q3 q4 q5 q6 => by
        have hm4 := b1.2.2.2.2.1.2.2
        have gx : stF N m s s3 := fx.tr q2 b2
        have gm : smF N m t t3 := fm.tr q3 b2
        have d1 : ∀ a, 18 ≤ a → a ≤ 27 → a ≠ 21 → s3.1 a N = s2.1 a N := fun a r1 r2 r3 => by rw [q4.1 a r1 r2 r3]
        have d2 : ∀ a, smW a = true → a ≠ 167 → t3.1 a N = t2.1 a N := fun a r1 r2 => by rw [q5.1 a r1 r2]
        refine lnB_of hn' hth hu gx gm (by decide) ((d1 18 (by decide) (by decide) (by decide)).trans b3) ?_ ?_ ?_ ?_ ?_ (fun z _ => absurd z (by decide)) ?_ ?_ ?_ ?_ (fun z => absurd z (by decide)) ?_ (fun z => absurd z (by decide)) (fun z => absurd z (by decide))
        · rw [d2 164 rfl (by decide), c166 164 rfl (by decide) (by decide) (by decide)]; exact n3
        · rw [d1 19 (by decide) (by decide) (by decide), c20 19 (by decide) (by decide) (by decide) (by decide) (by decide) (by decide)]
        · rw [d1 22 (by decide) (by decide) (by decide), c20 22 (by decide) (by decide) (by decide) (by decide) (by decide) (by decide)]
        · rw [d2 166 rfl (by decide), d1 20 (by decide) (by decide) (by decide), a6 166 rfl (by decide) (by decide), a5 20 (by decide) (by decide) (by decide) (by decide) (by decide), g4, g3]
        · rw [d1 20 (by decide) (by decide) (by decide), a5 20 (by decide) (by decide) (by decide) (by decide) (by decide)]
          exact fun _ _ => ⟨c, g2, g3⟩
        · rcases q6 with ⟨z1, z2⟩ | ⟨j, z1, z2, z3⟩
          · rw [z1, z2, c20 21 (by decide) (by decide) (by decide) (by decide) (by decide) (by decide), c166 167 rfl (by decide) (by decide) (by decide), n5, n5']
          · rw [z2, z3]
        · rcases q6 with ⟨z1, z2⟩ | ⟨j, z1, z2, z3⟩
          · rw [z1, c20 21 (by decide) (by decide) (by decide) (by decide) (by decide) (by decide)]; exact Or.inl ⟨n5, by decide⟩
          · exact Or.inr ⟨j, z1, z2⟩
        · rw [d1 23 (by decide) (by decide) (by decide), d1 24 (by decide) (by decide) (by decide), d2 176 rfl (by decide), d2 177 rfl (by decide)]
          exact exA_fr b4 (Nat.le_refl _) hm4 q2 q3
        · exact exA_0 (by rw [d1 25 (by decide) (by decide) (by decide), c20 25 (by decide) (by decide) (by decide) (by decide) (by decide) (by decide)]; exact n9) (by rw [d1 26 (by decide) (by decide) (by decide), c20 26 (by decide) (by decide) (by decide) (by decide) (by decide) (by decide)]; exact n9') (by rw [d2 178 rfl (by decide), c166 178 rfl (by decide) (by decide) (by decide)]; exact n10'') (by rw [d2 179 rfl (by decide), c166 179 rfl (by decide) (by decide) (by decide)]; exact n10''') n11
        · intro _
          rw [d1 25 (by decide) (by decide) (by decide), c20 25 (by decide) (by decide) (by decide) (by decide) (by decide) (by decide), d1 26 (by decide) (by decide) (by decide), c20 26 (by decide) (by decide) (by decide) (by decide) (by decide) (by decide), n9, n9'])
      refine ⟨s4, t4, hR _ (a1 _ f1), hX t2 t4 h280 f2, (wkX.st fx).tr f3, (wkM.sm fm).tr f4, ?_⟩
      rcases f5 with ⟨U2, cl2, i3, q1, q2, q3, q4, q5⟩ | f5
      · exact Or.inl ⟨U2, cl2, i3, m2, q1, b2, q2, q3, fx.tr q4 b2, fm.tr q5 b2⟩
      · exact Or.inr f5
    · obtain ⟨s3, q1, q2, q3⟩ := xD_149 (en := en) (d := d + 128) (v := nI N) (dp := dp) (c := nI 4) b1
      refine ⟨s3, t2, hR _ (a1 _ q1), hX t2 t2 h280 ?_, (wkX.st fx).tr q3, wkM.sm fm, Or.inr ⟨F', p', q2, b2⟩⟩
      show bV _ _ = _
      rw [show d' + 12 = d' + 11 + 1 from rfl, m_71D b2, bV_some, show d' + 13 = d' + 10 + 3 from rfl, endD_m b2, bV_some]
  · refine stmR_cg (stmD_al (en := en) (dp := dp) (k := 4) (D := d + 140) (X := kwM en (d' + 13) N 4 t) (by omega) hN (by rw [e3.2.2.2.2.2.2.2.2.2]; exact h7) e7 (wkX.st e3) (wkM.sm e4) (fun F p h => ⟨t1, ?_, h, wkM.rf⟩)) hR (fun _ h => h)
    refine hX t1 t1 (m_280D (d := d' + 10) h) ?_
    show bV _ _ = _
    rw [show d' + 12 = d' + 11 + 1 from rfl, m_71D h, bV_some, show d' + 13 = d' + 10 + 3 from rfl, endD_m h, bV_some]
end CAS
