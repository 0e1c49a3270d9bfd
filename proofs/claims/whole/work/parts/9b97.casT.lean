/-! THE READER: cas on both sides. -/
section CAT
variable {en : pN} {d d' k i i' n N j x y r m m' u F p nc nl nt D m0 f e0 : Nat} {V cl cl' th : Nat → Nat} {U U' : Nat → Nat → Nat} {s s' s'' s0 t t' t'' t0 : qS} {B : Nat → Nat} {v w dp : Int32}
theorem cas_al (hE : exS false 7 0 u B n s t V U cl nc nl nt i m) (hn : nwL s t N u 3 m0) (hth : th N = u) (hu : u < nt) (hB : ∀ j, j < n → B j < 256) (hN : N < 100) : stmR (kwX en (d + 140) N 3 dp s) (kwM en (d' + 13) N 3 t) u B n s t V cl th nc nl nt m N := by
  have hn' := hn
  obtain ⟨⟨n1, n2⟩, n3, ⟨n4, n4'⟩, ⟨n5, n5'⟩, n6, ⟨n7, n8⟩, ⟨n9, n9'⟩, ⟨n10, n10', n10'', n10'''⟩, n11⟩ := hn
  have h7 : s.2.2 65 7 = 8 := hE.2.2.2.1.1
  obtain ⟨s1, ta, t1, e1, e2, e2b, e3, e4, e5, e6, e7⟩ := obj34 (en := en) (d := d + 134) (d' := d' + 7) hE hB hN (k := 3) (Or.inl rfl)
  have e1' : qev en (d + 140) 129 [.ref 65, .int (nI N), .int (nI 3)] s = some (none, s1) := e1
  have hR : ∀ s', L_X6_readStatement_47 en (d + 140) (nI N) dp (nI 3) s1 = some (none, s') → kwX en (d + 140) N 3 dp s = some (none, s') := fun s' h => by
    show bV _ _ = _
    rw [e1', bV_some]
    exact h
  have hX : ∀ t2 t3 t4 t', qev en (d' + 12) 280 [.ref 151, .int (nI N)] t1 = some (none, t2) → qev en (d' + 12) 252 [.ref 151, .int (44 : Int32)] t2 = some (none, t3) → mC3 en (d' + 12) N t3 = some (none, t4) → qev en (d' + 13) 252 [.ref 151, .int (59 : Int32)] t4 = some (none, t') → kwM en (d' + 13) N 3 t = some (none, t') := fun t2 t3 t4 t' h1 h2 h3 h4 => by
    have e2' : qev en (d' + 12) 281 [.ref 151, .int (nI N)] t = some (none, ta) := e2
    have e2b' : qev en (d' + 12) 252 [.ref 151, .int (44 : Int32)] ta = some (none, t1) := e2b
    have pre : qev en (d' + 13) 279 [.ref 151, .int (nI N), .int (nI 3)] t = some (none, t4) := by
      refine le_X12_readRest en _ _ _ _ _ ?_
      rw [if_pos (by decide)]
      refine le_X12_readRest_10 en _ _ _ _ _ ?_
      rw [e2', bV_some, e2b', bV_some, h1, bV_some, if_neg (by decide), h2, bV_some]
      exact h3
    show bV _ _ = _
    rw [pre, bV_some, h4, bV_some]
  rcases e7 with ⟨i1, c, g1, g2, g3, g4⟩ | e7
  · have hm7 := g1.1.2.2.1
    have h71 : s1.2.2 65 7 = 8 := g1.2.2.2.1.1
    have hm1 : s1.1 7 3 = nI m := g1.2.2.2.2.2.1
    have p47 := x_47 (en := en) (D := d + 140) (k := 3) (dp := dp) h71 hm1 hN
    have e125 : qev en (d + 140) 125 [.ref 65, .int (nI 3)] (s47 s1 N 3 m) = some (some (.int 1), s47 s1 N 3 m) := by
      have := x_hasE (en := en) (d := d + 139) (k := 3) (s := s47 s1 N 3 m) (by decide)
      rw [hxB_yes (by decide)] at this
      exact this
    have hE2 : exS false 7 0 u B n (s47 s1 N 3 m) t1 V U cl nc nl nt i1 m := exS_ui (exS_ui g1 (Or.inl ⟨by decide, by decide⟩)) (Or.inl ⟨by decide, by decide⟩)
    have f47 : stF N m s (s47 s1 N 3 m) := (e3.tr (stF.ui (by decide)) (Nat.le_refl m)).tr (stF.ui (by decide)) (Nat.le_refl m)
    have k47 : ∀ a, 18 ≤ a → a ≤ 27 → a ≠ 18 → a ≠ 20 → a ≠ 23 → (s47 s1 N 3 m).1 a = s.1 a := fun a q1 q2 h1 h3 h2 => by
      unfold s47
      rw [uI_ne h2, uI_ne h1]
      exact e5.1 a q1 q2 h3
    have v18 : (s47 s1 N 3 m).1 18 N = nI 3 := by
      unfold s47
      rw [uI_ne (by decide), rdW]
    have v20 : (s47 s1 N 3 m).1 20 N = nI c := by
      unfold s47
      rw [uI_ne (by decide), uI_ne (by decide)]
      exact g3
    have v23 : (s47 s1 N 3 m).1 23 N = nI m := by
      unfold s47
      rw [rdW]
    obtain ⟨s2, t2, a1, a2, a3, a4, a5, a6, ⟨a7, a7'⟩, a8⟩ := takeExp_al (en := en) (D := d + 140) (d' := d' + 1) hE2 hB hN (by omega)
    have a2' : qev en (d' + 11) 276 [.ref 151, .int (nI N)] t1 = some (none, t2) := a2
    have h280 : qev en (d' + 12) 280 [.ref 151, .int (nI N)] t1 = some (none, t2) := m_280 (d := d' + 10) hm7 a2'
    have pX : ∀ r, L_X6_readStatement_90 en (d + 140) (nI N) dp (nI 3) s2 = some r → L_X6_readStatement_47 en (d + 140) (nI N) dp (nI 3) s1 = some r := fun r hr => p47 r (by
      rw [e125, bI_some, if_neg (by decide), a1, bV_some]
      exact hr)
    have h72 : s2.2.2 65 7 = 8 := by rw [a3.2.2.2.2.2.2.2.2.2]; exact h71
    have fx2 : stF N m s s2 := f47.tr a3 (Nat.le_refl m)
    have fm2 : smF N m t t2 := e4.tr a4 (Nat.le_refl m)
    rcases a8 with ⟨U2, cl2, i2, m2, b1, b2, b3, b4⟩ | a8
    · have hm2 : s2.1 7 3 = nI m2 := b1.2.2.2.2.2.1
      have hE3 : exS false 7 0 u B n (uI s2 24 N (s2.1 7 3)) t2 V U2 cl2 nc nl nt i2 m2 := exS_ui b1 (Or.inl ⟨by decide, by decide⟩)
      obtain ⟨s3, t3, c1, c2, c3, c4, c5⟩ := must_al (en := en) (d := d + 138) (d' := d' + 8) (k := 44) hE3.1 ⟨by decide, by decide⟩
      have c1' : qev en (d + 140) 115 [.ref 65, .int (44 : Int32)] (uI s2 24 N (s2.1 7 3)) = some (none, s3) := c1
      have c2' : qev en (d' + 12) 252 [.ref 151, .int (44 : Int32)] t2 = some (none, t3) := c2
      have h73 : s3.2.2 65 7 = 8 := by rw [c3.2.2.2.2]; exact h72
      have fx3 : stF N m s s3 := (fx2.tr (stF.ui (by decide)) (Nat.le_refl m)).tr (stF.tk c3) (Nat.le_refl m)
      have fm3 : smF N m t t3 := fm2.tr (smF.mv c4) (Nat.le_refl m)
      have pX3 : ∀ r, xC2 en (d + 140) N 3 dp s3 = some r → L_X6_readStatement_47 en (d + 140) (nI N) dp (nI 3) s1 = some r := fun r hr => pX r (x_90c h72 hN c1' r hr)
      rcases c5 with ⟨-, c5⟩ | c5
      · have hE4 := exS_tk hE3 c3 c4 c5
        have hm3 : s3.1 7 3 = nI m2 := hE4.2.2.2.2.2.1
        have hE5 : exS false 7 0 u B n (uI s3 25 N (s3.1 7 3)) t3 V U2 cl2 nc nl nt (i2 + 1) m2 := exS_ui hE4 (Or.inl ⟨by decide, by decide⟩)
        obtain ⟨s5, t5, l1, l2, l3, l4, l5⟩ := exp_al (en := en) (D := d + 140) (d' := d' + 3) hE5 (Or.inl ⟨rfl, rfl, rfl⟩) hB (by omega)
        rw [Nat.zero_add] at l2 l4
        have l2' : qev en (d' + 12) 268 [.ref 151] t3 = some (some (.int (nI m2)), t5) := l2
        have h75 : s5.2.2 65 7 = 8 := by rw [l3.2.2.2.2.2.2]; exact h73
        have fx5 : stF N m s s5 := (fx3.tr (stF.ui (by decide)) (Nat.le_refl m)).tr (stF.rx l3) (Nat.le_of_lt b2)
        have fm5 : smF N m t t5 := fm3.tr (smF.rm l4) (Nat.le_of_lt b2)
        have pX5 : ∀ r, L_X6_readStatement_149 en (d + 140) (nI N) dp (nI 3) (uI s5 26 N (s5.1 7 3)) = some r → L_X6_readStatement_47 en (d + 140) (nI N) dp (nI 3) s1 = some r := fun r hr => pX3 r (xC2_1 h73 l1 h75 r hr)
        have pM5 : ∀ t', L_X12_readRest_71 en (d' + 12) (nI N) (uI (uI t5 178 N (nI m2)) 179 N (t5.1 151 25)) = some (none, t') → mC3 en (d' + 12) N t3 = some (none, t') := fun t' h => by
          show bI _ _ = _
          rw [m_goodL c5.2.2.1, bI_some, if_neg (by decide), l2', bI_some]
          exact m_60 hN _ h
        rcases l5 with ⟨U6, cl6, i6, m6, o1, o2, o3, o4, o5⟩ | ⟨⟨F', p', o1, o2⟩, -⟩
        · have hm5 : s5.1 7 3 = nI m6 := o1.2.2.2.2.2.1
          have h25 : t5.1 151 25 = nI m6 := by rw [o1.2.2.2.2.2.2, Nat.zero_add]
          have hE7 : exS false 7 0 u B n (uI s5 26 N (s5.1 7 3)) (uI (uI t5 178 N (nI m2)) 179 N (t5.1 151 25)) V U6 cl6 nc nl nt i6 m6 := exS_mi (exS_mi (exS_ui o1 (Or.inl ⟨by decide, by decide⟩)) (by decide)) (by decide)
          have fx7 : stF N m s (uI s5 26 N (s5.1 7 3)) := fx5.tr (stF.ui (by decide)) (Nat.le_refl m)
          have fm7 : smF N m t (uI (uI t5 178 N (nI m2)) 179 N (t5.1 151 25)) := (fm5.tr (smF.ui rfl) (Nat.le_refl m)).tr (smF.ui rfl) (Nat.le_refl m)
          have hm26 : m ≤ m6 := by omega
          -- the rows of the line
          have cX : ∀ a, 18 ≤ a → a ≤ 27 → a ≠ 24 → a ≠ 25 → a ≠ 26 → (uI s5 26 N (s5.1 7 3)).1 a = (s47 s1 N 3 m).1 a := fun a q1 q2 q3 q4 q5 => by
            rw [uI_ne q5, (kpX.rx (r := 0) l3).1 a q1 q2 (by omega), uI_ne q4, c3.1 a (by omega) (by omega), uI_ne q3, a5.1 a q1 q2 (by omega)]
          have cM : ∀ a, smW a = true → a ≠ 176 → a ≠ 177 → a ≠ 178 → a ≠ 179 → (uI (uI t5 178 N (nI m2)) 179 N (t5.1 151 25)).1 a = t1.1 a := fun a q1 q2 q3 q4 q5 => by
            have := smW_lt q1
            rw [uI_ne q5, uI_ne q4, (kpM.rm (r := 0) l4).1 a q1 (by omega), c4.1 a (by omega), a6 a q1 q2 q3]
          have cT : (uI (uI t5 178 N (nI m2)) 179 N (t5.1 151 25)).1 176 = t2.1 176 ∧ (uI (uI t5 178 N (nI m2)) 179 N (t5.1 151 25)).1 177 = t2.1 177 := by
            constructor
            · rw [uI_ne (by decide), uI_ne (by decide), (kpM.rm (r := 0) l4).1 176 rfl (by decide), c4.1 176 (by decide)]
            · rw [uI_ne (by decide), uI_ne (by decide), (kpM.rm (r := 0) l4).1 177 rfl (by decide), c4.1 177 (by decide)]
          have c24 : (uI s5 26 N (s5.1 7 3)).1 24 N = nI m2 := by
            rw [uI_ne (by decide), (kpX.rx (r := 0) l3).1 24 (by decide) (by decide) (by decide), uI_ne (by decide), c3.1 24 (by decide) (by decide), rdW, hm2]
          have c25 : (uI s5 26 N (s5.1 7 3)).1 25 N = nI m2 := by
            rw [uI_ne (by decide), (kpX.rx (r := 0) l3).1 25 (by decide) (by decide) (by decide), rdW, hm3]
          have c26 : (uI s5 26 N (s5.1 7 3)).1 26 N = nI m6 := by rw [rdW, hm5]
          have x1 : exA (uI s5 26 N (s5.1 7 3)) (uI (uI t5 178 N (nI m2)) 179 N (t5.1 151 25)) u m6 (nI m) (nI m2) (t2.1 176 N) (t2.1 177 N) := by
            have gx : stF N m2 s2 (uI s5 26 N (s5.1 7 3)) := ((((stF.ui (by decide)).tr (stF.tk c3) (Nat.le_refl _)).tr (stF.ui (by decide)) (Nat.le_refl _)).tr (stF.rx l3) (Nat.le_refl _)).tr (stF.ui (by decide)) (Nat.le_refl _)
            have gm : smF N m2 t2 (uI (uI t5 178 N (nI m2)) 179 N (t5.1 151 25)) := (((smF.mv c4).tr (smF.rm l4) (Nat.le_refl _)).tr (smF.ui rfl) (Nat.le_refl _)).tr (smF.ui rfl) (Nat.le_refl _)
            exact exA_fr b3 (Nat.le_of_lt o2) o1.2.2.2.2.1.2.2 gx gm
          have x2 : exA (uI s5 26 N (s5.1 7 3)) (uI (uI t5 178 N (nI m2)) 179 N (t5.1 151 25)) u m6 (nI m2) (nI m6) (nI m2) (nI m6) := by
            refine ⟨m2, m6, rfl, rfl, Or.inr ⟨o2, Nat.le_refl _, o1.2.2.2.2.1.2.2, rfl, rfl, fun j j1 j2 => ?_, ?_⟩⟩
            · exact nd1_eq (o3 j j1 j2) (by rw [uI_ne (by decide)]) (by rw [uI_ne (by decide)]) (by rw [uI_ne (by decide), uI_ne (by decide)]) (by rw [uI_ne (by decide), uI_ne (by decide)])
            · rw [uI_ne (show 8 ≠ 26 by decide), uI_ne (show 9 ≠ 26 by decide)]
              exact o4
          obtain ⟨s8, t8, w1, w2, w3, w4, w5⟩ := intoEnd_al (en := en) (d := d + 128) (d' := d') (dp := dp) (k := 3) (m := m) (cl' := cl) (th := th) hE7 hB hN (Or.inl rfl) hm26 (fun z => Nat.le_trans (b4 z) (o5 z)) (fun s9 t9 cl9 q1 q2 q3 q4 q5 q6 => by
            have hm4 := o1.2.2.2.2.1.2.2
            have gx : stF N m s s9 := fx7.tr q2 hm26
            have gm : smF N m t t9 := fm7.tr q3 hm26
            have d1 : ∀ a, 18 ≤ a → a ≤ 27 → a ≠ 21 → s9.1 a N = (uI s5 26 N (s5.1 7 3)).1 a N := fun a r1 r2 r3 => by rw [q4.1 a r1 r2 r3]
            have d2 : ∀ a, smW a = true → a ≠ 167 → t9.1 a N = (uI (uI t5 178 N (nI m2)) 179 N (t5.1 151 25)).1 a N := fun a r1 r2 => by rw [q5.1 a r1 r2]
            have d3 : ∀ a, 18 ≤ a → a ≤ 27 → a ≠ 21 → a ≠ 24 → a ≠ 25 → a ≠ 26 → s9.1 a N = (s47 s1 N 3 m).1 a N := fun a r1 r2 r3 r4 r5 r6 => by rw [d1 a r1 r2 r3, cX a r1 r2 r4 r5 r6]
            have d4 : ∀ a, smW a = true → a ≠ 167 → a ≠ 176 → a ≠ 177 → a ≠ 178 → a ≠ 179 → t9.1 a N = t1.1 a N := fun a r1 r2 r3 r4 r5 r6 => by rw [d2 a r1 r2, cM a r1 r3 r4 r5 r6]
            have y21 : (uI s5 26 N (s5.1 7 3)).1 21 N = -2 := by
              rw [cX 21 (by decide) (by decide) (by decide) (by decide) (by decide), k47 21 (by decide) (by decide) (by decide) (by decide) (by decide)]; exact n5
            have y167 : (uI (uI t5 178 N (nI m2)) 179 N (t5.1 151 25)).1 167 N = -2 := by
              rw [cM 167 rfl (by decide) (by decide) (by decide) (by decide), e6.1 167 rfl (by decide)]; exact n5'
            refine lnB_of hn' hth hu gx gm (by decide) ((d3 18 (by decide) (by decide) (by decide) (by decide) (by decide) (by decide)).trans v18) ?_ ?_ ?_ ?_ ?_ (fun z _ => absurd z (by decide)) ?_ ?_ ?_ ?_ (fun z => absurd z (by decide)) (fun z => absurd rfl z) (fun z => absurd z (by decide)) (fun z => absurd z (by decide))
            · rw [d4 164 rfl (by decide) (by decide) (by decide) (by decide) (by decide), e6.1 164 rfl (by decide)]; exact n3
            · rw [d3 19 (by decide) (by decide) (by decide) (by decide) (by decide) (by decide), k47 19 (by decide) (by decide) (by decide) (by decide) (by decide)]
            · rw [d3 22 (by decide) (by decide) (by decide) (by decide) (by decide) (by decide), k47 22 (by decide) (by decide) (by decide) (by decide) (by decide)]
            · rw [d4 166 rfl (by decide) (by decide) (by decide) (by decide) (by decide), d3 20 (by decide) (by decide) (by decide) (by decide) (by decide) (by decide), v20, g4]
            · rw [d3 20 (by decide) (by decide) (by decide) (by decide) (by decide) (by decide), v20]
              exact fun _ _ => ⟨c, g2, rfl⟩
            · rcases q6 with ⟨z1, z2⟩ | ⟨j, z1, z2, z3⟩
              · rw [z1, z2, y21, y167]
              · rw [z2, z3]
            · rcases q6 with ⟨z1, z2⟩ | ⟨j, z1, z2, z3⟩
              · rw [z1]; exact Or.inl ⟨y21, by decide⟩
              · exact Or.inr ⟨j, z1, z2⟩
            · rw [d3 23 (by decide) (by decide) (by decide) (by decide) (by decide) (by decide), v23, d1 24 (by decide) (by decide) (by decide), c24, d2 176 rfl (by decide), d2 177 rfl (by decide), cT.1, cT.2]
              exact exA_fr x1 (Nat.le_refl _) hm4 q2 q3
            · rw [d1 25 (by decide) (by decide) (by decide), c25, d1 26 (by decide) (by decide) (by decide), c26, d2 178 rfl (by decide), d2 179 rfl (by decide), uI_ne (show 178 ≠ 179 by decide), rdW, rdW, h25]
              exact exA_fr x2 (Nat.le_refl _) hm4 q2 q3)
          have pEnd : ∀ t', endM en (d' + 13) (L_X12_readRest_71 en (d' + 12) (nI N) (uI (uI t5 178 N (nI m2)) 179 N (t5.1 151 25))) = some (none, t') → kwM en (d' + 13) N 3 t = some (none, t') := fun t' h => by
            have h' : bV (L_X12_readRest_71 en (d' + 12) (nI N) (uI (uI t5 178 N (nI m2)) 179 N (t5.1 151 25))) (fun s15 => bV (qev en (d' + 13) 252 [.ref 151, .int (59 : Int32)] s15) (fun s18 => some (none, s18))) = some (none, t') := h
            cases hL : L_X12_readRest_71 en (d' + 12) (nI N) (uI (uI t5 178 N (nI m2)) 179 N (t5.1 151 25)) with
            | none =>
              rw [hL] at h'
              cases h'
            | some r =>
              obtain ⟨ro, rs⟩ := r
              cases ro with
              | some z =>
                rw [hL] at h'
                cases h'
              | none =>
                rw [hL, bV_some] at h'
                cases hM : qev en (d' + 13) 252 [.ref 151, .int (59 : Int32)] rs with
                | none =>
                  rw [hM] at h'
                  cases h'
                | some r2 =>
                  obtain ⟨ro2, rs2⟩ := r2
                  cases ro2 with
                  | some z =>
                    rw [hM] at h'
                    cases h'
                  | none =>
                    rw [hM, bV_some] at h'
                    cases h'
                    exact hX t2 t3 rs _ h280 c2' (pM5 rs hL) hM
          refine ⟨s8, t8, hR _ (pX5 _ w1), pEnd _ w2, (wkX.st fx7).tr w3, (wkM.sm fm7).tr w4, ?_⟩
          rcases w5 with ⟨U9, cl9, i9, q1, q2, q3, q4, q5⟩ | w5
          · exact Or.inl ⟨U9, cl9, i9, m6, q1, hm26, q2, q3, fx7.tr q4 hm26, fm7.tr q5 hm26⟩
          · exact Or.inr w5
        · have hD5 := dX_ui (j := N) (v := s5.1 7 3) o1 (show 26 ≠ 1 by decide) (show 26 ≠ 65 by decide)
          obtain ⟨s6, q1, q2, q3⟩ := xD_149 (en := en) (d := d + 128) (v := nI N) (dp := dp) (c := nI 3) hD5
          have hD6 : mtD (uI (uI t5 178 N (nI m2)) 179 N (t5.1 151 25)) F' p' := mtD_fr o2 (by rw [uI_ne (by decide), uI_ne (by decide)]) (by rw [uI_ne (by decide), uI_ne (by decide)])
          refine ⟨s6, _, hR _ (pX5 _ q1), hX t2 t3 _ _ h280 c2' (pM5 _ (by rw [show d' + 12 = d' + 11 + 1 from rfl, m_71D hD6])) (by rw [show d' + 13 = d' + 10 + 3 from rfl, endD_m hD6]), (wkX.st fx5).tr ((wkX.ui (by decide)).tr q3), (wkM.sm fm5).tr ((wkM.ui (by decide)).tr (wkM.ui (by decide))), Or.inr ⟨F', p', q2, hD6⟩⟩
      · obtain ⟨F', p', o1, o2⟩ := id c5
        obtain ⟨s6, q1, q2, q3⟩ := xC2_D (en := en) (f := d + 128) (N := N) (k := 3) (dp := dp) h73 o1
        obtain ⟨t6, z1, z2, z3⟩ := mC3_D (en := en) (d := d' + 11) hN o2
        exact ⟨s6, t6, hR _ (pX3 _ q1), hX t2 t3 t6 t6 h280 c2' z1 (by rw [show d' + 13 = d' + 10 + 3 from rfl, endD_m z2]), (wkX.st fx3).tr q3, (wkM.sm fm3).tr z3, Or.inr ⟨F', p', q2, z2⟩⟩
    · obtain ⟨F', p', o1, o2⟩ := id a8
      obtain ⟨s6, q1, q2, q3⟩ := xD_90 (en := en) (d := d + 128) (dp := dp) (c := nI 3) o1 h72 hN
      obtain ⟨t6, z1, z2, z3⟩ := mC3_D (en := en) (d := d' + 11) hN o2
      exact ⟨s6, t6, hR _ (pX _ q1), hX t2 t2 t6 t6 h280 (by rw [show d' + 12 = d' + 9 + 3 from rfl, endD_m o2]) z1 (by rw [show d' + 13 = d' + 10 + 3 from rfl, endD_m z2]), (wkX.st fx2).tr q3, (wkM.sm fm2).tr z3, Or.inr ⟨F', p', q2, z2⟩⟩
  · refine stmR_cg (stmD_al (en := en) (dp := dp) (k := 3) (D := d + 140) (X := kwM en (d' + 13) N 3 t) (by omega) hN (by rw [e3.2.2.2.2.2.2.2.2.2]; exact h7) e7 (wkX.st e3) (wkM.sm e4) (fun F p h => ?_)) hR (fun _ h => h)
    obtain ⟨t6, z1, z2, z3⟩ := mC3_D (en := en) (d := d' + 11) hN h
    exact ⟨t6, hX t1 t1 t6 t6 (m_280D (d := d' + 10) h) (by rw [show d' + 12 = d' + 9 + 3 from rfl, endD_m h]) z1 (by rw [show d' + 13 = d' + 10 + 3 from rfl, endD_m z2]), z2, z3⟩
end CAT
