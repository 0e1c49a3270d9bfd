/-! THE READER, the class's own: what stands behind a statement's first words. -/
abbrev T47 (en : pN) (N : Nat) (dp : Int32) (k : Nat) (s s' : qS) : Prop := ∀ D, 45 ≤ D → L_X6_readStatement_47 en D (nI N) dp (nI k) s = some (none, s')
section TLS
variable {en : pN} {d th c M L N k v k2 v2 o j M' c' : Nat} {NW : Nat → Nat} {C V CL H CL' : fI} {LD LD' : Nat → Int64} {A : Nat → fI} {O Q O' Q' : fI} {s s' s1 : qS} {K E F : List (Nat × Nat)} {b : Nat × Nat} {lw lw' : List Nat} {x dp : Int32}
theorem up2_a {f i : Nat} : up2 A f i x f i = x := by
  unfold up2 upd
  rw [if_pos rfl, if_pos rfl]
theorem up2_n {f i g q : Nat} (h : g ≠ f ∨ q ≠ i) : up2 A f i x g q = A g q := by
  unfold up2 upd
  by_cases z : g = f
  · rw [if_pos z, if_neg (h.resolve_left (fun y => y z)), z]
  · rw [if_neg z]
theorem tl_164 {D : Nat} {v : Int32} (h17 : k ≠ 17 ∧ k ≠ 18 ∧ k < 19) (h : qev en D 115 [.ref 65, .int (59 : Int32)] s = some (none, s')) : L_X6_readStatement_164 en D v dp (nI k) s = some (none, s') := by
  refine le_X6_readStatement_164 en _ _ _ _ _ _ ?_
  rw [if_neg (by rw [n_eq (by decide) (by omega)]; exact h17.1), if_neg (by rw [n_eq (by decide) (by omega)]; exact h17.2.1), h, bV_some]
theorem need59 (hk : LKs s ((59, v) :: b :: K)) : ∃ s', (∀ D, 2 ≤ D → qev en D 115 [.ref 65, .int (59 : Int32)] s = some (none, s')) ∧ LKs s' (b :: K) ∧ adF s s' := by
  obtain ⟨s', e, g, f⟩ := x_needK (en := en) (d := 0) hk
  exact ⟨s', fun D hD => qev_up (D - 2) 2 (by omega) e, g, f⟩
/-- no expression -/
theorem tl_0 (h : RSb s th c M L NW C V CL H LD A O Q) (hk : LKs s ((59, v) :: b :: K)) (hN : N < 100) (h5 : k = 1 ∨ k = 5 ∨ k = 6 ∨ k = 12) : ∃ s', T47 en N dp k s s' ∧ LKs s' (b :: K) ∧ RSb s' th c M L NW C V CL H LD (up2 (up2 (up2 A 0 N (nI k)) 5 N (nI M)) 6 N (nI M)) O Q := by
  have r1 := RSb_at (f := 5) (i := N) (x := nI M) (RSb_at (f := 0) (i := N) (x := nI k) h (by decide)) (by decide)
  have r2 := RSb_at (f := 6) (i := N) (x := nI M) r1 (by decide)
  have g2 := LKs_uI (a := 24) (i := N) (x := nI M) (LKs_uI (a := 23) (i := N) (x := nI M) (LKs_uI (a := 18) (i := N) (x := nI k) hk (by decide) (by decide) (by decide)) (by decide) (by decide) (by decide)) (by decide) (by decide) (by decide)
  obtain ⟨s3, e3, g3, f3⟩ := need59 (en := en) g2
  refine ⟨s3, fun D hD => ?_, g3, RSb_ad r2 f3⟩
  obtain ⟨D, rfl⟩ : ∃ z, D = z + 1 := ⟨D - 1, by omega⟩
  refine x_47 h.1.2.2 h.2.2.1.1 hN _ ?_
  rw [x_hasE (by omega), hxB_no (by omega), bI_some, if_pos (show bt false = 0 from rfl)]
  refine x_90 r1.1.2.2 r1.2.2.1.1 hN (by omega) (by omega) _ ?_
  refine x_149 (by omega) (by omega) _ ?_
  exact tl_164 (by omega) (e3 _ (by omega))
/-- behind the kind -/
theorem tl_k (h : RSb s th c M L NW C V CL H LD A O Q) (hk : LKs s K) : RSb (s47 s N k M) th c M L NW C V CL H LD (up2 (up2 A 0 N (nI k)) 5 N (nI M)) O Q ∧ LKs (s47 s N k M) K := ⟨RSb_at (f := 5) (i := N) (x := nI M) (RSb_at (f := 0) (i := N) (x := nI k) h (by decide)) (by decide), LKs_uI (a := 23) (i := N) (x := nI M) (LKs_uI (a := 18) (i := N) (x := nI k) hk (by decide) (by decide) (by decide)) (by decide) (by decide) (by decide)⟩
/-- an expression -/
theorem tl_E (h : RSb s th c M L NW C V CL H LD A O Q) (hk : LKs s E) (hx : EXP en th c M L NW C V CL H LD O Q lw E ((59, v) :: b :: K)) (hN : N < 100) (h5 : k = 0 ∨ k = 2 ∨ k = 14) : ∃ s' c' M' CL' LD' lw' O' Q', T47 en N dp k s s' ∧ LKs s' (b :: K) ∧ RSb s' th c' M' L NW C V CL' H LD' (up2 (up2 (up2 A 0 N (nI k)) 5 N (nI M)) 6 N (nI M')) O' Q' ∧ XF th c M c' M' CL CL' LD LD' O Q O' Q' lw lw' ∧ EXG O' Q' th lw'.length M M' := by
  obtain ⟨r1, g1⟩ := tl_k (N := N) (k := k) h hk
  obtain ⟨s2, c', M', CL', LD', lw', O', Q', e2, g2, r2, w2, l2, p2, o2, m2, m3, c3, x2⟩ := hx _ _ r1 g1
  have r3 := RSb_at (f := 6) (i := N) (x := nI M') r2 (by decide)
  have g3 := LKs_uI (a := 24) (i := N) (x := nI M') g2 (by decide) (by decide) (by decide)
  obtain ⟨s3, e3, g4, f3⟩ := need59 (en := en) g3
  refine ⟨s3, c', M', CL', LD', lw', O', Q', fun D hD => ?_, g4, RSb_ad r3 f3, ⟨w2, l2, p2, o2, m2, by omega, by omega⟩, x2⟩
  obtain ⟨D, rfl⟩ : ∃ z, D = z + 1 := ⟨D - 1, by omega⟩
  refine x_47 h.1.2.2 h.2.2.1.1 hN _ ?_
  rw [x_hasE (by omega), hxB_yes (by omega), bI_some, if_neg (by decide), e2 (D + 1) (by omega), bV_some]
  refine x_90 r2.1.2.2 r2.2.2.1.1 hN (by omega) (by omega) _ ?_
  refine x_149 (by omega) (by omega) _ ?_
  exact tl_164 (by omega) (e3 _ (by omega))
theorem XF.tr {c2 M2 : Nat} {CL2 : fI} {LD2 : Nat → Int64} {O2 Q2 : fI} {lw2 : List Nat} (h : XF th c M c' M' CL CL' LD LD' O Q O' Q' lw lw') (g : LWc CL2 LD2 th lw2 ∧ lw'.length ≤ lw2.length ∧ LWk th CL' CL2 LD' LD2 ∧ (∀ j, j < M' → O2 j = O' j ∧ Q2 j = Q' j) ∧ M' ≤ M2) (hM : M2 ≤ M + 6) (hc : c2 ≤ c + 6) : XF th c M c2 M2 CL CL2 LD LD2 O Q O2 Q2 lw lw2 := ⟨g.1, Nat.le_trans h.2.1 g.2.1, h.2.2.1.tr g.2.2.1, fun j hj => ⟨(g.2.2.2.1 j (by have := h.2.2.2.2.1; omega)).1.trans (h.2.2.2.1 j hj).1, (g.2.2.2.1 j (by have := h.2.2.2.2.1; omega)).2.trans (h.2.2.2.1 j hj).2⟩, Nat.le_trans h.2.2.2.2.1 g.2.2.2.2, hM, hc⟩
/-- add: an expression, into a local -/
theorem tl_add (h : RSb s th c M L NW C V CL H LD A O Q) (hk : LKs s E) (hx : EXP en th c M L NW C V CL H LD O Q lw E ((321, v2) :: (2, v) :: (59, 0) :: b :: K)) (hN : N < 100) (hn : NWc NW) (hv : v = 112 ∨ v = 113) : ∃ s' c' M' j CL' LD' lw' O' Q', T47 en N dp 4 s s' ∧ LKs s' (b :: K) ∧ RSb s' th c' M' L NW C V CL' H LD' (up2 (up2 (up2 (up2 A 0 N (nI 4)) 5 N (nI M)) 6 N (nI M')) 3 N (nI j)) O' Q' ∧ XF th c M c' M' CL CL' LD LD' O Q O' Q' lw lw' ∧ EXG O' Q' th lw'.length M M' ∧ j < lw'.length := by
  obtain ⟨r1, g1⟩ := tl_k (N := N) (k := 4) h hk
  obtain ⟨s2, c', M', CL', LD', lw', O', Q', e2, g2, r2, w2, l2, p2, o2, m2, m3, c3, x2⟩ := hx _ _ r1 g1
  have r3 := RSb_at (f := 6) (i := N) (x := nI M') r2 (by decide)
  have g3 := LKs_uI (a := 24) (i := N) (x := nI M') g2 (by decide) (by decide) (by decide)
  obtain ⟨s4, j, CL2, LD2, lw2, e4, g4, r4, j4, x4⟩ := x_into (en := en) (N := N) r3 g3 w2 hn hv hN
  obtain ⟨s5, e5, g5, f5⟩ := need59 (en := en) g4
  refine ⟨s5, c', M', j, CL2, LD2, lw2, O', Q', fun D hD => ?_, g5, RSb_ad r4 f5, XF.tr (c' := c') ⟨w2, l2, p2, o2, m2, by omega, by omega⟩ ⟨x4.1, x4.2.1, x4.2.2.1, x4.2.2.2.1, Nat.le_refl _⟩ (by omega) (by omega), EXG_lc x2 x4.2.1, j4⟩
  obtain ⟨D, rfl⟩ : ∃ z, D = z + 1 := ⟨D - 1, by omega⟩
  refine x_47 h.1.2.2 h.2.2.1.1 hN _ ?_
  rw [x_hasE (by omega), hxB_yes (by omega), bI_some, if_neg (by decide), e2 (D + 1) (by omega), bV_some]
  refine x_90 r2.1.2.2 r2.2.2.1.1 hN (by omega) (by omega) _ ?_
  refine x_159 (Or.inr rfl) (e4 _ (by omega)) _ ?_
  exact tl_164 (by omega) (e5 _ (by omega))
/-- cas: an expression, another, into a local -/
theorem tl_cas (h : RSb s th c M L NW C V CL H LD A O Q) (hk : LKs s ((3, k) :: (44, 0) :: (3, k2) :: (321, v2) :: (2, v) :: (59, 0) :: b :: K)) (hw : LWc CL LD th lw) (hN : N < 100) (hn : NWc NW) (hv : v = 112 ∨ v = 113) (hc : c + 9 < 400) (hM : M + 9 < 400) : ∃ s' c' M1 M' j CL' LD' lw' O' Q', T47 en N dp 3 s s' ∧ LKs s' (b :: K) ∧ RSb s' th c' M' L NW C V CL' H LD' (up2 (up2 (up2 (up2 (up2 (up2 A 0 N (nI 3)) 5 N (nI M)) 6 N (nI M1)) 7 N (nI M1)) 8 N (nI M')) 3 N (nI j)) O' Q' ∧ XF th c M c' M' CL CL' LD LD' O Q O' Q' lw lw' ∧ EXG O' Q' th lw'.length M M1 ∧ M1 ≤ M' ∧ EXG O' Q' th lw'.length M1 M' ∧ j < lw'.length := by
  obtain ⟨r1, g1⟩ := tl_k (N := N) (k := 3) h hk
  obtain ⟨s2, c1, M1, CL1, LD1, lw1, O1, Q1, e2, g2, r2, w2, l2, p2, o2, m2, m3, c3, x2⟩ := x_expN (en := en) r1 g1 hw (by omega) (by omega) rfl
  have r3 := RSb_at (f := 6) (i := N) (x := nI M1) r2 (by decide)
  have g3 := LKs_uI (a := 24) (i := N) (x := nI M1) g2 (by decide) (by decide) (by decide)
  obtain ⟨s4, e4, g4, f4⟩ := x_needK (en := en) (d := 0) g3
  have r4 := RSb_ad r3 f4
  have r5 := RSb_at (f := 7) (i := N) (x := nI M1) r4 (by decide)
  have g5 := LKs_uI (a := 25) (i := N) (x := nI M1) g4 (by decide) (by decide) (by decide)
  obtain ⟨s6, c6, M6, CL6, LD6, lw6, O6, Q6, e6, g6, r6, w6, l6, p6, o6, m6, m7, c7, x6⟩ := x_expN (en := en) r5 g5 w2 (by omega) (by omega) rfl
  have r7 := RSb_at (f := 8) (i := N) (x := nI M6) r6 (by decide)
  have g7 := LKs_uI (a := 26) (i := N) (x := nI M6) g6 (by decide) (by decide) (by decide)
  obtain ⟨s8, j, CL8, LD8, lw8, e8, g8, r8, j8, x8⟩ := x_into (en := en) (N := N) r7 g7 w6 hn hv hN
  obtain ⟨s9, e9, g9, f9⟩ := need59 (en := en) g8
  refine ⟨s9, c6, M1, M6, j, CL8, LD8, lw8, O6, Q6, fun D hD => ?_, g9, RSb_ad r8 f9, ?_, ?_, m6, EXG_lc x6 x8.2.1, j8⟩
  · obtain ⟨D, rfl⟩ : ∃ z, D = z + 1 := ⟨D - 1, by omega⟩
    refine x_47 h.1.2.2 h.2.2.1.1 hN _ ?_
    rw [x_hasE (by omega), hxB_yes (by omega), bI_some, if_neg (by decide), e2 (D + 1) (by omega), bV_some]
    have h4 : qev en (D + 1) 115 [.ref 65, .int (44 : Int32)] (uI s2 24 N (s2.1 7 3)) = some (none, s4) := by
      rw [r2.2.2.1.1]
      exact qev_up (D := D + 1) (D - 1) 2 (by omega) e4
    refine x_90c r2.1.2.2 hN h4 _ ?_
    have h6 : qev en (D + 1) 134 [.ref 65, .int (0 : Int32), .int (1 : Int32)] (uI s4 25 N (s4.1 7 3)) = some (none, s6) := by
      rw [r4.2.2.1.1]
      exact e6 (D + 1) (by omega)
    refine xC2_1 r4.1.2.2 h6 r6.1.2.2 _ ?_
    rw [r6.2.2.1.1]
    refine x_159 (Or.inl rfl) (e8 _ (by omega)) _ ?_
    exact tl_164 (by omega) (e9 _ (by omega))
  · exact XF.tr (c' := c1) (M' := M1) ⟨w2, l2, p2, o2, m2, by omega, by omega⟩ ⟨x8.1, Nat.le_trans l6 x8.2.1, p6.tr x8.2.2.1, o6, m6⟩ (by omega) (by omega)
  · exact EXG_lc (EXG_ag x2 o6) (Nat.le_trans l6 x8.2.1)
end TLS
