/-! THE READER, the class's own: parts of statements. -/
/-- the cells that the law's programs name -/
abbrev ceW (o v : Nat) : Prop := (o = 0 ∧ v = 120) ∨ (o = 1 ∧ v = 121) ∨ (o = 2 ∧ v = 122)
/-- the locks -/
abbrev lkW (o v : Nat) : Prop := (o = 0 ∧ v = 97) ∨ (o = 1 ∧ v = 98)
/-- what reading adds, but for lines -/
abbrev XF (th c M c' M' : Nat) (CL CL' : fI) (LD LD' : Nat → Int64) (O Q O' Q' : fI) (lw lw' : List Nat) : Prop := LWc CL' LD' th lw' ∧ lw.length ≤ lw'.length ∧ LWk th CL CL' LD LD' ∧ (∀ j, j < M → O' j = O j ∧ Q' j = Q j) ∧ M ≤ M' ∧ M' ≤ M + 6 ∧ c' ≤ c + 6
/-- an expression stands there, whatever lines are -/
abbrev EXP (en : pN) (th c M L : Nat) (NW : Nat → Nat) (C V CL H : fI) (LD : Nat → Int64) (O Q : fI) (lw : List Nat) (E K : List (Nat × Nat)) : Prop := ∀ s1 A1, RSb s1 th c M L NW C V CL H LD A1 O Q → LKs s1 E → XRes en th c M L NW C V CL H LD A1 O Q lw s1 K
section PRT
variable {en : pN} {d dp th c M L N k v k2 v2 o j : Nat} {NW : Nat → Nat} {C V CL H : fI} {LD : Nat → Int64} {A : Nat → fI} {O Q : fI} {s s' s1 : qS} {K E : List (Nat × Nat)} {b : Nat × Nat} {lw : List Nat} {x : Int32}
theorem XF.rf (hw : LWc CL LD th lw) : XF th c M c M CL CL LD LD O Q O Q lw lw := ⟨hw, Nat.le_refl _, LWk.rf, fun _ _ => ⟨rfl, rfl⟩, Nat.le_refl _, by omega, by omega⟩
theorem x_isCell {w : Int32} : qev en (d + 1) 85 [.int w] s = some (some (.int (if w < 0 then 0 else if 8 ≤ w then 0 else 1)), s) := by
  refine le_X5_isCell en _ _ _ _ ?_
  by_cases h : w < 0
  · rw [if_pos h, if_pos h]
  · rw [if_neg h, if_neg h]
    by_cases h' : 8 ≤ w
    · rw [if_pos h', if_pos h']
    · rw [if_neg h', if_neg h']
/-- a local told, into the line -/
theorem x_rdL (h : RSb s th c M L NW C V CL H LD A O Q) (hk : LKs s ((2, v) :: b :: K)) (hw : LWc CL LD th lw) (hv : v = 112 ∨ v = 113) (hN : N < 100) : ∃ s' j CL' LD' lw', QV en 4 127 [.ref 65, .int (nI N)] s (none, s') ∧ LKs s' (b :: K) ∧ RSb s' th c M L NW C V CL' H LD' (up2 A 3 N (nI j)) O Q ∧ j < lw'.length ∧ XF th c M c M CL CL' LD LD' O Q O Q lw lw' := by
  obtain ⟨s1, j, CL', LD', lw', e1, g1, r1, w1, j1, l1, p1⟩ := x_lclK (en := en) h hk hw hv
  have r2 := RSb_at (f := 3) (i := N) (x := nI j) r1 (by decide)
  have g2 := LKs_uI (a := 21) (i := N) (x := nI j) g1 (by decide) (by decide) (by decide)
  obtain ⟨s3, e3, g3, f3⟩ := x_advK (en := en) (d := 0) g2
  refine ⟨s3, j, CL', LD', lw', fun D hD => ?_, g3, RSb_ad r2 f3, j1, w1, l1, p1, fun _ _ => ⟨rfl, rfl⟩, Nat.le_refl _, by omega, by omega⟩
  obtain ⟨D, rfl⟩ : ∃ z, D = z + 2 + 1 := ⟨D - 3, by omega⟩
  refine le_X6_readLocal en _ _ _ _ ?_
  have hj := lw_le w1
  rw [e1 (D + 2) (by omega), bI_some, if_neg (nI_pos (by omega)), gd_in hN (by decide), n_cl (by omega), nm_eq, qev_up (D := D + 2) (D + 1) 1 (by omega) e3, bV_some]
/-- a cell on the left -/
theorem x_tgC (h : RSb s th c M L NW C V CL H LD A O Q) (hk : LKs s ((2, v) :: (61, 0) :: b :: K)) (hn : NWc NW) (ho : ceW o v) (hN : N < 100) : ∃ s', QV en 4 126 [.ref 65, .int (nI N)] s (some (.int 2), s') ∧ LKs s' (b :: K) ∧ RSb s' th c M L NW C V CL H LD (up2 A 2 N (nI o)) O Q := by
  have o3 : o < 3 := by rcases ho with ⟨rfl, -⟩ | ⟨rfl, -⟩ | ⟨rfl, -⟩ <;> decide
  have r2 := RSb_at (f := 2) (i := N) (x := nI o) h (by decide)
  have g2 := LKs_uI (a := 20) (i := N) (x := nI o) hk (by decide) (by decide) (by decide)
  obtain ⟨s3, e3, g3, f3⟩ := x_advK (en := en) (d := 0) g2
  obtain ⟨s4, e4, g4, f4⟩ := x_needK (en := en) (d := 0) g3
  refine ⟨s4, fun D hD => ?_, g4, RSb_ad (RSb_ad r2 f3) f4⟩
  obtain ⟨D, rfl⟩ : ∃ z, D = z + 2 + 1 := ⟨D - 3, by omega⟩
  refine le_X6_readTarget en _ _ _ _ ?_
  rw [(LKs_at hk).2.1, show qev en (D + 2) 84 [.ref 11, .long (Int64.ofNat v)] s = _ from (x_namedK (d := D + 1) h hn).2 o (by omega), bI_some, x_isCell, if_neg (nI_pos (by omega)), if_neg (by rw [n_le (by decide) (by omega)]; omega), bI_some, if_neg (by decide), gd_in hN (by decide), n_cl (by omega), nm_eq, qev_up (D := D + 2) (D + 1) 1 (by omega) e3, bV_some, show qev en (D + 2) 115 [.ref 65, .int (61 : Int32)] s3 = _ from qev_up (D := D + 2) D 2 (by omega) e4, bV_some]
/-- a local on the left, a cell on the right -/
theorem x_tgL (h : RSb s th c M L NW C V CL H LD A O Q) (hk : LKs s ((2, v) :: (61, 0) :: (2, v2) :: b :: K)) (hw : LWc CL LD th lw) (hn : NWc NW) (hv : v = 112 ∨ v = 113) (ho : ceW o v2) (hN : N < 100) : ∃ s' j CL' LD' lw', QV en 5 126 [.ref 65, .int (nI N)] s (some (.int 1), s') ∧ LKs s' (b :: K) ∧ RSb s' th c M L NW C V CL' H LD' (up2 (up2 A 3 N (nI j)) 2 N (nI o)) O Q ∧ j < lw'.length ∧ XF th c M c M CL CL' LD LD' O Q O Q lw lw' := by
  have o3 : o < 3 := by rcases ho with ⟨rfl, -⟩ | ⟨rfl, -⟩ | ⟨rfl, -⟩ <;> decide
  obtain ⟨s1, j, CL', LD', lw', e1, g1, r1, j1, x1⟩ := x_rdL (en := en) (N := N) h hk hw hv hN
  obtain ⟨s2, e2, g2, f2⟩ := x_needK (en := en) (d := 0) g1
  have r2 := RSb_ad r1 f2
  have r3 := RSb_at (f := 2) (i := N) (x := nI o) r2 (by decide)
  have g3 := LKs_uI (a := 20) (i := N) (x := nI o) g2 (by decide) (by decide) (by decide)
  obtain ⟨s4, e4, g4, f4⟩ := x_advK (en := en) (d := 0) g3
  refine ⟨s4, j, CL', LD', lw', fun D hD => ?_, g4, RSb_ad r3 f4, j1, x1⟩
  obtain ⟨D, rfl⟩ : ∃ z, D = z + 2 + 1 := ⟨D - 3, by omega⟩
  refine le_X6_readTarget en _ _ _ _ ?_
  rw [(LKs_at hk).2.1, show qev en (D + 2) 84 [.ref 11, .long (Int64.ofNat v)] s = _ from (x_namedK (d := D + 1) h hn).1 hv, bI_some, x_isCell, if_pos (by decide), bI_some, if_pos rfl, e1 (D + 2) (by omega), bV_some, show qev en (D + 2) 115 [.ref 65, .int (61 : Int32)] s1 = _ from qev_up (D := D + 2) D 2 (by omega) e2, bV_some, (LKs_at g2).1, if_neg (show ¬ ¬ nI 2 = (2 : Int32) from not_not_intro rfl), (LKs_at g2).2.1, show qev en (D + 2) 84 [.ref 11, .long (Int64.ofNat v2)] s2 = _ from (x_namedK (d := D + 1) r2 hn).2 o (by omega), bI_some]
  refine le_X6_readTarget_89 en _ _ _ _ _ ?_
  rw [x_isCell, if_neg (nI_pos (by omega)), if_neg (by rw [n_le (by decide) (by omega)]; omega), bI_some, if_pos (by decide), gd_in hN (by decide), n_cl (by omega), nm_eq, qev_up (D := D + 2) (D + 1) 1 (by omega) e4, bV_some]
/-- a local on the left, no cell on the right -/
theorem x_tgS (h : RSb s th c M L NW C V CL H LD A O Q) (hk : LKs s ((2, v) :: (61, 0) :: (k2, v2) :: K)) (hw : LWc CL LD th lw) (hn : NWc NW) (hv : v = 112 ∨ v = 113) (h2 : k2 ≠ 2 ∨ (k2 = 2 ∧ (v2 = 112 ∨ v2 = 113))) (hN : N < 100) : ∃ s' j CL' LD' lw', QV en 5 126 [.ref 65, .int (nI N)] s (some (.int 0), s') ∧ LKs s' ((k2, v2) :: K) ∧ RSb s' th c M L NW C V CL' H LD' (up2 A 3 N (nI j)) O Q ∧ j < lw'.length ∧ XF th c M c M CL CL' LD LD' O Q O Q lw lw' := by
  obtain ⟨s1, j, CL', LD', lw', e1, g1, r1, j1, x1⟩ := x_rdL (en := en) (N := N) h hk hw hv hN
  obtain ⟨s2, e2, g2, f2⟩ := x_needK (en := en) (d := 0) g1
  have r2 := RSb_ad r1 f2
  refine ⟨s2, j, CL', LD', lw', fun D hD => ?_, g2, r2, j1, x1⟩
  obtain ⟨D, rfl⟩ : ∃ z, D = z + 2 + 1 := ⟨D - 3, by omega⟩
  have h89 : L_X6_readTarget_89 en (D + 2) (nI N) (-1 : Int32) s2 = some (some (.int 0), s2) := by
    refine le_X6_readTarget_89 en _ _ _ _ _ ?_
    rw [x_isCell, if_pos (by decide), bI_some, if_neg (by decide)]
  refine le_X6_readTarget en _ _ _ _ ?_
  rw [(LKs_at hk).2.1, show qev en (D + 2) 84 [.ref 11, .long (Int64.ofNat v)] s = _ from (x_namedK (d := D + 1) h hn).1 hv, bI_some, x_isCell, if_pos (by decide), bI_some, if_pos rfl, e1 (D + 2) (by omega), bV_some, show qev en (D + 2) 115 [.ref 65, .int (61 : Int32)] s1 = _ from qev_up (D := D + 2) D 2 (by omega) e2, bV_some, (LKs_at g2).1]
  have k4 := (LKs_at g2).2.2
  by_cases q : k2 = 2
  · obtain ⟨-, hv2⟩ := h2.resolve_left (fun z => z q)
    rw [q, if_neg (show ¬ ¬ nI 2 = (2 : Int32) from not_not_intro rfl), (LKs_at g2).2.1, show qev en (D + 2) 84 [.ref 11, .long (Int64.ofNat v2)] s2 = _ from (x_namedK (d := D + 1) r2 hn).1 hv2, bI_some]
    exact h89
  · rw [if_pos (by rw [n_eq (by decide) (by omega)]; exact q)]
    exact h89
/-- a lock told -/
theorem x_obL (h : RSb s th c M L NW C V CL H LD A O Q) (hk : LKs s ((2, v) :: b :: K)) (hn : NWc NW) (ho : lkW o v) (hN : N < 100) (h5 : k = 5 ∨ k = 6) : ∃ s', QV en 5 129 [.ref 65, .int (nI N), .int (nI k)] s (none, s') ∧ LKs s' (b :: K) ∧ RSb s' th c M L NW C V CL H LD (up2 A 2 N (nI o)) O Q := by
  have o3 : o < 2 := by rcases ho with ⟨rfl, -⟩ | ⟨rfl, -⟩ <;> decide
  have r2 := RSb_at (f := 2) (i := N) (x := nI o) h (by decide)
  have g2 := LKs_uI (a := 20) (i := N) (x := nI o) hk (by decide) (by decide) (by decide)
  obtain ⟨s3, e3, g3, f3⟩ := x_needK (en := en) (d := 0) g2
  refine ⟨s3, fun D hD => ?_, g3, RSb_ad r2 f3⟩
  obtain ⟨D, rfl⟩ : ∃ z, D = z + 2 + 1 + 1 := ⟨D - 4, by omega⟩
  refine le_X6_readObject en _ _ _ _ _ ?_
  have e130 : qev en (D + 2 + 1) 130 [.ref 65, .int (nI N), .int (1 : Int32), .int (nI o)] s = some (none, s3) := by
    refine le_X6_needName en _ _ _ _ _ _ ?_
    rw [(LKs_at hk).1, if_neg (show ¬ ¬ nI 2 = (2 : Int32) from not_not_intro rfl), if_pos (by decide)]
    refine le_X6_needName_20 en _ _ _ _ _ ?_
    rw [gd_in hN (by decide), n_cl (by omega), nm_eq, show qev en (D + 2) 115 [.ref 65, .int (2 : Int32)] _ = _ from qev_up (D := D + 2) D 2 (by omega) e3, bV_some]
  rw [(LKs_at hk).1, if_neg (show ¬ ¬ nI 2 = (2 : Int32) from not_not_intro rfl), (LKs_at hk).2.1, show qev en (D + 2 + 1) 84 [.ref 11, .long (Int64.ofNat v)] s = _ from (x_namedK (d := D + 2) h hn).2 (8 + o) (by omega), bI_some]
  refine le_X6_readObject_29 en _ _ _ _ _ _ ?_
  rw [if_neg (by rw [n_eq (by decide) (by omega)]; omega), if_pos (by rw [n_eq (by decide) (by omega)]; omega), if_neg (by rw [n_gt (by decide) (by omega)]; omega), if_neg (by rw [n_lt (by decide) (by omega)]; omega), x_isLock, if_neg (by rw [n_gt (by decide) (by omega)]; omega), if_neg (by rw [n_le (by decide) (by omega)]; omega), bI_some, show nI (8 + o) - (8 : Int32) = nI o from by rw [show (8 : Int32) = nI 8 from rfl, nI_sub (by omega), Nat.add_sub_cancel_left], e130, bV_some]
/-- a cell told -/
theorem x_obC (h : RSb s th c M L NW C V CL H LD A O Q) (hk : LKs s ((2, v) :: (44, 0) :: b :: K)) (hn : NWc NW) (ho : ceW o v) (hN : N < 100) (h5 : k = 3 ∨ k = 4) : ∃ s', QV en 5 129 [.ref 65, .int (nI N), .int (nI k)] s (none, s') ∧ LKs s' (b :: K) ∧ RSb s' th c M L NW C V CL H LD (up2 A 2 N (nI o)) O Q := by
  have o3 : o < 3 := by rcases ho with ⟨rfl, -⟩ | ⟨rfl, -⟩ | ⟨rfl, -⟩ <;> decide
  have r2 := RSb_at (f := 2) (i := N) (x := nI o) h (by decide)
  have g2 := LKs_uI (a := 20) (i := N) (x := nI o) hk (by decide) (by decide) (by decide)
  obtain ⟨s3, e3, g3, f3⟩ := x_needK (en := en) (d := 0) g2
  obtain ⟨s4, e4, g4, f4⟩ := x_needK (en := en) (d := 0) g3
  refine ⟨s4, fun D hD => ?_, g4, RSb_ad (RSb_ad r2 f3) f4⟩
  obtain ⟨D, rfl⟩ : ∃ z, D = z + 2 + 1 + 1 := ⟨D - 4, by omega⟩
  refine le_X6_readObject en _ _ _ _ _ ?_
  have e130 : qev en (D + 2 + 1) 130 [.ref 65, .int (nI N), .int (1 : Int32), .int (nI o)] s = some (none, s3) := by
    refine le_X6_needName en _ _ _ _ _ _ ?_
    rw [(LKs_at hk).1, if_neg (show ¬ ¬ nI 2 = (2 : Int32) from not_not_intro rfl), if_pos (by decide)]
    refine le_X6_needName_20 en _ _ _ _ _ ?_
    rw [gd_in hN (by decide), n_cl (by omega), nm_eq, show qev en (D + 2) 115 [.ref 65, .int (2 : Int32)] _ = _ from qev_up (D := D + 2) D 2 (by omega) e3, bV_some]
  rw [(LKs_at hk).1, if_neg (show ¬ ¬ nI 2 = (2 : Int32) from not_not_intro rfl), (LKs_at hk).2.1, show qev en (D + 2 + 1) 84 [.ref 11, .long (Int64.ofNat v)] s = _ from (x_namedK (d := D + 2) h hn).2 o (by omega), bI_some]
  have h40 : L_X6_readObject_40 en (D + 2 + 1) (nI N) (nI o) s = some (none, s4) := by
    refine le_X6_readObject_40 en _ _ _ _ _ ?_
    rw [x_isCell, if_neg (nI_pos (by omega)), if_neg (by rw [n_le (by decide) (by omega)]; omega), bI_some, e130, bV_some, show qev en (D + 2 + 1) 115 [.ref 65, .int (44 : Int32)] s3 = _ from qev_up (D := D + 2 + 1) (D + 1) 2 (by omega) e4, bV_some]
  refine le_X6_readObject_29 en _ _ _ _ _ _ ?_
  rcases h5 with rfl | rfl
  · rw [if_pos (by decide)]; exact h40
  · rw [if_neg (by decide), if_neg (by decide)]; exact h40
/-- nothing told -/
theorem x_obN (hk : LKs s ((k2, v2) :: K)) (h : RSb s th c M L NW C V CL H LD A O Q) (hn : NWc NW) (h2 : k2 ≠ 2 ∨ (k2 = 2 ∧ (v2 = 112 ∨ v2 = 113))) (h5 : k = 12 ∨ k = 14 ∨ k = 17) : QV en 5 129 [.ref 65, .int (nI N), .int (nI k)] s (none, s) := fun D hD => by
  obtain ⟨D, rfl⟩ : ∃ z, D = z + 2 + 1 + 1 := ⟨D - 4, by omega⟩
  have h29 : ∀ w, L_X6_readObject_29 en (D + 2 + 1) (nI N) (nI k) w s = some (none, s) := fun w => by
    have h86 : L_X6_readObject_86 en (D + 2 + 1) (nI N) (nI k) s = some (none, s) := by
      refine le_X6_readObject_86 en _ _ _ _ _ ?_
      rcases h5 with rfl | rfl | rfl
      all_goals rw [if_neg (by decide), if_pos (by decide), if_pos (by decide)]
    refine le_X6_readObject_29 en _ _ _ _ _ _ ?_
    rcases h5 with rfl | rfl | rfl
    all_goals
      rw [if_neg (by decide), if_pos (by decide), if_neg (by decide), if_pos (by decide)]
      exact h86
  refine le_X6_readObject en _ _ _ _ _ ?_
  have k4 := (LKs_at hk).2.2
  by_cases q : k2 = 2
  · obtain ⟨-, hv2⟩ := h2.resolve_left (fun z => z q)
    rw [(LKs_at hk).1, q, if_neg (show ¬ ¬ nI 2 = (2 : Int32) from not_not_intro rfl), (LKs_at hk).2.1, show qev en (D + 2 + 1) 84 [.ref 11, .long (Int64.ofNat v2)] s = _ from (x_namedK (d := D + 2) h hn).1 hv2, bI_some]
    exact h29 _
  · rw [(LKs_at hk).1, if_pos (by rw [n_eq (by decide) (by omega)]; exact q)]
    exact h29 _
/-- into a local -/
theorem x_into (h : RSb s th c M L NW C V CL H LD A O Q) (hk : LKs s ((321, v2) :: (2, v) :: b :: K)) (hw : LWc CL LD th lw) (hn : NWc NW) (hv : v = 112 ∨ v = 113) (hN : N < 100) : ∃ s' j CL' LD' lw', QV en 5 131 [.ref 65, .int (nI N)] s (none, s') ∧ LKs s' (b :: K) ∧ RSb s' th c M L NW C V CL' H LD' (up2 A 3 N (nI j)) O Q ∧ j < lw'.length ∧ XF th c M c M CL CL' LD LD' O Q O Q lw lw' := by
  obtain ⟨s1, e1, g1, f1⟩ := x_skipY (en := en) (d := 0) hk
  have r1 := RSb_ad h f1
  obtain ⟨s2, j, CL', LD', lw', e2, g2, r2, j2, x2⟩ := x_rdL (en := en) (N := N) r1 g1 hw hv hN
  refine ⟨s2, j, CL', LD', lw', fun D hD => ?_, g2, r2, j2, x2⟩
  obtain ⟨D, rfl⟩ : ∃ z, D = z + 2 + 1 + 1 := ⟨D - 4, by omega⟩
  refine le_X6_readInto en _ _ _ _ ?_
  rw [show qev en (D + 2 + 1) 116 [.ref 65, .int (321 : Int32)] s = _ from qev_up (D := D + 2 + 1) (D + 1) 2 (by omega) e1, bI_some, if_pos (by decide), (LKs_at g1).1, if_pos (by rfl), (LKs_at g1).2.1, show qev en (D + 2 + 1) 84 [.ref 11, .long (Int64.ofNat v)] s1 = _ from (x_namedK (d := D + 2) r1 hn).1 hv, bI_some, if_pos (by decide), e2 (D + 2 + 1) (by omega), bV_some]
end PRT
