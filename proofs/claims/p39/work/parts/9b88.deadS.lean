/-! THE READER: statements behind a fault. -/
section DDS
variable {en : pN} {d d' k i n N j x y F p : Nat} {s s' t t' : qS} {B : Nat → Nat} {v w v1 v2 v3 dp pa pt : Int32}
theorem dX_ui {a : Nat} (h : dX s F p) (ha : a ≠ 1) (hb : a ≠ 65) : dX (uI s a j v) F p := dX_fr h (by rw [uI_ne (Ne.symm ha)]) (by rw [uI_ne (Ne.symm ha)]) (by rw [uI_ne (Ne.symm hb)]) (by rw [uI_ne (Ne.symm hb)])
theorem wkX.bm (h : bmF s s') : wkX s s' := ⟨fun a h1 h2 _ _ => h.1 a h1 h2, fun j _ b _ => h.2.1 j b, ⟨fun j _ => by rw [h.1 7 (by decide) (by decide)], fun j _ => by rw [h.1 11 (by decide) (by decide)]⟩, fun j a b _ _ => h.2.2.1 j a b, fun a _ _ _ => by rw [h.2.2.2], by rw [h.2.2.2]⟩
theorem wkX.ui {a : Nat} (ha : 16 ≤ a ∧ a ≤ 35 ∨ a = 68) : wkX s (uI s a j v) := ⟨fun b _ _ h3 h4 => uI_ne (by omega), fun j _ _ _ => by rw [uI_ne (by omega)], ⟨fun j _ => by rw [uI_ne (by omega)], fun j _ => by rw [uI_ne (by omega)]⟩, fun j _ _ _ _ => by rw [uI_ne (by omega)], fun _ _ _ _ => rfl, rfl⟩
theorem wkX.uj {w : Int64} : wkX s (uJ s 67 j w) := ⟨fun _ _ _ _ _ => rfl, fun _ _ _ _ => rfl, ⟨fun _ _ => rfl, fun _ _ => rfl⟩, fun _ _ _ _ _ => rfl, fun a _ h _ => uJ_ne h, rfl⟩
theorem dX_2 (h : dX s F p) : ¬ s.1 1 9 = (2 : Int32) := dX_ne (m := 2) h ⟨by decide, by decide⟩
theorem dX_123 (h : dX s F p) : ¬ s.1 1 9 = (123 : Int32) := dX_ne (m := 123) h ⟨by decide, by decide⟩
theorem dX_125 (h : dX s F p) : ¬ s.1 1 9 = (125 : Int32) := dX_ne (m := 125) h ⟨by decide, by decide⟩
theorem xDn2 (h : dX s F p) : qev en (d + 2) 115 [.ref 65, .int (2 : Int32)] s = some (none, bmS s 2) := x_deadNeed (m := 2) h ⟨by decide, by decide⟩
theorem xDn44 (h : dX s F p) : qev en (d + 2) 115 [.ref 65, .int (44 : Int32)] s = some (none, bmS s 2) := x_deadNeed (m := 44) h ⟨by decide, by decide⟩
theorem xDn59 (h : dX s F p) : qev en (d + 2) 115 [.ref 65, .int (59 : Int32)] s = some (none, bmS s 2) := x_deadNeed (m := 59) h ⟨by decide, by decide⟩
theorem xDn61 (h : dX s F p) : qev en (d + 2) 115 [.ref 65, .int (61 : Int32)] s = some (none, bmS s 2) := x_deadNeed (m := 61) h ⟨by decide, by decide⟩
theorem xDn123 (h : dX s F p) : qev en (d + 2) 115 [.ref 65, .int (123 : Int32)] s = some (none, bmS s 2) := x_deadNeed (m := 123) h ⟨by decide, by decide⟩
theorem xDn125 (h : dX s F p) : qev en (d + 2) 115 [.ref 65, .int (125 : Int32)] s = some (none, bmS s 2) := x_deadNeed (m := 125) h ⟨by decide, by decide⟩
theorem xD_130 (h : dX s F p) (hN : N < 100) : ∃ s', qev en (d + 3) 130 [.ref 65, .int (nI N), .int v, .int w] s = some (none, s') ∧ dX s' F p ∧ wkX s s' := by
  refine ⟨bmS (uI s 20 N w) 2, le_X6_needName en _ _ _ _ _ _ ?_, bmS_dead (dX_ui h (by decide) (by decide)), (wkX.ui (by decide)).tr (wkX.bm bmS_F)⟩
  rw [if_pos (dX_2 h)]
  refine le_X6_needName_20 en _ _ _ _ _ ?_
  rw [gd_in (by omega) (by decide), n_cl (by omega), nm_eq, xDn2 (dX_ui h (by decide) (by decide)), bV_some]
theorem xD_129 (h : dX s F p) (hN : N < 100) (hk : k < 19) : ∃ s', qev en (d + 4) 129 [.ref 65, .int (nI N), .int (nI k)] s = some (none, s') ∧ dX s' F p ∧ wkX s s' := by
  have pre : ∀ r, L_X6_readObject_29 en (d + 3) (nI N) (nI k) (-1) s = some r → qev en (d + 4) 129 [.ref 65, .int (nI N), .int (nI k)] s = some r := fun r hr => by
    refine le_X6_readObject en _ _ _ _ _ ?_
    rw [if_pos (dX_2 h)]
    exact hr
  by_cases k34 : k = 3 ∨ k = 4
  · obtain ⟨s1, e1, e2, e3⟩ := xD_130 (en := en) (d := d) (v := 0) (w := -1) h hN
    refine ⟨bmS s1 2, pre _ ?_, bmS_dead e2, e3.tr (wkX.bm bmS_F)⟩
    have g40 : L_X6_readObject_40 en (d + 3) (nI N) (-1) s = some (none, bmS s1 2) := by
      refine le_X6_readObject_40 en _ _ _ _ _ ?_
      have e85 : qev en (d + 3) 85 [.int (-1)] s = some (some (.int 0), s) := by
        refine le_X5_isCell en _ _ _ _ ?_
        rw [if_pos (by decide)]
      rw [e85, bI_some, e1, bV_some, xDn44 e2, bV_some]
    refine le_X6_readObject_29 en _ _ _ _ _ _ ?_
    rcases k34 with z | z
    · rw [if_pos (by rw [z]; rfl)]; exact g40
    · rw [if_neg (by rw [z]; decide), if_neg (by rw [z]; decide)]; exact g40
  · by_cases k59 : 5 ≤ k ∧ k ≤ 9
    · obtain ⟨s1, e1, e2, e3⟩ := xD_130 (en := en) (d := d) (v := 0) (w := -1 - 8) h hN
      refine ⟨s1, pre _ ?_, e2, e3⟩
      refine le_X6_readObject_29 en _ _ _ _ _ _ ?_
      rw [if_neg (by rw [n_eq (by decide) (by omega)]; omega), if_pos (by rw [n_eq (by decide) (by omega)]; omega), if_neg (by rw [n_gt (by decide) (by omega)]; omega), if_neg (by rw [n_lt (by decide) (by omega)]; omega), x_isLock, bI_some, if_pos (by decide), e1, bV_some]
    · have pre2 : ∀ r, L_X6_readObject_86 en (d + 3) (nI N) (nI k) s = some r → qev en (d + 4) 129 [.ref 65, .int (nI N), .int (nI k)] s = some r := fun r hr => pre r (by
        refine le_X6_readObject_29 en _ _ _ _ _ _ ?_
        rw [if_neg (by rw [n_eq (by decide) (by omega)]; omega), if_pos (by rw [n_eq (by decide) (by omega)]; omega)]
        by_cases z : k < 5
        · rw [if_pos (by rw [n_gt (by decide) (by omega)]; exact z)]; exact hr
        · rw [if_neg (by rw [n_gt (by decide) (by omega)]; exact z), if_pos (by rw [n_lt (by decide) (by omega)]; omega)]; exact hr)
      by_cases k10 : k = 10 ∨ k = 11
      · have hD : dX (uI (uJ s 67 N (s.2.1 1 11)) 68 N ((uJ s 67 N (s.2.1 1 11)).1 1 10)) F p := dX_ui (dX_fr h rfl rfl rfl rfl) (by decide) (by decide)
        refine ⟨bmS (uI (uJ s 67 N (s.2.1 1 11)) 68 N ((uJ s 67 N (s.2.1 1 11)).1 1 10)) 2, pre2 _ ?_, bmS_dead hD, (wkX.uj.tr (wkX.ui (by decide))).tr (wkX.bm bmS_F)⟩
        have g98 : L_X6_readObject_98 en (d + 3) (nI N) s = some (none, bmS (uI (uJ s 67 N (s.2.1 1 11)) 68 N ((uJ s 67 N (s.2.1 1 11)).1 1 10)) 2) := by
          refine le_X6_readObject_98 en _ _ _ _ ?_
          rw [gd_in (by omega) (by decide), n_cl (by omega), nm_eq, nm_eq, xDn2 hD, bV_some]
        refine le_X6_readObject_86 en _ _ _ _ _ ?_
        rcases k10 with z | z
        · rw [if_pos (by rw [z]; rfl)]; exact g98
        · rw [if_neg (by rw [z]; decide), if_neg (by rw [z]; decide)]; exact g98
      · by_cases k15 : k = 15
        · have e83 : qev en (d + 3) 83 [.ref 66, .int (0 : Int32), .int (7 : Int32), .long (s.2.1 1 11)] s = some (some (.int (fnd (fun j => s.2.1 66 (0 + j)) (s.2.1 1 11) 7 0)), s) := c_find (a := 66) (p := 0) (c := 7) rfl (by decide) (by decide)
          have hD := dX_ui (j := N) (v := fnd (fun j => s.2.1 66 (0 + j)) (s.2.1 1 11) 7 0) h (show 27 ≠ 1 by decide) (show 27 ≠ 65 by decide)
          refine ⟨bmS (uI s 27 N (fnd (fun j => s.2.1 66 (0 + j)) (s.2.1 1 11) 7 0)) 2, pre2 _ ?_, bmS_dead hD, (wkX.ui (by decide)).tr (wkX.bm bmS_F)⟩
          refine le_X6_readObject_86 en _ _ _ _ _ ?_
          rw [if_neg (by rw [k15]; decide), if_pos (by rw [k15]; decide), if_neg (by rw [k15]; decide), e83, bI_some, gd_in (by omega) (by decide), n_cl (by omega), nm_eq, xDn2 hD, bV_some]
        · refine ⟨s, pre2 _ ?_, h, wkX.rf⟩
          refine le_X6_readObject_86 en _ _ _ _ _ ?_
          rw [if_neg (by rw [n_eq (by decide) (by omega)]; omega), if_pos (by rw [n_eq (by decide) (by omega)]; omega), if_pos (by rw [n_eq (by decide) (by omega)]; exact k15)]
theorem xD_131 (h : dX s F p) : qev en (d + 2) 131 [.ref 65, .int v] s = some (none, s) := by
  refine le_X6_readInto en _ _ _ _ ?_
  have e116 : qev en (d + 1) 116 [.ref 65, .int (321 : Int32)] s = some (some (.int 0), s) := x_deadSkip (m := 321) h ⟨by decide, by decide⟩
  rw [e116, bI_some, if_neg (not_not_intro rfl)]
/-- no block -/
theorem xD_122 (h : dX s F p) : ∃ s', qev en (d + 4) 122 [.ref 65, .int dp, .int pa, .int pt] s = some (none, s') ∧ bmF s s' ∧ dX s' F p := by
  have h2 := bmS_dead (k := 2) h
  refine ⟨bmS (bmS s 2) 2, le_X6_readBlock en _ _ _ _ _ _ ?_, bmS_F.tr' bmS_F, bmS_dead h2⟩
  rw [if_pos (dX_123 h)]
  refine le_X6_readBlock_23 en _ _ _ _ _ _ ?_
  rw [xDn123 h, bV_some]
  refine le_X6_readBlock_35 en _ _ _ _ _ _ _ _ ?_
  have e123 : qev en (d + 3) 123 [.ref 65] (bmS s 2) = some (some (.int 0), bmS (bmS s 2) 2) := by
    refine le_X6_mayBegin en _ _ _ ?_
    rw [if_pos (dX_2 h2)]
    refine le_X6_mayBegin_16 en _ _ _ _ ?_
    rw [if_pos rfl]
    refine le_X6_mayBegin_39 en _ _ _ _ _ ?_
    rw [if_neg (not_not_intro rfl), if_pos (by
      rcases dX_kind h2 with z | z <;> (rw [z]; decide))]
    refine le_X6_mayBegin_70 en _ _ _ ?_
    rw [x_blame, bV_some]
    refine le_X6_mayBegin_117 en _ _ _ ?_
    rw [if_pos bmS_0]
  rw [if_neg (by decide), if_neg (dX_125 h2), e123, bI_some, if_neg (not_not_intro rfl)]
theorem x_hasExp : ∃ b : Bool, qev en (d + 1) 125 [.ref 65, .int v] s = some (some (.int (bt b)), s) := by
  have h12 : ∃ b : Bool, L_X6_hasExp_12 en d s = some (some (.int (bt b)), s) := by
    by_cases z : s.1 1 9 = 59
    · exact ⟨false, le_X6_hasExp_12 en _ _ _ (by rw [if_pos z]; rfl)⟩
    · exact ⟨true, le_X6_hasExp_12 en _ _ _ (by rw [if_neg z]; rfl)⟩
  have h44 : ∃ b : Bool, L_X6_hasExp_44 en d v s = some (some (.int (bt b)), s) := by
    by_cases z1 : v = 14
    · exact ⟨true, le_X6_hasExp_44 en _ _ _ _ (by rw [if_pos z1]; rfl)⟩
    · by_cases z2 : v = 17
      · exact ⟨true, le_X6_hasExp_44 en _ _ _ _ (by rw [if_neg z1, if_pos z2]; rfl)⟩
      · by_cases z3 : v = 18
        · exact ⟨true, le_X6_hasExp_44 en _ _ _ _ (by rw [if_neg z1, if_neg z2, if_neg (not_not_intro z3)]; rfl)⟩
        · exact ⟨false, le_X6_hasExp_44 en _ _ _ _ (by rw [if_neg z1, if_neg z2, if_pos z3]; rfl)⟩
  obtain ⟨b1, g1⟩ := h12
  obtain ⟨b2, g2⟩ := h44
  by_cases z1 : v = 15
  · exact ⟨b1, le_X6_hasExp en _ _ _ _ (by rw [if_pos z1]; exact g1)⟩
  by_cases z2 : v = 16
  · exact ⟨b1, le_X6_hasExp en _ _ _ _ (by rw [if_neg z1, if_neg (not_not_intro z2)]; exact g1)⟩
  by_cases z3 : v = 0
  · exact ⟨true, le_X6_hasExp en _ _ _ _ (by rw [if_neg z1, if_pos z2, if_pos z3]; rfl)⟩
  by_cases z4 : v < 2
  · exact ⟨b2, le_X6_hasExp en _ _ _ _ (by rw [if_neg z1, if_pos z2, if_neg z3, if_pos z4]; exact g2)⟩
  by_cases z5 : v ≤ 4
  · exact ⟨true, le_X6_hasExp en _ _ _ _ (by rw [if_neg z1, if_pos z2, if_neg z3, if_neg z4, if_pos z5]; rfl)⟩
  · exact ⟨b2, le_X6_hasExp en _ _ _ _ (by rw [if_neg z1, if_pos z2, if_neg z3, if_neg z4, if_neg z5]; exact g2)⟩
/-- an expression, behind a fault -/
theorem xD_134 (h : dX s F p) : ∃ s', qev en (d + 12) 134 [.ref 65, .int (0 : Int32), .int (1 : Int32)] s = some (none, s') ∧ bmF s s' ∧ dX s' F p := x_deadLevel (d := d) 4 0 s rfl h
theorem xD_164 (h : dX s F p) {c : Int32} : ∃ s', L_X6_readStatement_164 en (d + 12) v dp c s = some (none, s') ∧ dX s' F p ∧ wkX s s' := by
  have g183 : ∃ s', L_X6_readStatement_183 en (d + 12) v dp c s = some (none, s') ∧ dX s' F p ∧ wkX s s' := by
    obtain ⟨s1, e1, e2, e3⟩ := xD_122 (en := en) (d := d + 8) (dp := dp + 1) (pa := v) (pt := 0) h
    have e116 : qev en (d + 12) 116 [.ref 65, .int (316 : Int32)] s1 = some (some (.int 0), s1) := x_deadSkip (m := 316) e3 ⟨by decide, by decide⟩
    refine ⟨s1, le_X6_readStatement_183 en _ _ _ _ _ _ ?_, e3, wkX.bm e2⟩
    rw [e1, bV_some]
    by_cases z : c = 17
    · rw [if_neg (not_not_intro z), e116, bI_some, if_pos rfl]
    · rw [if_pos z]
  by_cases z1 : c = 17
  · obtain ⟨s1, e1, e2⟩ := g183
    exact ⟨s1, le_X6_readStatement_164 en _ _ _ _ _ _ (by rw [if_pos z1]; exact e1), e2⟩
  by_cases z2 : c = 18
  · obtain ⟨s1, e1, e2⟩ := g183
    exact ⟨s1, le_X6_readStatement_164 en _ _ _ _ _ _ (by rw [if_neg z1, if_pos z2]; exact e1), e2⟩
  · refine ⟨bmS s 2, le_X6_readStatement_164 en _ _ _ _ _ _ ?_, bmS_dead h, wkX.bm bmS_F⟩
    rw [if_neg z1, if_neg z2, xDn59 h, bV_some]
theorem xD_149 (h : dX s F p) {c : Int32} : ∃ s', L_X6_readStatement_149 en (d + 12) v dp c s = some (none, s') ∧ dX s' F p ∧ wkX s s' := by
  obtain ⟨s1, e1, e2⟩ := xD_164 (en := en) (d := d) (v := v) (dp := dp) (c := c) h
  have g159 : L_X6_readStatement_159 en (d + 12) v dp c s = some (none, s1) := by
    refine le_X6_readStatement_159 en _ _ _ _ _ _ ?_
    rw [xD_131 (d := d + 10) h, bV_some]
    exact e1
  refine ⟨s1, le_X6_readStatement_149 en _ _ _ _ _ _ ?_, e2⟩
  by_cases z1 : c = 3
  · rw [if_pos z1]; exact g159
  · rw [if_neg z1]
    by_cases z2 : c = 4
    · rw [if_neg (not_not_intro z2)]; exact g159
    · rw [if_pos z2]; exact e1
theorem xD_90 (h : dX s F p) (h7 : s.2.2 65 7 = 8) (hN : N < 100) {c : Int32} : ∃ s', L_X6_readStatement_90 en (d + 12) (nI N) dp c s = some (none, s') ∧ dX s' F p ∧ wkX s s' := by
  have e4 : lc (8 - 1) = 4 := rfl
  have pre : ∀ r, (if ¬ c = (3 : Int32) then L_X6_readStatement_149 en (d + 12) (nI N) dp c (uI s 24 N (s.1 (8 - 1) 3)) else bV (qev en (d + 12) 115 [.ref 65, .int (44 : Int32)] (uI s 24 N (s.1 (8 - 1) 3))) (fun s7 => gd (s7.2.2 65 7 ≠ 0 ∧ lc (s7.2.2 65 7 - 1) = 4) (nm (s7.2.2 65 7 - 1) (fun q10 => nm (uI s7 25 N (s7.1 q10 3)) (fun s11 => bV (qev en (d + 12) 134 [.ref 65, .int (0 : Int32), .int (1 : Int32)] s11) (fun s13 => gd (s13.2.2 65 7 ≠ 0 ∧ lc (s13.2.2 65 7 - 1) = 4) (nm (s13.2.2 65 7 - 1) (fun q16 => nm (uI s13 26 N (s13.1 q16 3)) (fun s17 => L_X6_readStatement_149 en (d + 12) (nI N) dp c s17))))))))) = some r → L_X6_readStatement_90 en (d + 12) (nI N) dp c s = some r := fun r hr => by
    refine le_X6_readStatement_90 en _ _ _ _ _ _ ?_
    rw [h7, gd_true ⟨by decide, e4⟩, nm_eq, gd_in (by omega) (by decide), n_cl (by omega), nm_eq]
    exact hr
  have hD := dX_ui (j := N) (v := s.1 (8 - 1) 3) h (show 24 ≠ 1 by decide) (show 24 ≠ 65 by decide)
  by_cases z : c = 3
  · have hD2 := bmS_dead (k := 2) hD
    have hD3 := dX_ui (j := N) (v := (bmS (uI s 24 N (s.1 (8 - 1) 3)) 2).1 (8 - 1) 3) hD2 (show 25 ≠ 1 by decide) (show 25 ≠ 65 by decide)
    obtain ⟨s4, g1, g2, g3⟩ := xD_134 (en := en) (d := d) hD3
    have hD5 := dX_ui (j := N) (v := s4.1 (8 - 1) 3) g3 (show 26 ≠ 1 by decide) (show 26 ≠ 65 by decide)
    obtain ⟨s6, e1, e2, e3⟩ := xD_149 (en := en) (d := d) (v := nI N) (dp := dp) (c := c) hD5
    have r1 : (bmS (uI s 24 N (s.1 (8 - 1) 3)) 2).2.2 65 7 = 8 := by rw [(bmS_F (k := 2)).2.2.2]; exact h7
    have r2 : s4.2.2 65 7 = 8 := by rw [g2.2.2.2]; exact r1
    refine ⟨s6, pre _ ?_, e2, ((((wkX.ui (by decide)).tr (wkX.bm bmS_F)).tr (wkX.ui (by decide))).tr (wkX.bm g2)).tr ((wkX.ui (by decide)).tr e3)⟩
    rw [if_neg (not_not_intro z), xDn44 hD, bV_some, r1, gd_true ⟨by decide, e4⟩, nm_eq, nm_eq, g1, bV_some, r2, gd_true ⟨by decide, e4⟩, nm_eq, nm_eq]
    exact e1
  · obtain ⟨s6, e1, e2, e3⟩ := xD_149 (en := en) (d := d) (v := nI N) (dp := dp) (c := c) hD
    refine ⟨s6, pre _ ?_, e2, (wkX.ui (by decide)).tr e3⟩
    rw [if_pos z]
    exact e1
theorem xD_47 (h : dX s F p) (h7 : s.2.2 65 7 = 8) (hN : N < 100) {c : Int32} : ∃ s', L_X6_readStatement_47 en (d + 12) (nI N) dp c s = some (none, s') ∧ dX s' F p ∧ wkX s s' := by
  have e4 : lc (8 - 1) = 4 := rfl
  have hD := dX_ui (j := N) (v := (uI s 18 N c).1 (8 - 1) 3) (dX_ui (j := N) (v := c) h (show 18 ≠ 1 by decide) (show 18 ≠ 65 by decide)) (show 23 ≠ 1 by decide) (show 23 ≠ 65 by decide)
  have pre : ∀ r, bI (qev en (d + 12) 125 [.ref 65, .int c] (uI (uI s 18 N c) 23 N ((uI s 18 N c).1 (8 - 1) 3))) (fun w6 s7 => if w6 = (0 : Int32) then L_X6_readStatement_90 en (d + 12) (nI N) dp c s7 else bV (qev en (d + 12) 134 [.ref 65, .int (0 : Int32), .int (1 : Int32)] s7) (fun s11 => L_X6_readStatement_90 en (d + 12) (nI N) dp c s11)) = some r → L_X6_readStatement_47 en (d + 12) (nI N) dp c s = some r := fun r hr => by
    refine le_X6_readStatement_47 en _ _ _ _ _ _ ?_
    rw [gd_in (by omega) (by decide), n_cl (by omega), nm_eq, show (uI s 18 N c).2.2 65 7 = 8 from h7, gd_true ⟨by decide, e4⟩, nm_eq, nm_eq]
    exact hr
  obtain ⟨b, hb⟩ := x_hasExp (en := en) (d := d + 11) (v := c) (s := uI (uI s 18 N c) 23 N ((uI s 18 N c).1 (8 - 1) 3))
  cases b
  · obtain ⟨s6, e1, e2, e3⟩ := xD_90 (en := en) (d := d) (dp := dp) (c := c) hD h7 hN
    refine ⟨s6, pre _ ?_, e2, ((wkX.ui (by decide)).tr (wkX.ui (by decide))).tr e3⟩
    rw [hb, bI_some, if_pos (show bt false = (0 : Int32) from rfl)]
    exact e1
  · obtain ⟨s4, g1, g2, g3⟩ := xD_134 (en := en) (d := d) hD
    obtain ⟨s6, e1, e2, e3⟩ := xD_90 (en := en) (d := d) (dp := dp) (c := c) g3 (by rw [g2.2.2.2]; exact h7) hN
    refine ⟨s6, pre _ ?_, e2, (((wkX.ui (by decide)).tr (wkX.ui (by decide))).tr (wkX.bm g2)).tr e3⟩
    rw [hb, bI_some, if_neg (by decide), g1, bV_some]
    exact e1
end DDS

