/-! THE READER: what statements are about, on both sides. -/
section OBJ
variable {en : pN} {d d' k i i' n N j x y r m u F p nc nl nt : Nat} {V cl : Nat → Nat} {U : Nat → Nat → Nat} {s s' s'' t t' t'' : qS} {B : Nat → Nat} {v w : Int32}
/-- the class's name for what stands here: -1 where no word stands -/
theorem x_129 (hE : exS false 7 0 u B n s t V U cl nc nl nt i m) {wx : Int32} (hw : tkK B n i = 2 → qev en (d + 1) 84 [.ref 11, .long (s.2.1 1 11)] s = some (some (.int wx), s)) (hno : tkK B n i ≠ 2 → wx = -1) : ∀ r, L_X6_readObject_29 en (d + 1) (nI N) (nI k) wx s = some r → qev en (d + 2) 129 [.ref 65, .int (nI N), .int (nI k)] s = some r := by
  intro r hr
  obtain ⟨hi, c1, -, -⟩ := cL_at hE.1.1
  have hx := tkK_lt hi
  refine le_X6_readObject en _ _ _ _ _ ?_
  by_cases q : tkK B n i = 2
  · rw [if_neg (by rw [c1, q]; exact not_not_intro rfl), hw q, bI_some]; exact hr
  · rw [if_pos (by rw [c1, n_eq (by decide) (by omega)]; exact q), ← hno q]; exact hr
/-- the word at hand on both sides -/
theorem word_st (hE : exS false 7 0 u B n s t V U cl nc nl nt i m) (hB : ∀ j, j < n → B j < 256) (h2 : tkK B n i = 2) : ∃ (W : Nat) (wx wy wz wr : Int32), (W < 128 ^ 8 ∧ W ≠ 0) ∧ s.2.1 1 11 = Int64.ofNat W ∧ t.2.1 151 5 = Int64.ofNat (w8 8 W) ∧ (∀ d, qev en (d + 1) 84 [.ref 11, .long (s.2.1 1 11)] s = some (some (.int wx), s)) ∧ (∀ d, qev en (d + 1) 256 [.ref 151, .long (t.2.1 151 5)] t = some (some (.int wy), t)) ∧ (∀ d, qev en (d + 1) 257 [.ref 151, .long (t.2.1 151 5)] t = some (some (.int wz), t)) ∧ (∀ d, qev en (d + 1) 258 [.ref 151, .long (t.2.1 151 5)] t = some (some (.int wr), t)) ∧ ((wx = -1 ∧ wy = -1 ∧ wz = -1 ∧ wr = -1) ∨ (∃ c, c < nc ∧ wx = nI c ∧ wy = nI c ∧ wz = -1 ∧ wr = -1) ∨ (∃ l, l < nl ∧ wx = nI (8 + l) ∧ wy = -1 ∧ wz = nI l ∧ wr = -1) ∨ ∃ u, u < nt ∧ wx = nI (12 + u) ∧ wy = -1 ∧ wz = -1 ∧ wr = nI u) := by
  obtain ⟨hi, c1, c2, c3⟩ := cL_at hE.1.1
  obtain ⟨⟨mX, mn, -⟩, m7, m4, mk1, m2, m3, m5, m6⟩ := id hE.1.2
  have hv := tk_val (B := B) (n := n) hi
  have hv0 := word_pos hB hi (Or.inl h2)
  obtain ⟨wx, wy, wz, wr, e84, e256, e257, e258, hcase⟩ := name_alike (en := en) hE.2.1 hv hv0
  have cw := c3 (by omega)
  have mw := m5 (Or.inl h2)
  exact ⟨_, wx, wy, wz, wr, ⟨hv, hv0⟩, cw, mw, fun d => by rw [cw]; exact e84 d, fun d => by rw [mw]; exact e256 d, fun d => by rw [mw]; exact e257 d, fun d => by rw [mw]; exact e258 d, hcase⟩
/-- the cell of a cas or an add -/
theorem obj34 (hE : exS false 7 0 u B n s t V U cl nc nl nt i m) (hB : ∀ j, j < n → B j < 256) (hN : N < 100) (hk : k = 3 ∨ k = 4) : ∃ s' t1 t', qev en (d + 6) 129 [.ref 65, .int (nI N), .int (nI k)] s = some (none, s') ∧ qev en (d' + 5) 281 [.ref 151, .int (nI N)] t = some (none, t1) ∧ qev en (d' + 5) 252 [.ref 151, .int (44 : Int32)] t1 = some (none, t') ∧ stF N m s s' ∧ smF N m t t' ∧ kpX 20 s s' ∧ kpM 166 t t' ∧ ((∃ i' c, exS false 7 0 u B n s' t' V U cl nc nl nt i' m ∧ c < nc ∧ s'.1 20 N = nI c ∧ t'.1 166 N = nI c) ∨ rdD s' t') := by
  obtain ⟨hi, c1, -, -⟩ := cL_at hE.1.1
  have m7 := hE.1.2.2.1
  have hb3 := hE.2.1.1
  have eN := m_isNameK (en := en) (d := d' + 2) hB hE.1.2
  have pre40 : ∀ (wx b : Int32) (s1 s2 : qS), qev en (d + 5) 85 [.int wx] s = some (some (.int b), s) → qev en (d + 5) 130 [.ref 65, .int (nI N), .int b, .int wx] s = some (none, s1) → qev en (d + 5) 115 [.ref 65, .int (44 : Int32)] s1 = some (none, s2) → L_X6_readObject_29 en (d + 5) (nI N) (nI k) wx s = some (none, s2) := fun wx b s1 s2 h1 h2 h3 => by
    have g40 : L_X6_readObject_40 en (d + 5) (nI N) wx s = some (none, s2) := by
      refine le_X6_readObject_40 en _ _ _ _ _ ?_
      rw [h1, bI_some, h2, bV_some, h3, bV_some]
    refine le_X6_readObject_29 en _ _ _ _ _ _ ?_
    rcases hk with z | z
    · rw [if_pos (by rw [z]; rfl)]; exact g40
    · rw [if_neg (by rw [z]; decide), if_neg (by rw [z]; decide)]; exact g40
  by_cases q : tkK B n i = 2
  · obtain ⟨W, wx, wy, wz, wr, -, -, -, e84, e256, -, -, hcase⟩ := word_st (en := en) hE hB q
    rw [q, decide_eq_true rfl] at eN
    -- a cell, or not
    have key : ∃ b : Bool, (b = true → wx = wy) ∧ (∀ d, qev en (d + 1) 85 [.int wx] s = some (some (.int (bt b)), s)) ∧ (wy = -1 ↔ b = false) ∧ (b = true → ∃ c, c < nc ∧ wx = nI c) := by
      have c85 : ∀ (d : Nat), qev en (d + 1) 85 [.int wx] s = some (some (.int (if wx < 0 then 0 else if 8 ≤ wx then 0 else 1)), s) := fun d => by
        refine le_X5_isCell en _ _ _ _ ?_
        by_cases h : wx < 0
        · rw [if_pos h, if_pos h]
        · rw [if_neg h, if_neg h]
          by_cases h' : 8 ≤ wx
          · rw [if_pos h', if_pos h']
          · rw [if_neg h', if_neg h']
      rcases hcase with ⟨rfl, rfl, rfl, rfl⟩ | ⟨c, hc', rfl, rfl, rfl, rfl⟩ | ⟨l, hl', rfl, rfl, rfl, rfl⟩ | ⟨v, hv', rfl, rfl, rfl, rfl⟩
      · exact ⟨false, fun h => Bool.noConfusion h, c85, ⟨fun _ => rfl, fun _ => rfl⟩, fun h => Bool.noConfusion h⟩
      · refine ⟨true, fun _ => rfl, fun d => ?_, ⟨fun h => absurd h (fun z => (n_m1 (by omega)).mp z), fun h => Bool.noConfusion h⟩, fun _ => ⟨c, hc', rfl⟩⟩
        rw [c85 d, if_neg (by rw [n_gt (by decide) (by omega)]; omega), if_neg (by rw [n_le (by decide) (by omega)]; omega)]
        rfl
      · refine ⟨false, fun h => Bool.noConfusion h, fun d => ?_, ⟨fun _ => rfl, fun _ => rfl⟩, fun h => Bool.noConfusion h⟩
        rw [c85 d, if_neg (by rw [n_gt (by decide) (by omega)]; omega), if_pos (by rw [n_le (by decide) (by omega)]; omega)]
        rfl
      · refine ⟨false, fun h => Bool.noConfusion h, fun d => ?_, ⟨fun _ => rfl, fun _ => rfl⟩, fun h => Bool.noConfusion h⟩
        rw [c85 d, if_neg (by rw [n_gt (by decide) (by omega)]; omega), if_pos (by rw [n_le (by decide) (by omega)]; omega)]
        rfl
    obtain ⟨b, k1, k2, k3, k4⟩ := key
    obtain ⟨s1, t1, e1, ⟨tm, e2, e2'⟩, f1, f2, f3, f4, f5⟩ := named_al (en := en) (d := d + 1) (d' := d' + 1) (b := b) (vX := wx) (vM := wy) hE hN q k1
    have eM : qev en (d' + 5) 281 [.ref 151, .int (nI N)] t = some (none, t1) := by
      refine le_X12_takeCell en _ _ _ _ ?_
      rw [m_goodL m7, bI_some, if_neg (by decide), eN, bI_some, show bt true = (1 : Int32) from rfl, m_needT, bV_some]
      refine le_X12_takeCell_16 en _ _ _ _ ?_
      have f53 : L_X12_takeCell_53 en (d' + 4) (bt b) (uI t 166 N wy) = some (none, t1) := by
        refine le_X12_takeCell_53 en _ _ _ _ ?_
        rw [e2, bV_some]
        refine le_X12_takeCell_57 en _ _ _ ?_
        rw [e2', bV_some]
      rw [m_goodL m7, bI_some, if_neg (by decide), e256, bI_some, gd_in (by omega) (by decide), n_cl (by omega), nm_eq, rdW]
      by_cases z : wy = -1
      · rw [if_pos z]
        rw [k3.mp z] at f53
        exact f53
      · rw [if_neg z]
        have : b = true := by
          cases hb : b
          · exact absurd (k3.mpr hb) z
          · rfl
        rw [this] at f53
        exact f53
    rcases f5 with ⟨b1, i1, b2, b3, b4⟩ | f5
    · obtain ⟨c, hc, hwx⟩ := k4 b1
      obtain ⟨s2, t2, g1, g2, g3, g4, g5⟩ := must_al (en := en) (d := d + 3) (d' := d' + 1) (k := 44) b2.1 ⟨by decide, by decide⟩
      refine ⟨s2, t1, t2, x_129 (d := d + 4) hE (fun _ => e84 _) (fun z => absurd q z) _ (pre40 wx (bt b) s1 s2 (k2 _) e1 g1), eM, g2, f1.tr (stF.tk g3) (Nat.le_refl m), f2.tr (smF.mv g4) (Nat.le_refl m), f3.tr (kpX.tk g3), f4.tr (kpM.mv g4), ?_⟩
      rcases g5 with ⟨-, g5⟩ | g5
      · refine Or.inl ⟨i1 + 1, c, exS_tk b2 g3 g4 g5, hc, ?_, ?_⟩
        · rw [g3.1 20 (by decide) (by decide), b3, hwx]
        · rw [g4.1 166 (by decide), b4, hwx]
      · exact Or.inr g5
    · obtain ⟨b1, b2, b3⟩ := mustD_al (en := en) (d := d + 3) (d' := d' + 2) (k := 44) (x := 44) f5 ⟨by decide, by decide⟩
      exact ⟨bmS s1 2, t1, t1, x_129 (d := d + 4) hE (fun _ => e84 _) (fun z => absurd q z) _ (pre40 wx (bt b) s1 _ (k2 _) e1 b1), eM, b2, f1.tr (stF.tk (tnF.bm bmS_F)) (Nat.le_refl m), f2, f3.tr (kpX.tk (tnF.bm bmS_F)), f4, Or.inr b3⟩
  · rw [decide_eq_false q] at eN
    obtain ⟨t1, e1, e2, e3, e4, e5, e6⟩ := noname_al (en := en) (d := d + 1) (d' := d' + 2) (v := -1) (w := 0) hE hN q
    obtain ⟨F, p, g1, g2⟩ := id e4
    have eM : qev en (d' + 5) 281 [.ref 151, .int (nI N)] t = some (none, t1) := by
      refine le_X12_takeCell en _ _ _ _ ?_
      have e2' : qev en (d' + 4) 245 [.ref 151, .int (bt false), .int (2 : Int32)] t = some (none, t1) := e2
      rw [m_goodL m7, bI_some, if_neg (by decide), eN, bI_some, e2', bV_some]
      refine le_X12_takeCell_16 en _ _ _ _ ?_
      rw [m_goodD g2, bI_some, if_pos rfl]
      refine le_X12_takeCell_57 en _ _ _ ?_
      rw [show d' + 4 = d' + 2 + 2 from rfl, m_nextD g2, bV_some]
    obtain ⟨b1, b2, b3⟩ := mustD_al (en := en) (d := d + 3) (d' := d' + 2) (k := 44) (x := 44) e4 ⟨by decide, by decide⟩
    have c85 : qev en (d + 5) 85 [.int (-1)] s = some (some (.int 0), s) := by
      refine le_X5_isCell en _ _ _ _ ?_
      rw [if_pos (by decide)]
    exact ⟨_, t1, t1, x_129 (d := d + 4) (wx := -1) hE (fun z => absurd z q) (fun _ => rfl) _ (pre40 (-1) 0 _ _ c85 e1 b1), eM, b2, e5.tr (stF.tk (tnF.bm bmS_F)) (Nat.le_refl m), smF.mv e3, e6.tr (kpX.tk (tnF.bm bmS_F)), kpM.mv e3, Or.inr b3⟩
/-- the lock of a line -/
theorem obj59 (hE : exS false 7 0 u B n s t V U cl nc nl nt i m) (hB : ∀ j, j < n → B j < 256) (hN : N < 100) (hk : 5 ≤ k ∧ k ≤ 9) : ∃ s' t', qev en (d + 6) 129 [.ref 65, .int (nI N), .int (nI k)] s = some (none, s') ∧ qev en (d' + 5) 279 [.ref 151, .int (nI N), .int (nI k)] t = some (none, t') ∧ stF N m s s' ∧ smF N m t t' ∧ kpX 20 s s' ∧ kpM 166 t t' ∧ ((∃ i' l, exS false 7 0 u B n s' t' V U cl nc nl nt i' m ∧ l < nl ∧ s'.1 20 N = nI l ∧ t'.1 166 N = nI l) ∨ rdD s' t') := by
  obtain ⟨hi, c1, -, -⟩ := cL_at hE.1.1
  have m7 := hE.1.2.2.1
  have hb3 := hE.2.1.1
  have eN := m_isNameK (en := en) (d := d' + 2) hB hE.1.2
  have pre29 : ∀ (wx b : Int32) (s1 : qS), (if wx < 8 then (0 : Int32) else if 12 ≤ wx then 0 else 1) = b → qev en (d + 5) 130 [.ref 65, .int (nI N), .int b, .int (wx - 8)] s = some (none, s1) → L_X6_readObject_29 en (d + 5) (nI N) (nI k) wx s = some (none, s1) := fun wx b s1 h1 h2 => by
    refine le_X6_readObject_29 en _ _ _ _ _ _ ?_
    rw [if_neg (by rw [n_eq (by decide) (by omega)]; omega), if_pos (by rw [n_eq (by decide) (by omega)]; omega), if_neg (by rw [n_gt (by decide) (by omega)]; omega), if_neg (by rw [n_lt (by decide) (by omega)]; omega), x_isLock, bI_some, h1, h2, bV_some]
  have preM : ∀ t', bI (qev en (d' + 4) 254 [.ref 151] t) (fun w9 s10 => bV (qev en (d' + 4) 245 [.ref 151, .int w9, .int (2 : Int32)] s10) (fun s13 => L_X12_readRest_127 en (d' + 4) (nI N) s13)) = some (none, t') → qev en (d' + 5) 279 [.ref 151, .int (nI N), .int (nI k)] t = some (none, t') := fun t' hr => by
    refine le_X12_readRest en _ _ _ _ _ ?_
    rw [if_neg (by rw [n_eq (by decide) (by omega)]; omega), if_pos (by rw [n_eq (by decide) (by omega)]; omega), if_neg (by rw [n_gt (by decide) (by omega)]; omega), if_neg (by rw [n_lt (by decide) (by omega)]; omega), m_goodL m7, bI_some, if_neg (by decide)]
    exact hr
  by_cases q : tkK B n i = 2
  · obtain ⟨W, wx, wy, wz, wr, -, -, -, e84, -, e257, -, hcase⟩ := word_st (en := en) hE hB q
    rw [q, decide_eq_true rfl] at eN
    have key : ∃ b : Bool, (b = true → wx - 8 = wz) ∧ (if wx < 8 then (0 : Int32) else if 12 ≤ wx then 0 else 1) = bt b ∧ (wz = -1 ↔ b = false) ∧ (b = true → ∃ l, l < nl ∧ wx - 8 = nI l) := by
      rcases hcase with ⟨rfl, rfl, rfl, rfl⟩ | ⟨c, hc', rfl, rfl, rfl, rfl⟩ | ⟨l, hl', rfl, rfl, rfl, rfl⟩ | ⟨v, hv', rfl, rfl, rfl, rfl⟩
      · exact ⟨false, fun h => Bool.noConfusion h, rfl, ⟨fun _ => rfl, fun _ => rfl⟩, fun h => Bool.noConfusion h⟩
      · refine ⟨false, fun h => Bool.noConfusion h, ?_, ⟨fun _ => rfl, fun _ => rfl⟩, fun h => Bool.noConfusion h⟩
        rw [if_pos (by rw [n_gt (by decide) (by omega)]; omega)]; rfl
      · have e : nI (8 + l) - (8 : Int32) = nI l := by
          rw [show nI (8 + l) - (8 : Int32) = nI (8 + l - 8) from n_sr (by omega)]
          congr 1
          omega
        refine ⟨true, fun _ => e, ?_, ⟨fun h => absurd h (fun z => (n_m1 (by omega)).mp z), fun h => Bool.noConfusion h⟩, fun _ => ⟨l, hl', e⟩⟩
        rw [if_neg (by rw [n_gt (by decide) (by omega)]; omega), if_neg (by rw [n_le (by decide) (by omega)]; omega)]; rfl
      · refine ⟨false, fun h => Bool.noConfusion h, ?_, ⟨fun _ => rfl, fun _ => rfl⟩, fun h => Bool.noConfusion h⟩
        rw [if_neg (by rw [n_gt (by decide) (by omega)]; omega), if_pos (by rw [n_le (by decide) (by omega)]; omega)]; rfl
    obtain ⟨b, k1, k2, k3, k4⟩ := key
    obtain ⟨s1, t1, e1, ⟨tm, e2, e2'⟩, f1, f2, f3, f4, f5⟩ := named_al (en := en) (d := d + 1) (d' := d' + 1) (b := b) (vX := wx - 8) (vM := wz) hE hN q k1
    refine ⟨s1, t1, x_129 (d := d + 4) hE (fun _ => e84 _) (fun z => absurd q z) _ (pre29 wx (bt b) s1 k2 e1), preM _ ?_, f1, f2, f3, f4, ?_⟩
    · rw [eN, bI_some, show bt true = (1 : Int32) from rfl, m_needT, bV_some]
      refine le_X12_readRest_127 en _ _ _ _ ?_
      have f164 : L_X12_readRest_164 en (d' + 4) (bt b) (uI t 166 N wz) = some (none, t1) := by
        refine le_X12_readRest_164 en _ _ _ _ ?_
        rw [e2, bV_some]
        refine le_X12_readRest_168 en _ _ _ ?_
        rw [e2', bV_some]
      rw [m_goodL m7, bI_some, if_neg (by decide), e257, bI_some, gd_in (by omega) (by decide), n_cl (by omega), nm_eq, rdW]
      by_cases z : wz = -1
      · rw [if_pos z]
        rw [k3.mp z] at f164
        exact f164
      · rw [if_neg z]
        have : b = true := by
          cases hb : b
          · exact absurd (k3.mpr hb) z
          · rfl
        rw [this] at f164
        exact f164
    · rcases f5 with ⟨b1, i1, b2, b3, b4⟩ | f5
      · obtain ⟨l, hl, hwx⟩ := k4 b1
        exact Or.inl ⟨i1, l, b2, hl, b3.trans hwx, b4.trans hwx⟩
      · exact Or.inr f5
  · rw [decide_eq_false q] at eN
    obtain ⟨t1, e1, e2, e3, e4, e5, e6⟩ := noname_al (en := en) (d := d + 1) (d' := d' + 2) (v := -1 - 8) (w := 0) hE hN q
    obtain ⟨F, p, g1, g2⟩ := id e4
    refine ⟨_, t1, x_129 (d := d + 4) (wx := -1) hE (fun z => absurd z q) (fun _ => rfl) _ (pre29 (-1) 0 _ (by decide) e1), preM _ ?_, e5, smF.mv e3, e6, kpM.mv e3, Or.inr e4⟩
    have e2' : qev en (d' + 4) 245 [.ref 151, .int (bt false), .int (2 : Int32)] t = some (none, t1) := e2
    rw [eN, bI_some, e2', bV_some]
    refine le_X12_readRest_127 en _ _ _ _ ?_
    rw [m_goodD g2, bI_some, if_pos rfl]
    refine le_X12_readRest_168 en _ _ _ ?_
    rw [show d' + 4 = d' + 2 + 2 from rfl, m_nextD g2, bV_some]
end OBJ
