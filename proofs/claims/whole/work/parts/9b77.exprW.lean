/-! THE READER: an expression on both sides: cells and locals in a law. -/
section EXW
variable {en : pN} {d d' k K q bs u n i i' ct ct' m m' m0 c c' c0 k' nc nl nt a b z dp F p x j d0 : Nat} {lw : Bool} {V cl cl' : Nat → Nat} {U U' : Nat → Nat → Nat} {pl pl' : Nat → Nat} {s s' s'' t t' t'' : qS} {B : Nat → Nat} {O Q M W v w v1 v2 v3 v4 v5 a2 : Int32}
theorem x_89 (hq : q = 7 ∨ q = 61) (h7 : s'.2.2 65 7 = q + 1) (h : qev en (d + 1) 115 [.ref 65, .int (2 : Int32)] s = some (none, s')) (g : qev en (d + 1) 76 [.ref q, .int (2 : Int32), .int (((16 : Int32) + (v2 * (6 : Int32))) + v3)] s' = some (none, s'')) : L_X6_readCellOrLocal_89 en (d + 1) v2 v3 s = some (none, s'') := by
  have hlc : lc q = 4 := by rcases hq with rfl | rfl <;> rfl
  refine le_X6_readCellOrLocal_89 en _ _ _ _ _ ?_
  have e32 : qev en (d + 1) 32 [.int v2, .int v3] s' = some (some (.int (((16 : Int32) + (v2 * (6 : Int32))) + v3)), s') := le_X3_localSlot en _ _ _ _ _ rfl
  rw [h, bV_some, h7, Nat.add_sub_cancel, gd_true ⟨by omega, hlc⟩, nm_eq, e32, bI_some, g, bV_some]
theorem x_89D (hq : q = 7 ∨ q = 61) (h7 : s.2.2 65 7 = q + 1) (hD : rdD s t) (hm : mEnd s q m) : ∃ s', L_X6_readCellOrLocal_89 en (d + 2) v2 v3 s = some (none, s') ∧ rxF true q m s s' ∧ mEnd s' q m ∧ rdD s' t := by
  obtain ⟨F, p, h1, h2⟩ := hD
  have h1' := bmS_dead (k := 2) h1
  have e115 : qev en (d + 2) 115 [.ref 65, .int (2 : Int32)] s = some (none, bmS s 2) := x_deadNeed (m := 2) h1 ⟨by decide, by decide⟩
  obtain ⟨s', g1, g2, g3, g4⟩ := putD_al (en := en) (d := d) (v := 2) (w := ((16 : Int32) + (v2 * (6 : Int32))) + v3) hq (mEnd_tk hq hm (tnF.bm (bmS_F (k := 2)))) ⟨F, p, h1', h2⟩
  exact ⟨s', x_89 hq (by rw [bmS_F.2.2.2]; exact h7) e115 g1, (rxF.bm bmS_F hq).tr g2 (Nat.le_refl m), g3, g4⟩
theorem m_115D (h : mtD t F p) : L_X12_takeFact_115 en (d + 2) v2 v3 t = some (none, t) := by
  refine le_X12_takeFact_115 en _ _ _ _ _ ?_
  rw [m_emitD h, bV_some, m_nextD h, bV_some]
theorem m_72D (h : mtD t F p) : L_X12_takeFact_72 en (d + 2) v2 t = some (none, t) := by
  refine le_X12_takeFact_72 en _ _ _ _ ?_
  rw [m_goodD h, bI_some, if_pos rfl]
  refine le_X12_takeFact_92 en _ _ _ _ _ ?_
  rw [m_goodD h, bI_some, if_pos rfl, m_115D h]
/-- the class, behind the point -/
noncomputable abbrev locB (en : pN) (d : Nat) (v2 : Int32) (s12 : qS) : Option qR := bI (qev en d 88 [.ref 11, .int v2, .long (s12.2.1 1 11)] s12) (fun w14 s15 => if ¬ (s15.1 1 9) = (2 : Int32) then L_X6_readCellOrLocal_89 en d v2 w14 s15 else if (0 : Int32) ≤ w14 then L_X6_readCellOrLocal_89 en d v2 w14 s15 else bV (qev en d 114 [.ref 65, .int (3 : Int32)] s15) (fun s20 => L_X6_readCellOrLocal_89 en d v2 w14 s20))
theorem x_localOf {f : Int64} {e : Nat} (hu : u < 4) (h14 : s.1 14 u = nI e) (he : e ≤ 6) : qev en (d + 2) 88 [.ref 11, .int (nI u), .long f] s = some (some (.int (fnd (fun j => s.2.1 13 (u * 6 + j)) f e 0)), s) := by
  refine le_X5_localOf en _ _ _ _ _ _ ?_
  have e11 : lc 11 = 5 := rfl
  rw [gd_true e11, gd_in (by omega) (by decide), show nI u * (6 : Int32) = nI (u * 6) from n_mr, n_cl (by omega), show s.1 (11 + 3) u = nI e from h14, c_find (a := 11 + 2) rfl (by show u * 6 + e ≤ 24; omega) (by decide), bI_some]
/-- a local of a thread -/
theorem loc_al (hE : eS lw q bs u B n s t V U cl nc nl nt i ct m m k pl) (hq : plcQ lw q bs) (hB : ∀ j, j < n → B j < 256) (hm : m < 400) (hw : lw = true) (hx : x < nt) : ∃ s' t', locB en (d + 3) (nI x) s = some (none, s') ∧ bI (qev en (d' + 4) 254 [.ref 151] t) (fun w30 s31 => bV (qev en (d' + 4) 245 [.ref 151, .int w30, .int (2 : Int32)] s31) (fun s34 => L_X12_takeFact_72 en (d' + 4) (nI x) s34)) = some (none, t') ∧ opR lw q bs u B n s t s' t' V cl nc nl nt ct m k pl := by
  obtain ⟨hl, hn, ⟨h8, h29⟩, ⟨h7, -⟩, ⟨x1, x2, x3⟩, ⟨y1, y2, y3⟩, hp⟩ := id hE
  obtain ⟨hi, c1, c2, c3⟩ := cL_at hl.1
  obtain ⟨⟨mX, mn, -⟩, m7, m4, mk1, m2, m3, m5, m6⟩ := id hl.2
  have hq' := hq.qq
  have hxl := tkK_lt hi
  have eN := m_isNameK (en := en) (d := d' + 2) hB hl.2
  have hM : mEnd s q m := mEnd_0 hE hq (by omega)
  have hx4 : x < 4 := by have := hn.1; omega
  obtain ⟨l1, ⟨l2, -⟩, l3, l4⟩ := hn.2.2.2.2.2 x hx4
  have l2 := l2 hx
  by_cases q2 : tkK B n i = 2
  · have hv := tk_val (B := B) (n := n) hi
    have cw := c3 (by omega)
    have mw := m5 (Or.inl q2)
    have c9 : s.1 1 9 = 2 := by rw [c1, q2]; rfl
    rw [q2, decide_eq_true rfl] at eN
    generalize hval : (tkN B n i).2.2.1 = vv at *
    have e88 : qev en (d + 3) 88 [.ref 11, .int (nI x), .long (s.2.1 1 11)] s = some (some (.int (fnN (U x) vv (cl x) 0)), s) := by
      have := x_localOf (en := en) (d := d + 1) (f := Int64.ofNat vv) hx4 l1 l3
      rw [show Int64.ofNat vv = Int64.ofNat (id vv) from rfl, fnd_N (e := id) (V := U x) (fun a b => id_of) hv (cl x) 0 (fun j a b => by
        obtain ⟨g1, g2, g3⟩ := l4 j (by omega)
        exact ⟨g1, g3⟩)] at this
      rw [cw]
      exact this
    have e259 : qev en (d' + 4) 259 [.ref 151, .int (nI x), .long (t.2.1 151 5)] t = some (some (.int (fnN (U x) vv (cl x) 0)), t) := by
      rw [mw, m_localOf hx4 l2 l3]
      rw [fnd_N (e := w8 8) (V := U x) (fun a b => w8_of) hv (cl x) 0 (fun j a b => by
        obtain ⟨g1, g2, g3⟩ := l4 j (by omega)
        exact ⟨g2, g3⟩)]
    have preM : ∀ r, L_X12_takeFact_92 en (d' + 4) (nI x) (fnN (U x) vv (cl x) 0) t = some r → bI (qev en (d' + 4) 254 [.ref 151] t) (fun w30 s31 => bV (qev en (d' + 4) 245 [.ref 151, .int w30, .int (2 : Int32)] s31) (fun s34 => L_X12_takeFact_72 en (d' + 4) (nI x) s34)) = some r := fun r hr => by
      rw [eN, bI_some, show bt true = (1 : Int32) from rfl, m_needT, bV_some]
      refine le_X12_takeFact_72 en _ _ _ _ ?_
      rw [m_goodL m7, bI_some, if_neg (by decide), e259, bI_some]
      exact hr
    rcases fnN_is (V := U x) (v := vv) (cl x) 0 with ⟨h1, h2⟩ | ⟨jj, h1, h2, h3, h4, h5⟩
    · rw [h1] at e88 preM
      obtain ⟨t', w1, w2, w3, w4⟩ := fault_al (en := en) (d' := d' + 2) (k := 3) hl ⟨by decide, by decide⟩
      have w1' : qev en (d' + 4) 245 [.ref 151, .int (0 : Int32), .int (3 : Int32)] t = some (none, t') := w1
      obtain ⟨s', g1, g2, g3, g4⟩ := x_89D (en := en) (d := d + 1) (v2 := nI x) (v3 := -1) hq' (s := bmS s 3) (t := t') (by rw [bmS_F.2.2.2]; exact h7) ⟨3, _, w3, w4⟩ (mEnd_tk hq' hM (tnF.bm bmS_F))
      refine ⟨s', t', ?_, preM _ ?_, ((rxF.bm bmS_F hq').tr g2 (Nat.le_refl m)).wk, rmF.mv w2, Or.inr ⟨g4, g3, pil_mv (pil_of hE) w2⟩⟩
      · show bI _ _ = _
        rw [e88, bI_some, if_neg (not_not_intro c9), if_neg (by decide), x_blame, bV_some]
        exact g1
      · refine le_X12_takeFact_92 en _ _ _ _ _ ?_
        rw [m_goodL m7, bI_some, if_neg (by decide), if_pos rfl]
        refine le_X12_takeFact_111 en _ _ _ _ _ _ ?_
        rw [w1', bV_some]
        exact m_115D w4
    · rw [h3] at e88 preM
      obtain ⟨s1, s2, t1, t2, a1, a2, a3, a4, a5, a6, a7, a8⟩ := adput_al (en := en) (d1 := d + 1) (d2 := d + 1) (d3 := d' + 2) (d4 := d' + 1) (O := 2) (Q := nI (16 + x * 6 + jj)) (M := 16) (W := nI (6 * x + jj)) hE hq hm (by omega)
      refine ⟨s2, t2, ?_, preM _ ?_, a6.wk, a7.wk, ?_⟩
      · show bI _ _ = _
        rw [e88, bI_some, if_neg (not_not_intro c9), if_pos (by rw [n_le (by decide) (by omega)]; omega)]
        refine x_89 hq' (s' := s1) (by rw [a2.2.2.2.2]; exact h7) ?_ ?_
        · rcases x_need (en := en) (k := 2) hl ⟨by omega, by omega⟩ with ⟨_, g⟩ | ⟨g, _⟩
          · exact g (d + 1) s1 a1
          · exact absurd q2 g
        · rw [show nI x * (6 : Int32) = nI (x * 6) from n_mr, show (16 : Int32) + nI (x * 6) = nI (16 + x * 6) from n_al, nI_add]; exact a3
      · refine le_X12_takeFact_92 en _ _ _ _ _ ?_
        rw [m_goodL m7, bI_some, if_neg (by decide), if_neg (fun z => (n_m1 (by omega)).mp z)]
        refine le_X12_takeFact_111 en _ _ _ _ _ _ ?_
        rw [m_needT, bV_some]
        refine le_X12_takeFact_115 en _ _ _ _ _ ?_
        rw [show (6 : Int32) * nI x = nI (6 * x) from n_ml, nI_add, a4, bV_some, a5, bV_some]
      · rcases a8 with ⟨b1, ⟨b2, b3⟩, b4, b5⟩ | b
        · refine Or.inl ⟨U, cl, i + 1, b1, ⟨2, 16, by decide, b2, b4, ?_, fun z => by rw [hw] at z; cases z⟩, gw_one (k := 2) (by decide) rfl b2 (fun _ => ⟨_, b3, by omega⟩) (fun z => by omega), fun _ => Nat.le_refl _⟩
          rw [b3, b5]
          unfold ndR
          have : ∃ j, j < 24 ∧ nI (16 + x * 6 + jj) = nI (16 + j) ∧ nI (6 * x + jj) = nI j := ⟨6 * x + jj, by omega, by rw [show 16 + (6 * x + jj) = 16 + x * 6 + jj by omega], rfl⟩
          simp only [show (2 : Nat) = 2 from rfl, true_and, this, and_true, or_true, true_or]
        · exact Or.inr b
  · -- no word
    obtain ⟨t', w1, w2, w3, w4⟩ := fault_al (en := en) (d' := d' + 2) (k := 2) hl ⟨by decide, by decide⟩
    have w1' : qev en (d' + 4) 245 [.ref 151, .int (bt false), .int (2 : Int32)] t = some (none, t') := w1
    rw [decide_eq_false q2] at eN
    obtain ⟨s', g1, g2, g3, g4⟩ := putD_al (en := en) (d := d + 1) (v := 2) (w := ((16 : Int32) + (nI x * (6 : Int32))) + fnd (fun j => s.2.1 13 (x * 6 + j)) (s.2.1 1 11) (cl x) 0) hq' (mEnd_tk hq' hM (tnF.bm (bmS_F (k := 2)))) ⟨2, _, w3, w4⟩
    refine ⟨s', t', ?_, ?_, ((rxF.bm bmS_F hq').tr g2 (Nat.le_refl m)).wk, rmF.mv w2, Or.inr ⟨g4, g3, pil_mv (pil_of hE) w2⟩⟩
    · show bI _ _ = _
      rw [x_localOf hx4 l1 l3, bI_some, if_pos (by rw [c1, n_eq (by decide) (by omega)]; exact q2)]
      refine x_89 hq' (s' := bmS s 2) (by rw [bmS_F.2.2.2]; exact h7) ?_ g1
      rcases x_need (en := en) (k := 2) hl ⟨by omega, by omega⟩ with ⟨g, _⟩ | ⟨_, g⟩
      · exact absurd g q2
      · exact g (d + 1)
    · rw [eN, bI_some, w1', bV_some, m_72D w4]
/-- behind a fault -/
theorem x_locD (hq : q = 7 ∨ q = 61) (h7 : s.2.2 65 7 = q + 1) (hn : nmR s t V U cl nc nl nt) (hx : x < nt) (hD : rdD s t') (hm : mEnd s q m) : ∃ s', locB en (d + 2) (nI x) s = some (none, s') ∧ rxF true q m s s' ∧ mEnd s' q m ∧ rdD s' t' := by
  have hx4 : x < 4 := by have := hn.1; omega
  obtain ⟨l1, ⟨l2, -⟩, l3, l4⟩ := hn.2.2.2.2.2 x hx4
  have l2 := l2 hx
  obtain ⟨s', g1, g2⟩ := x_89D (en := en) (d := d) (v2 := nI x) (v3 := fnd (fun j => s.2.1 13 (x * 6 + j)) (s.2.1 1 11) (cl x) 0) hq h7 hD hm
  refine ⟨s', ?_, g2⟩
  obtain ⟨F, p, h1, h2⟩ := hD
  show bI _ _ = _
  rw [x_localOf hx4 l1 l3, bI_some, if_pos (show ¬ s.1 1 9 = (2 : Int32) from dX_ne (m := 2) h1 ⟨by decide, by decide⟩)]
  exact g1
/-- a cell's or a thread's word in a law -/
theorem opd_word (hE : eS lw q bs u B n s t V U cl nc nl nt i ct m m k pl) (hq : plcQ lw q bs) (hB : ∀ j, j < n → B j < 256) (hm : m < 400) (hw : lw = true) (hx : tkK B n i = 2) (h138 : qev en (d0 + 2) 138 [.ref 65] s = some (some (.int 0), s)) : ∃ s' t', qev en (d + 6) 140 [.ref 65, .int (nI (tkK B n i)), .int a2] s = some (none, s') ∧ tkoB en (d' + 7) t = some (none, t') ∧ opR lw q bs u B n s t s' t' V cl nc nl nt ct m k pl := by
  obtain ⟨hl, hn, ⟨h8, h29⟩, ⟨h7, -⟩, ⟨x1, x2, x3⟩, ⟨y1, y2, y3⟩, hp⟩ := id hE
  obtain ⟨hi, c1, c2, c3⟩ := cL_at hl.1
  obtain ⟨⟨mX, mn, -⟩, m7, m4, mk1, m2, m3, m5, m6⟩ := id hl.2
  have hq' := hq.qq
  have hlc : lc q = 4 := by rcases hq' with rfl | rfl <;> rfl
  have hF := m_isFactW (en := en) (d := d' + 4) hB hl.2
  rw [hx, decide_eq_false (by omega)] at hF
  have h8' : ¬ s.1 65 8 = 0 := by rw [h8, hw]; decide
  have h29' : ¬ t.1 151 29 = 0 := by rw [h29, hw]; decide
  have hv := tk_val (B := B) (n := n) hi
  have hv0 := word_pos hB hi (Or.inl hx)
  obtain ⟨wx, wy, wz, wr, e84, e256, e257, e258, hcase⟩ := name_alike hn hv hv0
  have cw := c3 (by omega)
  have mw := m5 (Or.inl hx)
  have c9 : s.1 1 9 = 2 := by rw [c1, hx]; rfl
  have hb3 := hn.1
  -- what is told by the word
  have h138' : (if wx < (0 : Int32) then some (some (.int (1 : Int32)), s) else if wx < (8 : Int32) then some (some (.int (0 : Int32)), s) else if (12 : Int32) ≤ wx then some (some (.int (0 : Int32)), s) else (some (some (.int (1 : Int32)), s) : Option qR)) = some (some (.int 0), s) := by
    rw [← h138]
    symm
    have key : ∀ r, (if wx < (0 : Int32) then some (some (.int (1 : Int32)), s) else if wx < (8 : Int32) then some (some (.int (0 : Int32)), s) else if (12 : Int32) ≤ wx then some (some (.int (0 : Int32)), s) else (some (some (.int (1 : Int32)), s) : Option qR)) = some r → qev en (d0 + 2) 138 [.ref 65] s = some r := fun r hr => by
      refine le_X6_isStray en _ _ _ ?_
      rw [if_pos c9, cw, e84, bI_some, if_neg h8']
      exact hr
    by_cases z1 : wx < (0 : Int32)
    · rw [if_pos z1] at key ⊢; exact key _ rfl
    rw [if_neg z1] at key ⊢
    by_cases z2 : wx < (8 : Int32)
    · rw [if_pos z2] at key ⊢
    rw [if_neg z2] at key ⊢
    by_cases z3 : (12 : Int32) ≤ wx
    · rw [if_pos z3] at key ⊢
    rw [if_neg z3] at key ⊢; exact key _ rfl
  have no1 : ¬ (some (some (Value.int (1 : Int32)), s) : Option qR) = some (some (.int 0), s) := fun z => by
    have := (Prod.mk.inj (Option.some.inj z)).1
    injection this with this
    injection this with this
    exact absurd this (by decide)
  have hcase2 : (∃ c, c < nc ∧ wx = nI c ∧ wy = nI c) ∨ (∃ v, v < nt ∧ wx = nI (12 + v) ∧ wy = -1 ∧ wr = nI v) := by
    rcases hcase with ⟨rfl, rfl, rfl, rfl⟩ | ⟨c, hc', rfl, rfl, rfl, rfl⟩ | ⟨l, hl', rfl, rfl, rfl, rfl⟩ | ⟨v, hv', rfl, rfl, rfl, rfl⟩
    · rw [if_pos (by decide)] at h138'; exact absurd h138' no1
    · exact Or.inl ⟨c, hc', rfl, rfl⟩
    · rw [if_neg (by rw [n_gt (by decide) (by omega)]; omega), if_neg (by rw [n_gt (by decide) (by omega)]; omega), if_neg (by rw [n_le (by decide) (by omega)]; omega)] at h138'
      exact absurd h138' no1
    · exact Or.inr ⟨v, hv', rfl, rfl, rfl⟩
  have preX : ∀ s', qev en (d + 5) 144 [.ref 65] s = some (none, s') → qev en (d + 6) 140 [.ref 65, .int (nI (tkK B n i)), .int a2] s = some (none, s') := fun s' hr => by
    refine le_X6_readNode en _ _ _ _ _ ?_
    rw [hx, if_pos (by decide), if_neg (by decide), if_pos (by decide), if_neg h8', if_neg (show ¬ ¬ nI 2 = (2 : Int32) from not_not_intro rfl), hr, bV_some]
  obtain ⟨s1, t1, e1, e2, e3, e4, e5⟩ := adv_al (en := en) (d := d + 3) (d' := d' + 3) hl (by omega)
  have preM : ∀ t', (if wy = (-1 : Int32) then bV (qev en (d' + 6) 252 [.ref 151, .int (46 : Int32)] t1) (fun s24 => bI (qev en (d' + 6) 243 [.ref 151] s24) (fun w26 s27 => if w26 = (0 : Int32) then L_X12_takeFact_72 en (d' + 6) wr s27 else bI (qev en (d' + 6) 254 [.ref 151] s27) (fun w30 s31 => bV (qev en (d' + 6) 245 [.ref 151, .int w30, .int (2 : Int32)] s31) (fun s34 => L_X12_takeFact_72 en (d' + 6) wr s34)))) else bV (qev en (d' + 6) 262 [.ref 151, .int (15 : Int32), .int wy] t1) (fun s37 => some (none, s37))) = some (none, t') → tkoB en (d' + 7) t = some (none, t') := fun t' hr => by
    show (if ¬ (t.1 151 3) = (2 : Int32) then _ else _) = _
    have e273 : qev en (d' + 7) 273 [.ref 151] t = some (none, t') := by
      refine le_X12_takeFact en _ _ _ ?_
      rw [m_goodL m7, bI_some, if_pos (by decide), show d' + 6 = d' + 4 + 2 from rfl, hF, bI_some, if_neg (show ¬ ¬ bt false = (0 : Int32) from not_not_intro rfl), mw, e256, bI_some, mw, e258, bI_some, show d' + 4 + 2 = d' + 6 from rfl, show d' + 6 = d' + 3 + 3 from rfl, e2, bV_some]
      exact hr
    rw [m3, if_pos (by rw [hx]; decide), if_neg h29', e273, bV_some]
  have h7' : s1.2.2 65 7 = q + 1 := by rw [e3.2.2.2]; exact h7
  have hM1 : mEnd s1 q m := mEnd_tk hq' (mEnd_0 hE hq (by omega)) (tnF.ad e3)
  have fx1 : rxF true q m s s1 := rxF.ad e3 hq'
  have fm1 : rmF true (bs + m) t t1 := rmF.mv e4
  rcases hcase2 with ⟨c, hc', rfl, rfl⟩ | ⟨v, hv', rfl, rfl, rfl⟩
  · -- a cell
    have preX2 : ∀ s', qev en (d + 4) 76 [.ref q, .int (2 : Int32), .int (nI (48 + c))] s1 = some (none, s') → qev en (d + 5) 144 [.ref 65] s = some (none, s') := fun s' hr => by
      refine le_X6_readCellOrLocal en _ _ _ ?_
      have e85 : qev en (d + 4) 85 [.int (nI c)] s1 = some (some (.int 1), s1) := by
        refine le_X5_isCell en _ _ _ _ ?_
        rw [if_neg (by rw [n_gt (by decide) (by omega)]; omega), if_neg (by rw [n_le (by decide) (by omega)]; omega)]
      rw [cw, e84, bI_some, e1, bV_some, e85, bI_some, if_neg (by decide), h7', Nat.add_sub_cancel, gd_true ⟨by omega, hlc⟩, nm_eq, show (48 : Int32) + nI c = nI (48 + c) from n_al, hr, bV_some]
    have preM2 : ∀ t', qev en (d' + 6) 262 [.ref 151, .int (15 : Int32), .int (nI c)] t1 = some (none, t') → tkoB en (d' + 7) t = some (none, t') := fun t' hr => preM t' (by
      rw [if_neg (fun z => (n_m1 (by omega)).mp z), hr, bV_some])
    rcases e5 with e5 | e5
    · have hE1 := eS_ad hE hq e3 e4 e5
      obtain ⟨s2, t2, g1, g2, g3, g4, g5, ⟨g6, g7⟩, g8, g9⟩ := put_al (en := en) (d := d + 2) (d' := d' + 4) (O := 2) (Q := nI (48 + c)) (M := 15) (W := nI c) hE1 hq hm
      refine ⟨s2, t2, preX _ (preX2 _ g1), preM2 _ g2, (fx1.tr g4 (Nat.le_refl m)).wk, (fm1.tr g5 (Nat.le_refl _)).wk, Or.inl ⟨U, cl, i + 1, g3, ⟨2, 15, by decide, g6, g8, ?_, fun z => by rw [hw] at z; cases z⟩, gw_one (k := 2) (by decide) rfl g6 (fun _ => ⟨_, g7, by omega⟩) (fun z => by omega), fun _ => Nat.le_refl _⟩⟩
      rw [g7, g9]
      unfold ndR
      have : ∃ c_1, c_1 < 8 ∧ nI (48 + c) = nI (48 + c_1) ∧ nI c = nI c_1 := ⟨c, by omega, rfl, rfl⟩
      simp [this]
    · obtain ⟨s2, g1, g2, g3, g4⟩ := putD_al (en := en) (d := d + 2) (v := 2) (w := nI (48 + c)) hq' hM1 e5
      obtain ⟨F, p, -, hD⟩ := id e5
      exact ⟨s2, t1, preX _ (preX2 _ g1), preM2 _ (m_emitD hD), (fx1.tr g2 (Nat.le_refl m)).wk, fm1.wk, Or.inr ⟨g4, g3, pil_mv (pil_of hE) e4⟩⟩
  · -- a thread
    have preX2 : ∀ s2 s', qev en (d + 4) 115 [.ref 65, .int (46 : Int32)] s1 = some (none, s2) → locB en (d + 4) (nI v) s2 = some (none, s') → qev en (d + 5) 144 [.ref 65] s = some (none, s') := fun s2 s' hr hr2 => by
      refine le_X6_readCellOrLocal en _ _ _ ?_
      have e85 : qev en (d + 4) 85 [.int (nI (12 + v))] s1 = some (some (.int 0), s1) := by
        refine le_X5_isCell en _ _ _ _ ?_
        rw [if_neg (by rw [n_gt (by decide) (by omega)]; omega), if_pos (by rw [n_le (by decide) (by omega)]; omega)]
      rw [cw, e84, bI_some, e1, bV_some, e85, bI_some, if_pos rfl, hr, bV_some, show nI (12 + v) - (12 : Int32) = nI v from by rw [show nI (12 + v) - (12 : Int32) = nI (12 + v - 12) from n_sr (by omega)]; congr 1; omega]
      exact hr2
    rw [if_pos rfl] at preM
    rcases e5 with e5 | e5
    · have hE1 := eS_ad hE hq e3 e4 e5
      obtain ⟨s2, t2, g1, g2, g3, g4, g5⟩ := must_al (en := en) (d := d + 2) (d' := d' + 2) (k := 46) e5 ⟨by decide, by decide⟩
      have g2' : qev en (d' + 6) 252 [.ref 151, .int (46 : Int32)] t1 = some (none, t2) := g2
      have h7'' : s2.2.2 65 7 = q + 1 := by rw [g3.2.2.2.2]; exact h7'
      rcases g5 with ⟨-, g5⟩ | g5
      · have hE2 := eS_tk hE1 hq g3 g4 g5
        obtain ⟨s3, t3, a1, a2, a3, a4, a5⟩ := loc_al (en := en) (d := d + 1) (d' := d' + 2) hE2 hq hB hm hw hv'
        refine ⟨s3, t3, preX _ (preX2 _ _ g1 a1), preM _ ?_, (fx1.tr (rxF.tk g3 hq') (Nat.le_refl m)).wk.tr a3 (Nat.le_refl m), (fm1.tr (rmF.mv g4) (Nat.le_refl _)).wk.tr a4 (Nat.le_refl _), a5⟩
        rw [g2', bV_some, m_goodL g5.2.2.1, bI_some, if_neg (by decide)]
        exact a2
      · have hn2 := nmR_fr hn hq' (fx1.tr (rxF.tk g3 hq') (Nat.le_refl m)) (fm1.tr (rmF.mv g4) (Nat.le_refl _))
        obtain ⟨s3, a1, a2, a3, a4⟩ := x_locD (en := en) (d := d + 2) hq' h7'' hn2 hv' g5 (mEnd_tk hq' hM1 g3)
        obtain ⟨F, p, -, hD⟩ := id g5
        refine ⟨s3, t2, preX _ (preX2 _ _ g1 a1), preM _ ?_, ((fx1.tr (rxF.tk g3 hq') (Nat.le_refl m)).tr a2 (Nat.le_refl m)).wk, (fm1.tr (rmF.mv g4) (Nat.le_refl _)).wk, Or.inr ⟨a4, a3, pil_mv (pil_mv (pil_of hE) e4) g4⟩⟩
        rw [g2', bV_some, m_goodD hD, bI_some, if_pos rfl, m_72D hD]
    · obtain ⟨b1, b2, b3⟩ := mustD_al (en := en) (d := d + 2) (d' := d' + 3) (k := 46) (x := 46) e5 ⟨by decide, by decide⟩
      have b2' : qev en (d' + 6) 252 [.ref 151, .int (46 : Int32)] t1 = some (none, t1) := b2
      have hn2 := nmR_fr hn hq' (fx1.tr (rxF.bm (bmS_F (k := 2)) hq') (Nat.le_refl m)) fm1
      obtain ⟨s3, a1, a2, a3, a4⟩ := x_locD (en := en) (d := d + 2) hq' (s := bmS s1 2) (by rw [bmS_F.2.2.2]; exact h7') hn2 hv' b3 (mEnd_tk hq' hM1 (tnF.bm bmS_F))
      obtain ⟨F, p, -, hD⟩ := id e5
      refine ⟨s3, t1, preX _ (preX2 _ _ b1 a1), preM _ ?_, ((fx1.tr (rxF.bm bmS_F hq') (Nat.le_refl m)).tr a2 (Nat.le_refl m)).wk, fm1.wk, Or.inr ⟨a4, a3, pil_mv (pil_of hE) e4⟩⟩
      rw [b2', bV_some, m_goodD hD, bI_some, if_pos rfl, m_72D hD]
end EXW
