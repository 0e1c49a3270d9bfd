/-! THE READER: a law on both sides: its facts. -/
/-- a law that was read -/
abbrev lwOK (k : Nat) (s t : qS) (e e2 : Nat) : Prop := (s.1 65 11 = 0 ∧ s.1 65 12 = -2) ∧ (s.1 69 0 = nI 0 ∧ s.1 69 1 = nI e) ∧ (k = 5 → s.1 69 2 = nI e ∧ s.1 69 3 = nI e2) ∧ (t.1 151 7 = 0 ∧ t.1 151 25 = nI (400 + (if k = 5 then e2 else e))) ∧ (ndZ true 0 s t 61 400 0 e ∧ gw (s.1 62) (s.1 63) 0 e ∧ e ≤ 400) ∧ (k = 5 → ndZ true 0 s t 61 400 e e2 ∧ gw (s.1 62) (s.1 63) e e2 ∧ e2 ≤ 400)
/-- a fault in a law -/
abbrev lwDD (s t : qS) : Prop := ∃ F p : Nat, s.1 65 11 = nI F ∧ s.1 65 12 = nI p ∧ F ≠ 0 ∧ F < 16 ∧ mtD t F p
section LWD
variable {en : pN} {d d' k i n N j r v u m m' c nc nl nt q z D e e2 : Nat} {V cl th K : Nat → Nat} {U : Nat → Nat → Nat} {s s' s'' t t' t'' : qS} {B : Nat → Nat} {w v1 v2 v3 v4 : Int32} {F p : Nat} {fr : Bool}
theorem mD_198 (h : mtD t F p) : ∀ r, L_X12_judge_262 en (d + 2) v1 v2 v3 v4 t = some r → L_X12_judge_198 en (d + 2) v1 v2 v3 v4 t = some r := fun r hr => by
  refine le_X12_judge_198 en _ _ _ _ _ _ _ ?_
  rw [m_nextD h, bV_some, m_goodD h, bI_some, if_pos rfl]
  refine le_X12_judge_220 en _ _ _ _ _ _ _ _ ?_
  rw [m_goodD h, bI_some, if_pos rfl]
  exact mD_238 (d := d + 1) h r hr
/-- the end of a law on both sides -/
theorem lwEnd_al (h : rdL s t B n i) : (tkK B n i = 0 ∧ L_X6_readLaw_123 en (d + 1) s = some (none, s) ∧ ∀ r, L_X12_judge_262 en (d' + 2) v1 v2 v3 v4 t = some r → L_X12_judge_238 en (d' + 2) v1 v2 v3 v4 t = some r) ∨ (∃ s' t', L_X6_readLaw_123 en (d + 1) s = some (none, s') ∧ (∀ r, L_X12_judge_262 en (d' + 2) v1 v2 v3 v4 t' = some r → L_X12_judge_238 en (d' + 2) v1 v2 v3 v4 t = some r) ∧ lwDD s' t' ∧ bmF s s' ∧ mvF t t') := by
  obtain ⟨hc, hm⟩ := id h
  obtain ⟨hi, c1, c2, c3⟩ := cL_at hc
  obtain ⟨⟨mX, mn, -⟩, m7, m4, mk1, m2, m3, m5, m6⟩ := id hm
  have hx := tkK_lt (B := B) hi
  obtain ⟨k1, -, -, -⟩ := kdM_v hx
  by_cases q0 : tkK B n i = 0
  · refine Or.inl ⟨q0, le_X6_readLaw_123 en _ _ _ ?_, fun r hr => le_X12_judge_238 en _ _ _ _ _ _ _ ?_⟩
    · rw [if_pos (by rw [c1, q0]; rfl)]
    · rw [m_goodL m7, bI_some, if_neg (by decide), if_neg (by rw [m3, q0]; decide)]
      refine le_X12_judge_258 en _ _ _ _ _ _ _ _ ?_
      rw [m_needT, bV_some]
      exact hr
  · obtain ⟨t', w1, w2, w3⟩ := fault_al (en := en) (d' := d') (k := 2) h ⟨by decide, by decide⟩
    have m30 : ¬ t.1 151 3 = (0 : Int32) := by
      rw [m3, n_eq (by decide) (by omega)]
      intro zz
      have : kdM (tkK B n i) = 0 := zz
      unfold kdM at this
      split at this
      · omega
      · split at this <;> omega
    have g0 : (bmS s 2).1 1 9 = 0 := bmS_0
    have hD : dX (bmS s 2) 2 (tkN B n i).1 := w3.1
    rcases hD with ⟨b1, b2, b3, b4, b5⟩ | ⟨b1, _⟩
    · refine Or.inr ⟨bmS s 2, t', le_X6_readLaw_123 en _ _ _ ?_, fun r hr => le_X12_judge_238 en _ _ _ _ _ _ _ ?_, ⟨2, _, b2, b3, b4, b5, w3.2⟩, bmS_F, w2⟩
      · rw [if_neg (by rw [c1, n_eq (by decide) (by omega)]; exact q0), x_blame, bV_some]
      · rw [m_goodL m7, bI_some, if_neg (by decide), if_pos m30]
        refine le_X12_judge_258 en _ _ _ _ _ _ _ _ ?_
        rw [show qev en (d' + 2) 245 [.ref 151, .int (0 : Int32), .int (2 : Int32)] t = _ from w1, bV_some]
        exact hr
    · rw [g0] at b1; exact absurd b1 (by decide)
theorem lwDD_of (h1 : s.1 65 11 = nI F) (h2 : s.1 65 12 = nI p) (h3 : F ≠ 0) (h4 : F < 16) (h5 : mtD t F p) : lwDD s t := ⟨F, p, h1, h2, h3, h4, h5⟩
/-- one fact -/
theorem lwOne_al (hS : lwS B n s t V U cl nc nl nt i 0) (hB : ∀ j, j < n → B j < 256) (hk : 1 ≤ k ∧ k < 5) : ∃ s' t', xF1 en (d + 131) s = some (none, s') ∧ lwX s s' ∧ lwM t t' ∧ (s'.1 65 9 = s.1 65 9 ∧ s'.1 65 10 = s.1 65 10) ∧ ((∃ (e : Nat) (v4 : Int32), lwOK k s' t' e 0 ∧ ∀ r, L_X12_judge_262 en (d' + 11) (nI k) v2 (nI 400) v4 t' = some r → L_X12_judge_149 en (d' + 11) (nI k) v2 t = some r) ∨ (lwDD s' t' ∧ ∃ v3 v4 : Int32, ∀ r, L_X12_judge_262 en (d' + 11) (nI k) v2 v3 v4 t' = some r → L_X12_judge_149 en (d' + 11) (nI k) v2 t = some r)) := by
  have m7 := hS.1.2.2.1
  have k5 : ¬ nI k = (5 : Int32) := by rw [n_eq (by decide) (by omega)]; omega
  obtain ⟨s1, t1, e1, e2, e3, e4, -, -, e5, r7, e6⟩ := fact_al (en := en) (d := d) (d' := d' + 2) (z := 0) hS hB (by decide)
  have e1' : qev en (d + 131) 142 [.ref 65, .int (0 : Int32)] s = some (none, s1) := e1
  have e2' : qev en (d' + 11) 268 [.ref 151] t = some (some (.int (nI 400)), t1) := e2
  have pX : ∀ r, L_X6_readLaw_123 en (d + 131) s1 = some r → xF1 en (d + 131) s = some r := fun r hr => by
    show bV _ _ = _
    rw [e1', bV_some]; exact hr
  have pM : ∀ r, L_X12_judge_238 en (d' + 11) (nI k) v2 (nI 400) (t1.1 151 25) t1 = some r → L_X12_judge_149 en (d' + 11) (nI k) v2 t = some r := fun r hr => by
    refine le_X12_judge_149 en _ _ _ _ _ ?_
    rw [m_goodL m7, bI_some, if_neg (by decide), e2', bI_some]
    refine le_X12_judge_167 en _ _ _ _ _ _ ?_
    rw [if_pos k5]
    exact hr
  rcases e6 with ⟨U', cl', i', m', g1, g2, g3, g4, g5, g6⟩ | e6
  · rcases lwEnd_al (en := en) (d := d + 130) (d' := d' + 9) (v1 := nI k) (v2 := v2) (v3 := nI 400) (v4 := t1.1 151 25) g1.1 with ⟨-, b2, b3⟩ | ⟨s2, t2, b1, b2, b3, b4, b5⟩
    · refine ⟨s1, t1, pX _ b2, e3, e4, e5, Or.inl ⟨m', t1.1 151 25, ⟨⟨g1.1.1.2.2.2.1.1, g1.1.1.2.2.2.1.2⟩, ⟨g5, g6⟩, fun z => absurd z (by omega), ⟨g1.1.2.2.1, by rw [if_neg (by omega)]; exact g1.2.2.2.2.2.2⟩, ⟨g3, g4, g1.2.2.2.2.1.2.2⟩, fun z => absurd z (by omega)⟩, fun r hr => pM r (b3 r hr)⟩⟩
    · exact ⟨s2, t2, pX _ b1, e3.tr (lwX.bm b4), e4.tr (lwM.mv b5), ⟨(b4.2.2.1 9 (by decide) (by decide)).trans e5.1, (b4.2.2.1 10 (by decide) (by decide)).trans e5.2⟩, Or.inr ⟨b3, nI 400, t1.1 151 25, fun r hr => pM r (b2 r hr)⟩⟩
  · obtain ⟨F, p, z1, z2⟩ := e6
    obtain ⟨s2, b1, b2, b3, b4, b5, b6⟩ := xD_L123 (en := en) (d := d + 130) z1
    exact ⟨s2, t1, pX _ b1, e3.tr (lwX.bm b2), e4, ⟨(b2.2.2.1 9 (by decide) (by decide)).trans e5.1, (b2.2.2.1 10 (by decide) (by decide)).trans e5.2⟩, Or.inr ⟨lwDD_of b3 b4 b5 b6 z2, nI 400, t1.1 151 25, fun r hr => pM r (mD_238 (d := d' + 10) z2 r hr)⟩⟩
/-- two facts -/
theorem lwTwo_al (hS : lwS B n s t V U cl nc nl nt i 0) (hB : ∀ j, j < n → B j < 256) : ∃ s' t', xF2 en (d + 131) s = some (none, s') ∧ lwX s s' ∧ lwM t t' ∧ ((s'.1 65 11 = 0 → s'.1 65 9 = s.1 65 9 ∧ s'.1 65 10 = s.1 65 10)) ∧ ((∃ (e e2 : Nat), lwOK 5 s' t' e e2 ∧ ∀ r, L_X12_judge_262 en (d' + 11) (nI 5) v2 (nI 400) (nI (400 + e)) t' = some r → L_X12_judge_149 en (d' + 11) (nI 5) v2 t = some r) ∨ (lwDD s' t' ∧ ∃ v3 v4 : Int32, ∀ r, L_X12_judge_262 en (d' + 11) (nI 5) v2 v3 v4 t' = some r → L_X12_judge_149 en (d' + 11) (nI 5) v2 t = some r)) := by
  have m7 := hS.1.2.2.1
  obtain ⟨s1, t1, e1, e2, e3, e4, -, -, e5, r7, e6⟩ := fact_al (en := en) (d := d) (d' := d' + 2) (z := 0) hS hB (by decide)
  have e1' : qev en (d + 131) 142 [.ref 65, .int (0 : Int32)] s = some (none, s1) := e1
  have e2' : qev en (d' + 11) 268 [.ref 151] t = some (some (.int (nI 400)), t1) := e2
  have nD : ∀ (s' : qS) (F : Nat), s'.1 65 11 = nI F → F ≠ 0 → F < 16 → s'.1 65 11 = 0 → s'.1 65 9 = s.1 65 9 ∧ s'.1 65 10 = s.1 65 10 := fun s' F h1 h2 h3 h4 => by
    rw [h1, n_eq (by decide) (by omega)] at h4
    exact absurd h4 h2
  have pX : ∀ r, bV (qev en (d + 131) 115 [.ref 65, .int (326 : Int32)] s1) (fun s6 => bV (qev en (d + 131) 142 [.ref 65, .int (1 : Int32)] s6) (fun s9 => L_X6_readLaw_123 en (d + 131) s9)) = some r → xF2 en (d + 131) s = some r := fun r hr => by
    show bV _ _ = _
    rw [e1', bV_some]; exact hr
  have pM : ∀ r, (bI (qev en (d' + 11) 243 [.ref 151] t1) (fun w2 s3 => if w2 = (0 : Int32) then L_X12_judge_198 en (d' + 11) (nI 5) v2 (nI 400) (t1.1 151 25) s3 else bI (qev en (d' + 11) 255 [.ref 151, .long (465557349491 : Int64)] s3) (fun w6 s7 => bV (qev en (d' + 11) 245 [.ref 151, .int w6, .int (2 : Int32)] s7) (fun s10 => L_X12_judge_198 en (d' + 11) (nI 5) v2 (nI 400) (t1.1 151 25) s10)))) = some r → L_X12_judge_149 en (d' + 11) (nI 5) v2 t = some r := fun r hr => by
    refine le_X12_judge_149 en _ _ _ _ _ ?_
    rw [m_goodL m7, bI_some, if_neg (by decide), e2', bI_some]
    refine le_X12_judge_167 en _ _ _ _ _ _ ?_
    rw [if_neg (show ¬ ¬ nI 5 = (5 : Int32) from not_not_intro rfl)]
    exact hr
  rcases e6 with ⟨U', cl', i', m', g1, g2, g3, g4, g5, g6⟩ | e6
  · obtain ⟨hc, hm⟩ := id g1.1
    obtain ⟨hi, c1, -, -⟩ := cL_at hc
    have hx := tkK_lt (B := B) hi
    have a26 := m_isKeyW (en := en) (d := d' + 10) (j := 26) (C := 465557349491) hB hm (by decide) (by decide +kernel)
    by_cases q : tkK B n i' = 326
    · obtain ⟨s2, t2, b1, b2, b3, b4, b5⟩ := adv_al (en := en) (d := d + 129) (d' := d' + 8) g1.1 (by omega)
      have e115 : qev en (d + 131) 115 [.ref 65, .int (326 : Int32)] s1 = some (none, s2) := by
        rcases x_need (en := en) (k := 326) g1.1 ⟨by decide, by decide⟩ with ⟨_, f⟩ | ⟨f, _⟩
        · exact f (d + 129) s2 b1
        · exact absurd q f
      have wX2 : lwX s s2 := e3.tr (lwX.tk (tnF.ad b3))
      have wM2 : lwM t t2 := e4.tr (lwM.mv b4)
      have pX2 : ∀ r, bV (qev en (d + 131) 142 [.ref 65, .int (1 : Int32)] s2) (fun s9 => L_X6_readLaw_123 en (d + 131) s9) = some r → xF2 en (d + 131) s = some r := fun r hr => pX r (by
        rw [e115, bV_some]; exact hr)
      have pM2 : ∀ r, (bI (qev en (d' + 11) 243 [.ref 151] t2) (fun w4 s5 => if w4 = (0 : Int32) then L_X12_judge_220 en (d' + 11) (nI 5) v2 (nI 400) (t1.1 151 25) (s5.1 151 25) s5 else bI (qev en (d' + 11) 268 [.ref 151] s5) (fun w8 s9 => L_X12_judge_220 en (d' + 11) (nI 5) v2 (nI 400) (t1.1 151 25) w8 s9))) = some r → L_X12_judge_149 en (d' + 11) (nI 5) v2 t = some r := fun r hr => pM r (by
        rw [m_goodL hm.2.1, bI_some, if_neg (by decide), show qev en (d' + 11) 255 [.ref 151, .long (465557349491 : Int64)] t1 = _ from a26, bI_some, decide_eq_true q, show qev en (d' + 11) 245 [.ref 151, .int (bt true), .int (2 : Int32)] t1 = some (none, t1) from m_needT, bV_some]
        refine le_X12_judge_198 en _ _ _ _ _ _ _ ?_
        rw [show qev en (d' + 11) 249 [.ref 151] t1 = _ from b2, bV_some]
        exact hr)
      rcases b5 with b5 | b5
      · have hS2 : exS true 61 400 0 B n s2 t2 V U' cl' nc nl nt (i' + 1) m' := lwS_tk g1 (tnF.ad b3) b4 b5
        obtain ⟨s3, t3, f1, f2, f3, f4, f5, f6, f7, -, f8⟩ := fact_al (en := en) (d := d) (d' := d' + 2) (z := 1) hS2 hB (by decide)
        have f2' : qev en (d' + 11) 268 [.ref 151] t2 = some (some (.int (nI (400 + m'))), t3) := f2
        have m72 := b5.2.2.1
        have pX3 : ∀ r, L_X6_readLaw_123 en (d + 131) s3 = some r → xF2 en (d + 131) s = some r := fun r hr => pX2 r (by
          rw [show qev en (d + 131) 142 [.ref 65, .int (1 : Int32)] s2 = _ from f1, bV_some]; exact hr)
        have k9 : s3.1 65 9 = s.1 65 9 := f7.1.trans ((by rw [b3.1 65 (by decide)] : s2.1 65 9 = s1.1 65 9).trans e5.1)
        have k10 : s3.1 65 10 = s.1 65 10 := f7.2.trans ((by rw [b3.1 65 (by decide)] : s2.1 65 10 = s1.1 65 10).trans e5.2)
        rcases f8 with ⟨U3, cl3, i3, m3, h1, h2, h3, h4, h5, h6⟩ | f8
        · have m73 := h1.1.2.2.1
          have pM3 : ∀ r, L_X12_judge_238 en (d' + 11) (nI 5) v2 (nI 400) (nI (400 + m')) t3 = some r → L_X12_judge_149 en (d' + 11) (nI 5) v2 t = some r := fun r hr => pM2 r (by
            rw [m_goodL m72, bI_some, if_neg (by decide), f2', bI_some]
            refine le_X12_judge_220 en _ _ _ _ _ _ _ _ ?_
            rw [m_goodL m73, bI_some, if_neg (by decide)]
            exact hr)
          have q61 : ∀ a, a = 62 ∨ a = 63 → s2.1 a = s1.1 a := fun a ha => b3.1 a (by omega)
          have q161 : ∀ a, a = 161 ∨ a = 162 → t2.1 a = t1.1 a := fun a ha => b4.1 a (by omega)
          have hnd : ndZ true 0 s3 t3 61 400 0 m' := fun j j1 j2 => by
            obtain ⟨y1, y2, y3, y4⟩ := f5 j j2
            refine nd1_eq (g3 j j1 j2) ?_ ?_ ?_ ?_
            · show s3.1 62 j = s1.1 62 j
              rw [y1, q61 62 (Or.inl rfl)]
            · show s3.1 63 j = s1.1 63 j
              rw [y2, q61 63 (Or.inr rfl)]
            · rw [y3, q161 161 (Or.inl rfl)]
            · rw [y4, q161 162 (Or.inr rfl)]
          have hgw : gw (s3.1 62) (s3.1 63) 0 m' := gw_ag g4 (fun j _ j2 => by
            obtain ⟨y1, y2, -⟩ := f5 j j2
            exact ⟨by rw [y1, q61 62 (Or.inl rfl)], by rw [y2, q61 63 (Or.inr rfl)]⟩)
          have g69 : ∀ j, j = 0 ∨ j = 1 → s3.1 69 j = s1.1 69 j := fun j hj => by rw [f6 j (by omega) (by omega), b3.1 69 (by decide)]
          rcases lwEnd_al (en := en) (d := d + 130) (d' := d' + 9) (v1 := nI 5) (v2 := v2) (v3 := nI 400) (v4 := nI (400 + m')) h1.1 with ⟨-, o2, o3⟩ | ⟨s4, t4, o1, o2, o3, o4, o5⟩
          · refine ⟨s3, t3, pX3 _ o2, wX2.tr f3, wM2.tr f4, fun _ => ⟨k9, k10⟩, Or.inl ⟨m', m3, ⟨⟨h1.1.1.2.2.2.1.1, h1.1.1.2.2.2.1.2⟩, ⟨by rw [g69 0 (Or.inl rfl)]; exact g5, by rw [g69 1 (Or.inr rfl)]; exact g6⟩, fun _ => ⟨h5, h6⟩, ⟨m73, by rw [if_pos rfl]; exact h1.2.2.2.2.2.2⟩, ⟨hnd, hgw, g1.2.2.2.2.1.2.2⟩, fun _ => ⟨h3, h4, h1.2.2.2.2.1.2.2⟩⟩, fun r hr => pM3 r (o3 r hr)⟩⟩
          · refine ⟨s4, t4, pX3 _ o1, (wX2.tr f3).tr (lwX.bm o4), (wM2.tr f4).tr (lwM.mv o5), ?_, Or.inr ⟨o3, nI 400, nI (400 + m'), fun r hr => pM3 r (o2 r hr)⟩⟩
            obtain ⟨F, p, y1, y2, y3, y4, -⟩ := o3
            exact nD s4 F y1 y3 y4
        · obtain ⟨F, p, z1, z2⟩ := f8
          obtain ⟨s4, o1, o2, o3, o4, o5, o6⟩ := xD_L123 (en := en) (d := d + 130) z1
          refine ⟨s4, t3, pX3 _ o1, (wX2.tr f3).tr (lwX.bm o2), wM2.tr f4, nD s4 F o3 o5 o6, Or.inr ⟨lwDD_of o3 o4 o5 o6 z2, nI 400, t1.1 151 25, fun r hr => pM2 r ?_⟩⟩
          rw [m_goodL m72, bI_some, if_neg (by decide), f2', bI_some]
          refine le_X12_judge_220 en _ _ _ _ _ _ _ _ ?_
          rw [m_goodD z2, bI_some, if_pos rfl]
          exact mD_238 (d := d' + 10) z2 r hr
      · obtain ⟨F, p, z1, z2⟩ := b5
        obtain ⟨s4, o1, o2, o3, o4, o5, o6⟩ := xD_F2b (en := en) (d := d + 118) z1 (by rw [b3.2.2.2]; exact r7)
        refine ⟨s4, t2, pX2 _ o1, wX2.tr o2, wM2, nD s4 F o3 o5 o6, Or.inr ⟨lwDD_of o3 o4 o5 o6 z2, nI 400, t1.1 151 25, fun r hr => pM2 r ?_⟩⟩
        rw [m_goodD z2, bI_some, if_pos rfl]
        refine le_X12_judge_220 en _ _ _ _ _ _ _ _ ?_
        rw [m_goodD z2, bI_some, if_pos rfl]
        exact mD_238 (d := d' + 10) z2 r hr
    · obtain ⟨t2, w1, w2, w3⟩ := fault_al (en := en) (d' := d' + 9) (k := 2) g1.1 ⟨by decide, by decide⟩
      have e115 : qev en (d + 131) 115 [.ref 65, .int (326 : Int32)] s1 = some (none, bmS s1 2) := by
        rcases x_need (en := en) (k := 326) g1.1 ⟨by decide, by decide⟩ with ⟨f, _⟩ | ⟨_, f⟩
        · exact absurd f q
        · exact f (d + 129)
      obtain ⟨s4, o1, o2, o3, o4, o5, o6⟩ := xD_F2b (en := en) (d := d + 118) w3.1 (by rw [bmS_F.2.2.2]; exact r7)
      refine ⟨s4, t2, pX _ ?_, (e3.tr (lwX.bm bmS_F)).tr o2, e4.tr (lwM.mv w2), nD s4 2 o3 o5 o6, Or.inr ⟨lwDD_of o3 o4 o5 o6 w3.2, nI 400, t1.1 151 25, fun r hr => pM r ?_⟩⟩
      · rw [e115, bV_some]
        exact o1
      · rw [m_goodL hm.2.1, bI_some, if_neg (by decide), show qev en (d' + 11) 255 [.ref 151, .long (465557349491 : Int64)] t1 = _ from a26, bI_some, decide_eq_false q, show qev en (d' + 11) 245 [.ref 151, .int (bt false), .int (2 : Int32)] t1 = _ from w1, bV_some]
        exact mD_198 (d := d' + 9) w3.2 r hr
  · obtain ⟨F, p, z1, z2⟩ := id e6
    obtain ⟨s4, o1, o2, o3, o4, o5, o6⟩ := xD_F2a (en := en) (d := d + 118) z1 r7
    refine ⟨s4, t1, pX _ o1, e3.tr o2, e4, nD s4 F o3 o5 o6, Or.inr ⟨lwDD_of o3 o4 o5 o6 z2, nI 400, t1.1 151 25, fun r hr => pM r ?_⟩⟩
    rw [m_goodD z2, bI_some, if_pos rfl]
    exact mD_198 (d := d' + 9) z2 r hr
end LWD
