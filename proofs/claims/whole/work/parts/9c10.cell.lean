/-! THE READER: a cell on both sides. -/
/-- both stand between declarations, or behind a fault -/
abbrev tpL (B : Nat → Nat) (n : Nat) (s t : qS) (V : Nat → Nat) (U : Nat → Nat → Nat) (cl : Nat → Nat) (nc nl nt m N : Nat) (th K : Nat → Nat) (bl : Nat → List Nat) : Prop := (∃ i, rdL s t B n i ∧ tpS s t V U cl nc nl nt m N th K bl) ∨ rdD s t
def sgI (b : Bool) (x : Int32) : Int32 := if b = true then -x else x
section RCL
variable {en : pN} {d d' k i i' n N j x y c u v q nc nc' nl nl' nt nt' m : Nat} {V V' cl cl' th K : Nat → Nat} {U : Nat → Nat → Nat} {bl : Nat → List Nat} {s s' s'' t t' t'' : qS} {B : Nat → Nat} {w z : Int32} {W : Int64}
theorem rdL_mi {a : Nat} (h : rdL s t B n i) (h1 : a ≠ 151) (h2 : a ≠ 152) : rdL s (uI t a j w) B n i := ⟨h.1, mtL_fr h.2 (fun _ _ => by rw [uI_ne (Ne.symm h1)]) (uI_ne (Ne.symm h2)) rfl⟩
theorem rdL_xi {a : Nat} (h : rdL s t B n i) (h1 : a ≠ 1) (h2 : a ≠ 4) (h3 : a ≠ 5) (h4 : a ≠ 65) : rdL (uI s a j w) t B n i := ⟨cL_fr h.1 (fun _ _ => by rw [uI_ne (Ne.symm h1)]) (uI_ne (Ne.symm h2)) (uI_ne (Ne.symm h3)) rfl rfl rfl (fun _ _ => by rw [uI_ne (Ne.symm h4)]), h.2⟩
theorem tnF_ui {a : Nat} (h : tnF s s') (h1 : a ≠ 1) (h2 : a ≠ 65) : tnF (uI s a j w) (uI s' a j w) := ⟨fun c a1 a2 => by
  funext k
  rw [rdU, rdU, h.1 c a1 a2], fun j a b c => by rw [uI_ne (Ne.symm h1), uI_ne (Ne.symm h1)]; exact h.2.1 j a b c, fun j a b => by rw [uI_ne (Ne.symm h2), uI_ne (Ne.symm h2)]; exact h.2.2.1 j a b, h.2.2.2.1, h.2.2.2.2⟩
theorem mvF_ui {a : Nat} (h : mvF t t') (h1 : a ≠ 151) : mvF (uI t a j w) (uI t' a j w) := ⟨fun c a1 => by
  funext k
  rw [rdU, rdU, h.1 c a1], fun j a b c d e f => by rw [uI_ne (Ne.symm h1), uI_ne (Ne.symm h1)]; exact h.2.1 j a b c d e f, h.2.2.1, h.2.2.2.1, h.2.2.2.2⟩
/-- what ends a declaration -/
theorem semi_al (h : tpL B n s t V U cl nc nl nt m N th K bl) : ∃ s' t', qev en (d + 2) 115 [.ref 65, .int (59 : Int32)] s = some (none, s') ∧ qev en (d' + 4) 252 [.ref 151, .int (59 : Int32)] t = some (none, t') ∧ tqX s s' ∧ tqM t t' ∧ tpL B n s' t' V U cl nc nl nt m N th K bl := by
  rcases h with ⟨i, h1, h2⟩ | h
  · obtain ⟨s', t', e1, e2, e3, e4, e5⟩ := must_al (en := en) (d := d) (d' := d') (k := 59) h1 ⟨by decide, by decide⟩
    refine ⟨s', t', e1, e2, tqX.tk e3, tqM.mv e4, ?_⟩
    rcases e5 with ⟨_, e5⟩ | e5
    · exact Or.inl ⟨i + 1, e5, tpS_tk h2 e3 e4⟩
    · exact Or.inr e5
  · obtain ⟨e1, e2, e3⟩ := mustD_al (en := en) (d := d) (d' := d' + 1) (k := 59) (x := 59) h ⟨by decide, by decide⟩
    exact ⟨bmS s 2, t, e1, e2, tqX.bm bmS_F, tqM.rf, Or.inr e3⟩
theorem inR_sg (hv : v < 1000) {b : Bool} : inR (sgI b (nI v)) := by
  obtain ⟨h1, h2⟩ := (show ∀ v, v < 1000 → ((-999 : Int32) ≤ nI v ∧ nI v ≤ 999) ∧ ((-999 : Int32) ≤ -nI v ∧ -nI v ≤ 999) by decide +kernel) v hv
  cases b
  · exact h1
  · exact h2
/-- the value of a cell, behind its sign -/
theorem cellV_al (hB : ∀ j, j < n → B j < 256) (h : tpL B n s t V U cl (c + 1) nl nt m N th K bl) (h12 : t.1 151 12 = nI (c + 1)) (hc8 : c < 8) (b : Bool) : ∃ s' t', bV (qev en (d + 4) 115 [.ref 65, .int (3 : Int32)] s) (fun s9 => if bt b = (0 : Int32) then L_X6_readCell_112 en (d + 4) (nI c) (s.2.1 1 11).toInt32 s9 else L_X6_readCell_112 en (d + 4) (nI c) (-(s.2.1 1 11).toInt32) s9) = some (none, s') ∧ L_X12_readCell_156 en (d' + 4) (bt b) t = some (none, t') ∧ tqX s s' ∧ tqM t t' ∧ tpL B n s' t' V U cl (c + 1) nl nt m N th K bl := by
  have e12 : t.1 151 12 - (1 : Int32) = nI c := by rw [h12]; exact n_sr (by omega)
  have pX : ∀ s9 s', qev en (d + 4) 115 [.ref 65, .int (3 : Int32)] s = some (none, s9) → qev en (d + 4) 115 [.ref 65, .int (59 : Int32)] (uI s9 15 c (sgI b (s.2.1 1 11).toInt32)) = some (none, s') → bV (qev en (d + 4) 115 [.ref 65, .int (3 : Int32)] s) (fun s9 => if bt b = (0 : Int32) then L_X6_readCell_112 en (d + 4) (nI c) (s.2.1 1 11).toInt32 s9 else L_X6_readCell_112 en (d + 4) (nI c) (-(s.2.1 1 11).toInt32) s9) = some (none, s') := fun s9 s' h1 h2 => by
    have g112 : L_X6_readCell_112 en (d + 4) (nI c) (sgI b (s.2.1 1 11).toInt32) s9 = some (none, s') := by
      refine le_X6_readCell_112 en _ _ _ _ _ ?_
      rw [gd_in hc8 (by decide), n_cl (by omega), nm_eq]
      refine le_X6_readCell_113 en _ _ _ ?_
      rw [h2, bV_some]
    rw [h1, bV_some]
    cases b
    · rw [if_pos (show bt false = (0 : Int32) from rfl)]; exact g112
    · rw [if_neg (show ¬ bt true = (0 : Int32) by decide)]; exact g112
  have p181 : ∀ t1 t2 t', t1.1 151 12 = nI (c + 1) → qev en (d' + 4) 249 [.ref 151] (uI t1 154 c (sgI b (t1.1 151 6))) = some (none, t2) → qev en (d' + 4) 252 [.ref 151, .int (59 : Int32)] t2 = some (none, t') → L_X12_readCell_181 en (d' + 4) (bt b) t1 = some (none, t') := fun t1 t2 t' h0 h1 h2 => by
    have e12 : t1.1 151 12 - (1 : Int32) = nI c := by rw [h0]; exact n_sr (by omega)
    have g207 : L_X12_readCell_207 en (d' + 4) (nI c) (sgI b (t1.1 151 6)) t1 = some (none, t') := by
      refine le_X12_readCell_207 en _ _ _ _ _ ?_
      rw [gd_in hc8 (by decide), n_cl (by omega), nm_eq, h1, bV_some]
      refine le_X12_readCell_212 en _ _ _ ?_
      rw [h2, bV_some]
    refine le_X12_readCell_181 en _ _ _ _ ?_
    rw [e12]
    cases b
    · rw [if_pos (show bt false = (0 : Int32) from rfl)]; exact g207
    · rw [if_neg (show ¬ bt true = (0 : Int32) by decide)]; exact g207
  rcases h with ⟨i, h1, h2⟩ | h
  · obtain ⟨hc, hm⟩ := id h1
    obtain ⟨hi, c1, c2, c3⟩ := cL_at hc
    obtain ⟨⟨mX, mn, -⟩, m7, m4, mk1, m2, m3, m5, m6⟩ := id hm
    have hx := tkK_lt (B := B) hi
    obtain ⟨k1, -, k2, -⟩ := kdM_v hx
    have p156 : ∀ t1 t', qev en (d' + 4) 245 [.ref 151, .int (bt (decide (tkK B n i = 3))), .int (2 : Int32)] t = some (none, t1) → L_X12_readCell_181 en (d' + 4) (bt b) t1 = some (none, t') → L_X12_readCell_156 en (d' + 4) (bt b) t = some (none, t') := fun t1 t' g1 g2 => by
      have g177 : L_X12_readCell_177 en (d' + 4) (bt b) (bt (decide (tkK B n i = 3))) t = some (none, t') := by
        refine le_X12_readCell_177 en _ _ _ _ _ ?_
        rw [g1, bV_some]; exact g2
      refine le_X12_readCell_156 en _ _ _ _ ?_
      rw [m_goodL m7, bI_some, if_neg (by decide), m3]
      by_cases q : tkK B n i = 3
      · rw [if_neg (by rw [n_eq (by decide) (by omega)]; exact not_not_intro (k2.mpr q))]
        rw [decide_eq_true q] at g177; exact g177
      · rw [if_pos (by rw [n_eq (by decide) (by omega)]; exact fun z => q (k2.mp z))]
        rw [decide_eq_false q] at g177; exact g177
    by_cases q : tkK B n i = 3
    · have cw := c3 (by omega)
      have mw := m6 q
      have hv := num_lt hB hi q
      generalize hval : (tkN B n i).2.2.1 = v at *
      have hin : inR (sgI b (nI v)) := inR_sg hv
      obtain ⟨s1, t1, e1, e2, e3, e4, e5⟩ := adv_al (en := en) (d := d + 2) (d' := d' + 1) (rdL_mi (a := 154) (j := c) (w := sgI b (nI v)) h1 (by decide) (by decide)) (by omega)
      have f1 : tqX s (uI s1 15 c (sgI b (nI v))) := (tqX.tk (tnF.ad e3)).tr (tqX.ui (by decide))
      have f2 : tqM t t1 := (tqM.ui (by decide)).tr (tqM.mv e4)
      have L : tpL B n (uI s1 15 c (sgI b (nI v))) t1 V U cl (c + 1) nl nt m N th K bl := by
        rcases e5 with e5 | e5
        · exact Or.inl ⟨i + 1, rdL_xi e5 (by decide) (by decide) (by decide) (by decide), tpS_tk (tpS_val h2 (Nat.lt_succ_self c) hin) (tnF_ui (tnF.ad e3) (by decide) (by decide)) e4⟩
        · exact Or.inr (rdD_ui e5 (by decide) (by decide))
      obtain ⟨s2, t2, g1, g2, g3, g4, g5⟩ := semi_al (en := en) (d := d + 2) (d' := d') L
      refine ⟨s2, t2, pX s1 s2 ?_ ?_, p156 t t2 ?_ (p181 t t1 t2 h12 ?_ g2), f1.tr g3, f2.tr g4, g5⟩
      · rcases x_need (en := en) (k := 3) h1 ⟨by decide, by decide⟩ with ⟨_, f⟩ | ⟨f, _⟩
        · exact f (d + 2) s1 e1
        · exact absurd q f
      · rw [cw, i64_32]; exact g1
      · rw [decide_eq_true q]; exact m_needT
      · rw [mw]; exact e2
    · obtain ⟨t1, w1, w2, w3⟩ := fault_al (en := en) (d' := d' + 2) (k := 2) h1 ⟨by decide, by decide⟩
      have hD : rdD (uI (bmS s 2) 15 c (sgI b (s.2.1 1 11).toInt32)) (uI t1 154 c (sgI b (t1.1 151 6))) := rdD_mi (rdD_ui ⟨_, _, w3.1, w3.2⟩ (by decide) (by decide)) (by decide)
      have f1 : tqX s (uI (bmS s 2) 15 c (sgI b (s.2.1 1 11).toInt32)) := (tqX.bm bmS_F).tr (tqX.ui (by decide))
      have f2 : tqM t (uI t1 154 c (sgI b (t1.1 151 6))) := (tqM.mv w2).tr (tqM.ui (by decide))
      obtain ⟨s2, t2, g1, g2, g3, g4, g5⟩ := semi_al (en := en) (d := d + 2) (d' := d') (V := V) (U := U) (cl := cl) (nc := c + 1) (nl := nl) (nt := nt) (m := m) (N := N) (th := th) (K := K) (bl := bl) (B := B) (n := n) (Or.inr hD)
      refine ⟨s2, t2, pX (bmS s 2) s2 ?_ g1, p156 t1 t2 ?_ (p181 t1 _ t2 ?_ ?_ g2), f1.tr g3, f2.tr g4, g5⟩
      · rcases x_need (en := en) (k := 3) h1 ⟨by decide, by decide⟩ with ⟨f, _⟩ | ⟨_, f⟩
        · exact absurd f q
        · exact f (d + 2)
      · rw [decide_eq_false q]; exact w1
      · rw [w2.2.1 12 (by decide) (by decide) (by decide) (by decide) (by decide) (by decide)]; exact h12
      · obtain ⟨F, p, -, z2⟩ := hD
        exact m_nextD z2
  · obtain ⟨F, p, z1, z2⟩ := id h
    have hD : rdD (uI (bmS s 2) 15 c (sgI b (s.2.1 1 11).toInt32)) (uI t 154 c (sgI b (t.1 151 6))) := rdD_mi (rdD_ui ⟨F, p, bmS_dead z1, z2⟩ (by decide) (by decide)) (by decide)
    have f1 : tqX s (uI (bmS s 2) 15 c (sgI b (s.2.1 1 11).toInt32)) := (tqX.bm bmS_F).tr (tqX.ui (by decide))
    obtain ⟨s2, t2, g1, g2, g3, g4, g5⟩ := semi_al (en := en) (d := d + 2) (d' := d') (V := V) (U := U) (cl := cl) (nc := c + 1) (nl := nl) (nt := nt) (m := m) (N := N) (th := th) (K := K) (bl := bl) (B := B) (n := n) (Or.inr hD)
    refine ⟨s2, t2, pX (bmS s 2) s2 (x_deadNeed (d := d + 2) (m := 3) z1 ⟨by decide, by decide⟩) g1, le_X12_readCell_156 en _ _ _ _ ?_, f1.tr g3, (tqM.ui (by decide)).tr g4, g5⟩
    rw [m_goodD z2, bI_some, if_pos rfl]
    refine p181 t _ t2 h12 ?_ g2
    obtain ⟨F', p', -, y2⟩ := hD
    exact m_nextD y2
/-- whether a cell has a value, and which -/
theorem cellE_al (hB : ∀ j, j < n → B j < 256) (h : tpL B n s t V U cl (c + 1) nl nt m N th K bl) (h12 : t.1 151 12 = nI (c + 1)) (hc8 : c < 8) : ∃ s' t', L_X6_readCell_64 en (d + 4) (nI c) s = some (none, s') ∧ L_X12_readCell_106 en (d' + 4) t = some (none, t') ∧ tqX s s' ∧ tqM t t' ∧ tpL B n s' t' V U cl (c + 1) nl nt m N th K bl := by
  rcases h with ⟨i, h1, h2⟩ | h
  · obtain ⟨hc, hm⟩ := id h1
    obtain ⟨hi, c1, c2, c3⟩ := cL_at hc
    obtain ⟨⟨mX, mn, -⟩, m7, m4, mk1, m2, m3, m5, m6⟩ := id hm
    have hx := tkK_lt (B := B) hi
    obtain ⟨k1, -, -, k4⟩ := kdM_v hx
    obtain ⟨sk0, sk1⟩ := x_116 (en := en) (k := 61) hc ⟨by decide, by decide⟩
    by_cases q : tkK B n i = 61
    · obtain ⟨s1, t1, e1, e2, e3, e4, e5⟩ := adv_al (en := en) (d := d + 2) (d' := d' + 1) h1 (by omega)
      have f1 : tqX s s1 := tqX.tk (tnF.ad e3)
      have f2 : tqM t t1 := tqM.mv e4
      have h12' : t1.1 151 12 = nI (c + 1) := by rw [e4.2.1 12 (by decide) (by decide) (by decide) (by decide) (by decide) (by decide)]; exact h12
      have pX : ∀ (b : Bool) s2 s', qev en (d + 4) 116 [.ref 65, .int (45 : Int32)] s1 = some (some (.int (bt b)), s2) → bV (qev en (d + 4) 115 [.ref 65, .int (3 : Int32)] s2) (fun s9 => if bt b = (0 : Int32) then L_X6_readCell_112 en (d + 4) (nI c) (s2.2.1 1 11).toInt32 s9 else L_X6_readCell_112 en (d + 4) (nI c) (-(s2.2.1 1 11).toInt32) s9) = some (none, s') → L_X6_readCell_64 en (d + 4) (nI c) s = some (none, s') := fun b s2 s' g1 g2 => by
        refine le_X6_readCell_64 en _ _ _ _ ?_
        rw [show qev en (d + 4) 116 [.ref 65, .int (61 : Int32)] s = _ from sk1 q (d + 3) s1 e1, bI_some, if_neg (by decide), g1, bI_some]
        exact g2
      have pM : ∀ t', (bI (qev en (d' + 4) 243 [.ref 151] t1) (fun w9 s10 => if w9 = (0 : Int32) then L_X12_readCell_147 en (d' + 4) (0 : Int32) s10 else if ¬ (s10.1 151 3) = (45 : Int32) then L_X12_readCell_147 en (d' + 4) (0 : Int32) s10 else L_X12_readCell_147 en (d' + 4) (1 : Int32) s10)) = some (none, t') → L_X12_readCell_106 en (d' + 4) t = some (none, t') := fun t' g => by
        refine le_X12_readCell_106 en _ _ _ ?_
        rw [m_goodL m7, bI_some, if_neg (by decide), if_neg (by rw [m3, n_eq (by decide) (by omega)]; exact not_not_intro ((k4 61 (by decide) (by decide)).mpr q)), show qev en (d' + 4) 249 [.ref 151] t = _ from e2, bV_some]
        exact g
      have no : ∀ (s1' : qS), qev en (d + 4) 116 [.ref 65, .int (45 : Int32)] s1 = some (some (.int 0), s1) → tpL B n s1 t1 V U cl (c + 1) nl nt m N th K bl → (∀ r, L_X12_readCell_147 en (d' + 4) 0 t1 = some r → bI (qev en (d' + 4) 243 [.ref 151] t1) (fun w9 s10 => if w9 = (0 : Int32) then L_X12_readCell_147 en (d' + 4) (0 : Int32) s10 else if ¬ (s10.1 151 3) = (45 : Int32) then L_X12_readCell_147 en (d' + 4) (0 : Int32) s10 else L_X12_readCell_147 en (d' + 4) (1 : Int32) s10) = some r) → ∃ s' t', L_X6_readCell_64 en (d + 4) (nI c) s = some (none, s') ∧ L_X12_readCell_106 en (d' + 4) t = some (none, t') ∧ tqX s s' ∧ tqM t t' ∧ tpL B n s' t' V U cl (c + 1) nl nt m N th K bl := fun _ g1 g2 g3 => by
        obtain ⟨s', t', a1, a2, a3, a4, a5⟩ := cellV_al (en := en) (d := d) (d' := d') hB g2 h12' hc8 false
        refine ⟨s', t', pX false s1 s' g1 a1, pM t' (g3 _ (le_X12_readCell_147 en _ _ _ _ ?_)), f1.tr a3, f2.tr a4, a5⟩
        rw [if_pos rfl]; exact a2
      rcases e5 with e5 | e5
      · obtain ⟨hc', hm'⟩ := id e5
        obtain ⟨hi', c1', c2', c3'⟩ := cL_at hc'
        have hx' := tkK_lt (B := B) hi'
        obtain ⟨k1', -, -, k4'⟩ := kdM_v hx'
        have m7' := hm'.2.1
        have m3' := hm'.2.2.2.2.2.1
        obtain ⟨tk0, tk1⟩ := x_116 (en := en) (k := 45) hc' ⟨by decide, by decide⟩
        have hS1 := tpS_tk h2 (tnF.ad e3) e4
        by_cases q' : tkK B n (i + 1) = 45
        · obtain ⟨s2, t2, b1, b2, b3, b4, b5⟩ := adv_al (en := en) (d := d + 2) (d' := d' + 1) e5 (by omega)
          have L : tpL B n s2 t2 V U cl (c + 1) nl nt m N th K bl := by
            rcases b5 with b5 | b5
            · exact Or.inl ⟨i + 1 + 1, b5, tpS_tk hS1 (tnF.ad b3) b4⟩
            · exact Or.inr b5
          obtain ⟨s', t', a1, a2, a3, a4, a5⟩ := cellV_al (en := en) (d := d) (d' := d') hB L (by rw [b4.2.1 12 (by decide) (by decide) (by decide) (by decide) (by decide) (by decide)]; exact h12') hc8 true
          refine ⟨s', t', pX true s2 s' (tk1 q' (d + 3) s2 b1) a1, pM t' ?_, (f1.tr (tqX.tk (tnF.ad b3))).tr a3, (f2.tr (tqM.mv b4)).tr a4, a5⟩
          rw [m_goodL m7', bI_some, if_neg (by decide), if_neg (by rw [m3', n_eq (by decide) (by omega)]; exact not_not_intro ((k4' 45 (by decide) (by decide)).mpr q'))]
          refine le_X12_readCell_147 en _ _ _ _ ?_
          rw [if_neg (by decide), show qev en (d' + 4) 249 [.ref 151] t1 = _ from b2, bV_some]
          exact a2
        · refine no s1 (tk0 q' (d + 3)) (Or.inl ⟨i + 1, e5, hS1⟩) (fun r hr => ?_)
          rw [m_goodL m7', bI_some, if_neg (by decide), if_pos (by rw [m3', n_eq (by decide) (by omega)]; exact fun z => q' ((k4' 45 (by decide) (by decide)).mp z))]
          exact hr
      · obtain ⟨F, p, z1, z2⟩ := id e5
        refine no s1 (x_deadSkip (d := d + 3) (m := 45) z1 ⟨by decide, by decide⟩) (Or.inr e5) (fun r hr => ?_)
        rw [m_goodD z2, bI_some, if_pos rfl]
        exact hr
    · obtain ⟨s', t', a1, a2, a3, a4, a5⟩ := semi_al (en := en) (d := d + 2) (d' := d') (Or.inl ⟨i, h1, h2⟩)
      refine ⟨s', t', le_X6_readCell_64 en _ _ _ _ ?_, le_X12_readCell_106 en _ _ _ ?_, a3, a4, a5⟩
      · rw [show qev en (d + 4) 116 [.ref 65, .int (61 : Int32)] s = _ from sk0 q (d + 3), bI_some, if_pos rfl]
        refine le_X6_readCell_113 en _ _ _ ?_
        rw [a1, bV_some]
      · rw [m_goodL m7, bI_some, if_neg (by decide), if_pos (by rw [m3, n_eq (by decide) (by omega)]; exact fun z => q ((k4 61 (by decide) (by decide)).mp z))]
        refine le_X12_readCell_212 en _ _ _ ?_
        rw [a2, bV_some]
  · obtain ⟨F, p, z1, z2⟩ := id h
    obtain ⟨s', t', a1, a2, a3, a4, a5⟩ := semi_al (en := en) (d := d + 2) (d' := d') (V := V) (U := U) (cl := cl) (nc := c + 1) (nl := nl) (nt := nt) (m := m) (N := N) (th := th) (K := K) (bl := bl) (B := B) (n := n) (Or.inr h)
    refine ⟨s', t', le_X6_readCell_64 en _ _ _ _ ?_, le_X12_readCell_106 en _ _ _ ?_, a3, a4, a5⟩
    · rw [show qev en (d + 4) 116 [.ref 65, .int (61 : Int32)] s = _ from x_deadSkip (d := d + 3) (m := 61) z1 ⟨by decide, by decide⟩, bI_some, if_pos rfl]
      refine le_X6_readCell_113 en _ _ _ ?_
      rw [a1, bV_some]
    · rw [m_goodD z2, bI_some, if_pos rfl]
      refine le_X12_readCell_212 en _ _ _ ?_
      rw [a2, bV_some]
end RCL
