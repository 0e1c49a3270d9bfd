/-! THE READER: locals that lines set, on both sides. -/
section INT
variable {en : pN} {d d' k i i' n N j x y r m u F p nc nl nt D : Nat} {V cl : Nat → Nat} {U : Nat → Nat → Nat} {s s' s'' t t' t'' : qS} {B : Nat → Nat} {v w : Int32}
theorem exS_lc {cl' : Nat → Nat} {U' : Nat → Nat → Nat} (h : exS false 7 0 u B n s t V U cl nc nl nt i m) (f1 : ∀ a, a ≠ 14 → s'.1 a = s.1 a) (f2 : ∀ a, a ≠ 13 → s'.2.1 a = s.2.1 a) (f3 : s'.2.2 = s.2.2) (g1 : ∀ a, a ≠ 159 → t'.1 a = t.1 a) (g2 : ∀ a, a ≠ 160 → t'.2.1 a = t.2.1 a) (hn' : nmR s' t' V U' cl' nc nl nt) : exS false 7 0 u B n s' t' V U' cl' nc nl nt i m := by
  obtain ⟨⟨hc, hm⟩, -, ⟨h3, h4⟩, ⟨h5, h6⟩, h7, h8, h9⟩ := h
  have e65 := f1 65 (by decide)
  have e151 := g1 151 (by decide)
  exact ⟨⟨cL_fr hc (fun j _ => by rw [f1 1 (by decide)]) (f1 4 (by decide)) (f1 5 (by decide)) (by rw [f2 1 (by decide)]) (f2 3 (by decide)) (f2 6 (by decide)) (fun _ _ => by rw [e65]), mtL_fr hm (fun j _ => by rw [e151]) (g1 152 (by decide)) (by rw [g2 151 (by decide)])⟩, hn', ⟨by rw [e65]; exact h3, by rw [e151]; exact h4⟩, ⟨by rw [f3]; exact h5, by rw [e65]; exact h6⟩, by rw [e65, e151]; exact h7, by rw [f1 7 (by decide)]; exact h8, by rw [e151]; exact h9⟩
/-- the local at hand, found or made, without its line -/
theorem local_st (hE : exS false 7 0 u B n s t V U cl nc nl nt i m) (h2 : tkK B n i = 2) : (∃ (j : Nat) (s' t' : qS) (U' : Nat → Nat → Nat) (cl' : Nat → Nat), qev en (d + 2) 128 [.ref 65] s = some (some (.int (nI j)), s') ∧ qev en (d' + 3) 261 [.ref 151] t = some (some (.int (nI j)), t') ∧ j < cl' u ∧ exS false 7 0 u B n s' t' V U' cl' nc nl nt i m ∧ rxF false 7 m s s' ∧ rmF false m t t' ∧ (∀ a, a ≠ 14 → s'.1 a = s.1 a) ∧ (∀ a, a ≠ 159 → t'.1 a = t.1 a) ∧ (∀ w, cl w ≤ cl' w) ∧ j < 6) ∨ (∃ t' : qS, qev en (d + 2) 128 [.ref 65] s = some (some (.int (-1)), bmS s 4) ∧ qev en (d' + 3) 261 [.ref 151] t = some (some (.int (-1)), t') ∧ rdD (bmS s 4) t' ∧ mvF t t') := by
  obtain ⟨hu, hnt⟩ := hE.2.2.2.1.2 rfl
  rcases local_alike (en := en) (d := d) (d' := d') hE.2.1 hE.1.1 hE.1.2 h2 hu hnt with ⟨j, s1, t1, U', cl', e128, e261, hj, hn', ⟨f1, f2, f3⟩, ⟨k1, k2, k3⟩, hmo, hju⟩ | ⟨t1, e128, e261, hD, hmv⟩
  · exact Or.inl ⟨j, s1, t1, U', cl', e128, e261, hju, exS_lc hE f1 f2 f3 k1 k2 hn', rxF.lc f1 f2 f3 (Or.inl rfl), rmF.lc k1 k2 k3, f1, k1, hmo, hj⟩
  · obtain ⟨-, -, -, w3, -⟩ := fault_al (en := en) (d' := d') (k := 4) hE.1 ⟨by decide, by decide⟩
    exact Or.inr ⟨t1, e128, e261, ⟨4, _, w3, hD⟩, hmv⟩
/-- into: a local, or nothing -/
theorem into_al (hE : exS false 7 0 u B n s t V U cl nc nl nt i m) (hB : ∀ j, j < n → B j < 256) (hN : N < 100) : ∃ s' t', qev en (d + 6) 131 [.ref 65, .int (nI N)] s = some (none, s') ∧ L_X12_readRest_71 en (d' + 7) (nI N) t = some (none, t') ∧ stF N m s s' ∧ smF N m t t' ∧ kpX 21 s s' ∧ kpM 167 t t' ∧ ((∃ (U' : Nat → Nat → Nat) (cl' : Nat → Nat) (i' : Nat), exS false 7 0 u B n s' t' V U' cl' nc nl nt i' m ∧ (∀ w, cl w ≤ cl' w) ∧ ((s'.1 21 N = s.1 21 N ∧ t'.1 167 N = t.1 167 N) ∨ ∃ j, j < cl' u ∧ s'.1 21 N = nI j ∧ t'.1 167 N = nI j)) ∨ rdD s' t') := by
  obtain ⟨hi, c1, -, -⟩ := cL_at hE.1.1
  have hx := tkK_lt hi
  have m7 := hE.1.2.2.1
  have eI := m_isKeyW (en := en) (d := d' + 6) (j := 21) (C := 1768846447) hB hE.1.2 (by decide) (by decide)
  have pre71 : ∀ r, (if (bt (decide (tkK B n i = 300 + 21))) = (0 : Int32) then some (none, t) else bV (qev en (d' + 7) 249 [.ref 151] t) (fun s10 => bV (qev en (d' + 7) 282 [.ref 151, .int (nI N)] s10) (fun s13 => some (none, s13)))) = some r → L_X12_readRest_71 en (d' + 7) (nI N) t = some r := fun r hr => by
    refine le_X12_readRest_71 en _ _ _ _ ?_
    rw [m_goodL m7, bI_some, if_neg (by decide), eI, bI_some]
    exact hr
  by_cases q : tkK B n i = 321
  · rw [decide_eq_true (show tkK B n i = 300 + 21 from q), if_neg (by decide)] at pre71
    obtain ⟨s1, t1, e1, e2, e3, e4, e5⟩ := adv_al (en := en) (d := d + 3) (d' := d' + 4) hE.1 (by omega)
    have e116 : qev en (d + 5) 116 [.ref 65, .int (321 : Int32)] s = some (some (.int 1), s1) := by
      refine le_X6_skip en _ _ _ _ ?_
      rw [if_neg (by rw [c1, q]; exact not_not_intro rfl)]
      refine le_X6_skip_16 en _ _ _ _ ?_
      rw [if_neg (by decide), e1, bV_some, gd_true (Or.inr rfl)]
    have preX : ∀ s', (if (s1.1 1 9) = (2 : Int32) then bI (qev en (d + 5) 84 [.ref 11, .long (s1.2.1 1 11)] s1) (fun w6 s7 => if w6 < (0 : Int32) then bV (qev en (d + 5) 127 [.ref 65, .int (nI N)] s7) (fun s11 => some (none, s11)) else bV (qev en (d + 5) 114 [.ref 65, .int (3 : Int32)] s7) (fun s14 => some (none, s14))) else bV (qev en (d + 5) 114 [.ref 65, .int (2 : Int32)] s1) (fun s17 => some (none, s17))) = some (none, s') → qev en (d + 6) 131 [.ref 65, .int (nI N)] s = some (none, s') := fun s' hr => by
      refine le_X6_readInto en _ _ _ _ ?_
      rw [e116, bI_some, if_pos (by decide)]
      exact hr
    have preM : ∀ t', qev en (d' + 7) 282 [.ref 151, .int (nI N)] t1 = some (none, t') → L_X12_readRest_71 en (d' + 7) (nI N) t = some (none, t') := fun t' hr => pre71 _ (by rw [e2, bV_some, hr, bV_some])
    have f1 : stF N m s s1 := stF.tk (tnF.ad e3)
    have f2 : smF N m t t1 := smF.mv e4
    rcases e5 with e5 | e5
    · have hE1 := exS_tk hE (tnF.ad e3) e4 e5
      obtain ⟨hi1, c1', -, -⟩ := cL_at hE1.1.1
      have hx1 := tkK_lt hi1
      have m7' := hE1.1.2.2.1
      have eN := m_isNameK (en := en) (d := d' + 4) hB hE1.1.2
      have pre282 : ∀ r, bI (qev en (d' + 6) 254 [.ref 151] t1) (fun w5 s6 => bV (qev en (d' + 6) 245 [.ref 151, .int w5, .int (2 : Int32)] s6) (fun s9 => L_X12_takeInto_16 en (d' + 6) (nI N) s9)) = some r → qev en (d' + 7) 282 [.ref 151, .int (nI N)] t1 = some r := fun r hr => by
        refine le_X12_takeInto en _ _ _ _ ?_
        rw [m_goodL m7', bI_some, if_neg (by decide)]
        exact hr
      have m61 : ∀ (t2 : qS) F' p', mtD t2 F' p' → L_X12_takeInto_61 en (d' + 6) t2 = some (none, t2) := fun t2 F' p' h => by
        refine le_X12_takeInto_61 en _ _ _ ?_
        rw [show d' + 6 = d' + 4 + 2 from rfl, m_nextD h, bV_some]
      by_cases q2 : tkK B n (i + 1) = 2
      · have c9 : s1.1 1 9 = 2 := by rw [c1', q2]; rfl
        rw [q2, decide_eq_true rfl] at eN
        obtain ⟨W, wx, wy, wz, wr, -, -, -, e84, e256, e257, e258, hcase⟩ := word_st (en := en) hE1 hB q2
        have hb3 := hE1.2.1.1
        -- whether it is told
        have key : ∃ b : Bool, (wx < 0 ↔ b = false) ∧ (b = false ↔ (wy = -1 ∧ wz = -1 ∧ wr = -1)) := by
          have no1 : ∀ a : Nat, a < 2 ^ 31 → nI a ≠ -1 := fun a ha h => (n_m1 ha).mp h
          have nn0 : ∀ a : Nat, a < 2 ^ 31 → ¬ nI a < (0 : Int32) := fun a ha => by rw [n_gt (by decide) ha]; omega
          rcases hcase with ⟨rfl, rfl, rfl, rfl⟩ | ⟨c, hc', rfl, rfl, rfl, rfl⟩ | ⟨l, hl', rfl, rfl, rfl, rfl⟩ | ⟨v, hv', rfl, rfl, rfl, rfl⟩
          · exact ⟨false, ⟨fun _ => rfl, fun _ => by decide⟩, ⟨fun _ => ⟨rfl, rfl, rfl⟩, fun _ => rfl⟩⟩
          · exact ⟨true, ⟨fun h => absurd h (nn0 _ (by omega)), fun h => Bool.noConfusion h⟩, ⟨fun h => Bool.noConfusion h, fun h => absurd h.1 (no1 _ (by omega))⟩⟩
          · exact ⟨true, ⟨fun h => absurd h (nn0 _ (by omega)), fun h => Bool.noConfusion h⟩, ⟨fun h => Bool.noConfusion h, fun h => absurd h.2.1 (no1 _ (by omega))⟩⟩
          · exact ⟨true, ⟨fun h => absurd h (nn0 _ (by omega)), fun h => Bool.noConfusion h⟩, ⟨fun h => Bool.noConfusion h, fun h => absurd h.2.2 (no1 _ (by omega))⟩⟩
        obtain ⟨b, kx, km⟩ := key
        have e260 : qev en (d' + 6) 260 [.ref 151, .long (t1.2.1 151 5)] t1 = some (some (.int (bt b)), t1) := by
          refine le_X12_isTold en _ _ _ _ ?_
          rw [e256, bI_some]
          by_cases q1 : wy = -1
          · rw [if_neg (not_not_intro q1), e257, bI_some]
            by_cases q2 : wz = -1
            · rw [if_neg (not_not_intro q2), e258, bI_some]
              by_cases q3 : wr = -1
              · rw [if_pos q3, km.mpr ⟨q1, q2, q3⟩]; rfl
              · rw [if_neg q3]
                cases hbb : b
                · exact absurd (km.mp hbb).2.2 q3
                · rfl
            · rw [if_pos q2]
              cases hbb : b
              · exact absurd (km.mp hbb).2.1 q2
              · rfl
          · rw [if_pos q1]
            cases hbb : b
            · exact absurd (km.mp hbb).1 q1
            · rfl
        have pre16 : ∀ r, (if ¬ bt b = (0 : Int32) then L_X12_takeInto_40 en (d' + 6) (nI N) 0 t1 else L_X12_takeInto_40 en (d' + 6) (nI N) 1 t1) = some r → qev en (d' + 7) 282 [.ref 151, .int (nI N)] t1 = some r := fun r hr => pre282 r (by
          rw [eN, bI_some, show bt true = (1 : Int32) from rfl, m_needT, bV_some]
          refine le_X12_takeInto_16 en _ _ _ _ ?_
          rw [m_goodL m7', bI_some, if_neg (by decide), e260, bI_some]
          exact hr)
        cases hb : b
        · rw [hb] at pre16
          rw [if_neg (show ¬ ¬ bt false = (0 : Int32) from not_not_intro rfl)] at pre16
          have hwx := kx.mpr hb
          have pre44 : ∀ r, bI (qev en (d' + 6) 261 [.ref 151] t1) (fun w5 s6 => gd (p_inB (nI N) 400 = true) (nm (uI s6 167 ((nI N).toNatClampNeg) w5) (fun s9 => L_X12_takeInto_61 en (d' + 6) s9))) = some r → qev en (d' + 7) 282 [.ref 151, .int (nI N)] t1 = some r := fun r hr => pre16 r (by
            refine le_X12_takeInto_40 en _ _ _ _ _ ?_
            rw [m_needT, bV_some]
            refine le_X12_takeInto_44 en _ _ _ _ ?_
            rw [m_goodL m7', bI_some, if_neg (by decide)]
            exact hr)
          rcases local_st (en := en) (d := d + 2) (d' := d' + 3) hE1 q2 with ⟨j, s2, t2, U', cl', g1, g2, g3, g4, g5, g6, g7, g8, g9, g10⟩ | ⟨t2, g1, g2, ⟨F', p', g3, g4⟩, g5⟩
          · have hE3 := exS_mi (j := N) (v := nI j) (exS_ui (j := N) (v := nI j) g4 (Or.inl ⟨by decide, by decide⟩ : 15 ≤ 21 ∧ 21 ≤ 35 ∨ 21 = 68)) (show 164 ≤ 167 by decide)
            obtain ⟨s3, t3, a1, a2, a3, a4, a5⟩ := adv_al (en := en) (d := d + 3) (d' := d' + 3) hE3.1 (by omega)
            refine ⟨s3, t3, preX _ ?_, preM _ (pre44 _ ?_), ((f1.tr (stF.rx g5) (Nat.le_refl m)).tr (stF.ui (by decide)) (Nat.le_refl m)).tr (stF.tk (tnF.ad a3)) (Nat.le_refl m), ((f2.tr (smF.rm g6) (Nat.le_refl m)).tr (smF.ui rfl) (Nat.le_refl m)).tr (smF.mv a4) (Nat.le_refl m), (((kpX.tk (tnF.ad e3)).tr (kpX.rx g5)).tr (kpX.ui (by decide))).tr (kpX.tk (tnF.ad a3)), (((kpM.mv e4).tr (kpM.rm g6)).tr kpM.ui).tr (kpM.mv a4), ?_⟩
            · rw [if_pos c9, e84, bI_some, if_pos hwx]
              have e127 : qev en (d + 5) 127 [.ref 65, .int (nI N)] s1 = some (none, s3) := by
                refine le_X6_readLocal en _ _ _ _ ?_
                rw [g1, bI_some, if_neg (by rw [n_gt (by decide) (by omega)]; omega), gd_in (by omega) (by decide), n_cl (by omega), nm_eq, a1, bV_some]
              rw [e127, bV_some]
            · rw [g2, bI_some, gd_in (by omega) (by decide), n_cl (by omega), nm_eq]
              refine le_X12_takeInto_61 en _ _ _ ?_
              rw [a2, bV_some]
            · rcases a5 with a5 | a5
              · refine Or.inl ⟨U', cl', _, exS_tk hE3 (tnF.ad a3) a4 a5, g9, Or.inr ⟨j, g3, ?_, ?_⟩⟩
                · rw [a3.1 21 (by decide), rdW]
                · rw [a4.1 167 (by decide), rdW]
              · exact Or.inr a5
          · have hD : mtD (uI t2 167 N (-1)) F' p' := mtD_fr g4 (by rw [uI_ne (by decide)]) (by rw [uI_ne (by decide)])
            refine ⟨bmS s1 4, _, preX _ ?_, preM _ (pre44 _ ?_), f1.tr (stF.tk (tnF.bm bmS_F)) (Nat.le_refl m), (f2.tr (smF.mv g5) (Nat.le_refl m)).tr (smF.ui rfl) (Nat.le_refl m), (kpX.tk (tnF.ad e3)).tr (kpX.tk (tnF.bm bmS_F)), ((kpM.mv e4).tr (kpM.mv g5)).tr kpM.ui, Or.inr ⟨F', p', g3, hD⟩⟩
            · rw [if_pos c9, e84, bI_some, if_pos hwx]
              have e127 : qev en (d + 5) 127 [.ref 65, .int (nI N)] s1 = some (none, bmS s1 4) := by
                refine le_X6_readLocal en _ _ _ _ ?_
                rw [g1, bI_some, if_pos (by decide)]
              rw [e127, bV_some]
            · rw [g2, bI_some, gd_in (by omega) (by decide), n_cl (by omega), nm_eq]
              exact m61 _ F' p' hD
        · rw [hb] at pre16
          rw [if_pos (show ¬ bt true = (0 : Int32) by decide)] at pre16
          have hwx : ¬ wx < 0 := fun z => by
            have := kx.mp z
            rw [hb] at this
            cases this
          obtain ⟨t2, w1, w2, w3⟩ := fault_st (en := en) (d' := d' + 4) (k := 3) hE1 ⟨by decide, by decide⟩
          have w1' : qev en (d' + 6) 245 [.ref 151, .int (0 : Int32), .int (3 : Int32)] t1 = some (none, t2) := w1
          refine ⟨bmS s1 3, t2, preX _ ?_, preM _ (pre16 _ ?_), f1.tr (stF.tk (tnF.bm bmS_F)) (Nat.le_refl m), f2.tr (smF.mv w2) (Nat.le_refl m), (kpX.tk (tnF.ad e3)).tr (kpX.tk (tnF.bm bmS_F)), (kpM.mv e4).tr (kpM.mv w2), Or.inr w3⟩
          · rw [if_pos c9, e84, bI_some, if_neg hwx, x_blame, bV_some]
          · obtain ⟨F', p', g3, g4⟩ := w3
            refine le_X12_takeInto_40 en _ _ _ _ _ ?_
            rw [w1', bV_some]
            refine le_X12_takeInto_44 en _ _ _ _ ?_
            rw [m_goodD g4, bI_some, if_pos rfl]
            exact m61 _ F' p' g4
      · have c9 : ¬ s1.1 1 9 = (2 : Int32) := by rw [c1', n_eq (by decide) (by omega)]; exact q2
        rw [decide_eq_false q2] at eN
        obtain ⟨t2, w1, w2, w3⟩ := fault_st (en := en) (d' := d' + 4) (k := 2) hE1 ⟨by decide, by decide⟩
        have w1' : qev en (d' + 6) 245 [.ref 151, .int (bt false), .int (2 : Int32)] t1 = some (none, t2) := w1
        refine ⟨bmS s1 2, t2, preX _ ?_, preM _ (pre282 _ ?_), f1.tr (stF.tk (tnF.bm bmS_F)) (Nat.le_refl m), f2.tr (smF.mv w2) (Nat.le_refl m), (kpX.tk (tnF.ad e3)).tr (kpX.tk (tnF.bm bmS_F)), (kpM.mv e4).tr (kpM.mv w2), Or.inr w3⟩
        · rw [if_neg c9, x_blame, bV_some]
        · obtain ⟨F', p', g3, g4⟩ := w3
          rw [eN, bI_some, w1', bV_some]
          refine le_X12_takeInto_16 en _ _ _ _ ?_
          rw [m_goodD g4, bI_some, if_pos rfl]
          refine le_X12_takeInto_44 en _ _ _ _ ?_
          rw [m_goodD g4, bI_some, if_pos rfl]
          exact m61 _ F' p' g4
    · obtain ⟨F', p', g3, g4⟩ := id e5
      refine ⟨bmS s1 2, t1, preX _ ?_, preM _ ?_, f1.tr (stF.tk (tnF.bm bmS_F)) (Nat.le_refl m), f2, (kpX.tk (tnF.ad e3)).tr (kpX.tk (tnF.bm bmS_F)), kpM.mv e4, Or.inr (rdD_bm e5)⟩
      · rw [if_neg (dX_2 g3), x_blame, bV_some]
      · refine le_X12_takeInto en _ _ _ _ ?_
        rw [m_goodD g4, bI_some, if_pos rfl]
        refine le_X12_takeInto_16 en _ _ _ _ ?_
        rw [m_goodD g4, bI_some, if_pos rfl]
        refine le_X12_takeInto_44 en _ _ _ _ ?_
        rw [m_goodD g4, bI_some, if_pos rfl]
        refine le_X12_takeInto_61 en _ _ _ ?_
        rw [show d' + 6 = d' + 4 + 2 from rfl, m_nextD g4, bV_some]
  · rw [decide_eq_false (show ¬ tkK B n i = 300 + 21 from q), if_pos (show bt false = (0 : Int32) from rfl)] at pre71
    have e116 : qev en (d + 5) 116 [.ref 65, .int (321 : Int32)] s = some (some (.int 0), s) := by
      refine le_X6_skip en _ _ _ _ ?_
      rw [if_pos (by rw [c1, n_eq (by decide) (by omega)]; exact q)]
      refine le_X6_skip_16 en _ _ _ _ ?_
      rw [if_pos rfl, gd_true (Or.inl rfl)]
    refine ⟨s, t, ?_, pre71 _ rfl, stF.rf, smF.rf, kpX.rf, kpM.rf, Or.inl ⟨U, cl, i, hE, fun _ => Nat.le_refl _, Or.inl ⟨rfl, rfl⟩⟩⟩
    refine le_X6_readInto en _ _ _ _ ?_
    rw [e116, bI_some, if_neg (not_not_intro rfl)]
end INT
