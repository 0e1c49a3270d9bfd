/-! THE READER: a law on both sides: its first words. -/
section LWC
variable {en : pN} {d d' k i n N j r v u m m' c nc nl nt q z D : Nat} {V cl th K : Nat → Nat} {U : Nat → Nat → Nat} {s s' s'' t t' t'' : qS} {B : Nat → Nat} {w v1 v2 v3 v4 : Int32} {F p : Nat} {fr : Bool}
/-- the kind of law that a token begins -/
def lkK (x : Nat) : Nat := if x = 322 then 1 else if x = 323 then 2 else if x = 324 then 3 else if x = 325 then 4 else 5
theorem m_kind (hB : ∀ j, j < n → B j < 256) (hm : mtL t B n i) : ∀ r, L_X12_judge_87 en (d + 1) (nI (lkK (tkK B n i))) t = some r → jCh en (d + 1) t = some r := fun r hr => by
  have a1 := m_isKeyW (en := en) (d := d) (j := 22) (C := 107118487239027) hB hm (by decide) (by decide +kernel)
  have a2 := m_isKeyW (en := en) (d := d) (j := 23) (C := 474148660594) hB hm (by decide) (by decide +kernel)
  have a3 := m_isKeyW (en := en) (d := d) (j := 24) (C := 7168377) hB hm (by decide) (by decide +kernel)
  have a4 := m_isKeyW (en := en) (d := d) (j := 25) (C := 1836413812) hB hm (by decide) (by decide +kernel)
  show bI _ _ = _
  unfold lkK at hr
  by_cases q1 : tkK B n i = 322
  · rw [if_pos q1] at hr
    rw [a1, bI_some, if_neg (by rw [decide_eq_true q1]; decide)]
    exact hr
  rw [if_neg q1] at hr
  rw [a1, bI_some, if_pos (by rw [decide_eq_false q1]; rfl)]
  by_cases q2 : tkK B n i = 323
  · rw [if_pos q2] at hr
    rw [a2, bI_some, if_neg (by rw [decide_eq_true q2]; decide)]
    exact hr
  rw [if_neg q2] at hr
  rw [a2, bI_some, if_pos (by rw [decide_eq_false q2]; rfl)]
  by_cases q3 : tkK B n i = 324
  · rw [if_pos q3] at hr
    rw [a3, bI_some, if_neg (by rw [decide_eq_true q3]; decide)]
    exact hr
  rw [if_neg q3] at hr
  rw [a3, bI_some, if_pos (by rw [decide_eq_false q3]; rfl)]
  by_cases q4 : tkK B n i = 325
  · rw [if_pos q4] at hr
    rw [a4, bI_some, if_neg (by rw [decide_eq_true q4]; decide)]
    exact hr
  rw [if_neg q4] at hr
  rw [a4, bI_some, if_pos (by rw [decide_eq_false q4]; rfl)]
  exact hr
/-- the first words of a law -/
theorem head_al2 (hS : lwS B n s t V U cl nc nl nt i 0) (hB : ∀ j, j < n → B j < 256) : ∃ (k : Nat) (fr : Bool) (s2 t2 : qS), (1 ≤ k ∧ k ≤ 5) ∧ (k ≠ 5 → ∀ r, xF1 en (d + 131) s2 = some r → xCh en (d + 131) s = some r) ∧ (k = 5 → ∀ r, xF2 en (d + 131) s2 = some r → xCh en (d + 131) s = some r) ∧ (∀ r, L_X12_judge_149 en (d' + 11) (nI k) (bt fr) t2 = some r → jCh en (d' + 11) t = some r) ∧ lwX s s2 ∧ lwM t t2 ∧ (s2.1 65 9 = bt fr ∧ s2.1 65 10 = nI (321 + k)) ∧ s2.2.2 65 7 = 62 ∧ ((∃ i', lwS B n s2 t2 V U cl nc nl nt i' 0) ∨ rdD s2 t2) := by
  obtain ⟨hc, hm⟩ := id hS.1
  obtain ⟨hi, c1, c2, c3⟩ := cL_at hc
  have hx := tkK_lt (B := B) hi
  have hA : lwS B n (uI s 65 10 (s.1 1 9)) t V U cl nc nl nt i 0 := lwS_f hS (Or.inr rfl)
  have wA : lwX s (uI s 65 10 (s.1 1 9)) := lwX.uf (by decide)
  obtain ⟨sk0, sk1⟩ := x_116 (en := en) (k := 327) hA.1.1 ⟨by decide, by decide⟩
  have mk := m_kind (en := en) (d := d' + 10) hB hm
  have a27 := m_isKeyW (en := en) (d := d' + 10) (j := 27) (C := 1717660018) hB hm (by decide) (by decide +kernel)
  by_cases q : tkK B n i = 327
  · -- fair
    obtain ⟨s1, t1, e1, e2, e3, e4, e5⟩ := adv_al (en := en) (d := d + 129) (d' := d' + 8) hA.1 (by omega)
    have wX1 : lwX s (uI s1 65 9 1) := (wA.tr (lwX.tk (tnF.ad e3))).tr (lwX.uf (by decide))
    have wM1 : lwM t t1 := lwM.mv e4
    have r7 : s1.2.2 65 7 = 62 := by rw [e3.2.2.2]; exact hS.2.2.2.1.1
    have hlk : lkK (tkK B n i) = 5 := by rw [q]; rfl
    rw [hlk] at mk
    have pX : ∀ r, (if ¬ (s1.1 1 9) = (325 : Int32) then L_X6_readLaw_61 en (d + 131) (326 : Int32) (uI s1 65 9 1) else L_X6_readLaw_61 en (d + 131) (325 : Int32) (uI s1 65 9 1)) = some r → xCh en (d + 131) s = some r := fun r hr => by
      show nm _ _ = _
      have g9 : (uI s1 65 9 1).1 65 9 = 1 := rdW
      have g19 : (uI s1 65 9 1).1 1 9 = s1.1 1 9 := by rw [uI_ne (by decide)]
      rw [nm_eq, show qev en (d + 131) 116 [.ref 65, .int (327 : Int32)] (uI s 65 10 (s.1 1 9)) = _ from sk1 q (d + 130) s1 e1, bI_some, gd_true (by decide), nm_eq, g9, if_neg (by decide), g19]
      exact hr
    have pM : ∀ r, L_X12_judge_122 en (d' + 11) (nI 5) (bt true) t1 = some r → jCh en (d' + 11) t = some r := fun r hr => mk r (by
      refine le_X12_judge_87 en _ _ _ _ ?_
      rw [if_neg (show ¬ ¬ nI 5 = (5 : Int32) from not_not_intro rfl), a27, bI_some, if_neg (by rw [decide_eq_true q]; decide)]
      refine le_X12_judge_108 en _ _ _ _ _ ?_
      rw [if_neg (by decide), if_neg (by decide)]
      refine le_X12_judge_118 en _ _ _ _ _ ?_
      rw [show qev en (d' + 11) 249 [.ref 151] t = _ from e2, bV_some]
      exact hr)
    -- leads, fair
    have leads : ∀ r, xF2 en (d + 131) (uI (uI (uI s1 65 9 1) 65 10 326) 65 10 326) = some r → L_X6_readLaw_61 en (d + 131) (326 : Int32) (uI s1 65 9 1) = some r := fun r hr => by
      refine le_X6_readLaw_61 en _ _ _ _ ?_
      rw [nm_eq]
      refine le_X6_readLaw_64 en _ _ _ ?_
      have g10 : (uI (uI s1 65 9 1) 65 10 326).1 65 10 = 326 := rdW
      rw [g10, if_neg (by decide), if_pos (by decide)]
      refine le_X6_readLaw_99 en _ _ _ ?_
      rw [nm_eq]
      exact hr
    have wX2 : lwX s (uI (uI (uI s1 65 9 1) 65 10 326) 65 10 326) := (wX1.tr (lwX.uf (by decide))).tr (lwX.uf (by decide))
    have f9 : (uI (uI (uI s1 65 9 1) 65 10 326) 65 10 326).1 65 9 = bt true := by rw [rdU, if_neg (by decide), rdU, if_neg (by decide), rdW]; rfl
    have f10 : (uI (uI (uI s1 65 9 1) 65 10 326) 65 10 326).1 65 10 = nI (321 + 5) := rdW
    rcases e5 with e5 | e5
    · obtain ⟨hc1, hm1⟩ := id e5
      obtain ⟨hi1, d1, -, -⟩ := cL_at hc1
      have hx1 := tkK_lt (B := B) hi1
      have hS1 := lwS_tk hA (tnF.ad e3) e4 e5
      have hS2 : lwS B n (uI s1 65 9 1) t1 V U cl nc nl nt (i + 1) 0 := lwS_f hS1 (Or.inl rfl)
      have a25 := m_isKeyW (en := en) (d := d' + 10) (j := 25) (C := 1836413812) hB hm1 (by decide) (by decide +kernel)
      have p122 : ∀ r, (if bt (decide (tkK B n (i + 1) = 325)) = (0 : Int32) then L_X12_judge_149 en (d' + 11) (nI 5) (bt true) t1 else bV (qev en (d' + 11) 249 [.ref 151] t1) (fun s11 => L_X12_judge_149 en (d' + 11) (4 : Int32) (bt true) s11)) = some r → jCh en (d' + 11) t = some r := fun r hr => pM r (by
        refine le_X12_judge_122 en _ _ _ _ _ ?_
        rw [if_neg (by decide), m_goodL hm1.2.1, bI_some, if_neg (by decide), show qev en (d' + 11) 255 [.ref 151, .long (1836413812 : Int64)] t1 = _ from a25, bI_some]
        exact hr)
      by_cases q5 : tkK B n (i + 1) = 325
      · have hS3 : lwS B n (uI (uI s1 65 9 1) 65 10 325) t1 V U cl nc nl nt (i + 1) 0 := lwS_f hS2 (Or.inr rfl)
        obtain ⟨s4, t4, b1, b2, b3, b4, b5⟩ := adv_al (en := en) (d := d + 130) (d' := d' + 8) hS3.1 (by omega)
        have r74 : s4.2.2 65 7 = 62 := by rw [b3.2.2.2]; exact r7
        refine ⟨4, true, s4, t4, ⟨by decide, by decide⟩, fun _ r hr => pX r ?_, fun z => absurd z (by decide), fun r hr => p122 r ?_, (wX1.tr (lwX.uf (by decide))).tr (lwX.tk (tnF.ad b3)), wM1.tr (lwM.mv b4), ⟨?_, ?_⟩, r74, ?_⟩
        · rw [d1, if_neg (by rw [q5]; exact not_not_intro rfl)]
          refine le_X6_readLaw_61 en _ _ _ _ ?_
          rw [nm_eq]
          refine le_X6_readLaw_64 en _ _ _ ?_
          have g10 : (uI (uI s1 65 9 1) 65 10 325).1 65 10 = 325 := rdW
          rw [g10, if_neg (by decide), if_neg (by decide), show qev en (d + 131) 167 [.ref 1] (uI (uI s1 65 9 1) 65 10 325) = _ from b1, bV_some]
          exact hr
        · rw [if_neg (by rw [decide_eq_true q5]; decide), show qev en (d' + 11) 249 [.ref 151] t1 = _ from b2, bV_some]
          exact hr
        · rw [b3.1 65 (by decide), rdU, if_neg (by decide), rdW]; rfl
        · rw [b3.1 65 (by decide), rdW]; rfl
        · rcases b5 with b5 | b5
          · exact Or.inl ⟨i + 1 + 1, lwS_tk hS3 (tnF.ad b3) b4 b5⟩
          · exact Or.inr b5
      · refine ⟨5, true, _, t1, ⟨by decide, by decide⟩, fun z => absurd rfl z, fun _ r hr => pX r ?_, fun r hr => p122 r ?_, wX2, wM1, ⟨f9, f10⟩, r7, Or.inl ⟨i + 1, lwS_f (lwS_f hS2 (Or.inr rfl)) (Or.inr rfl)⟩⟩
        · rw [d1, if_pos (by rw [n_eq (by decide) (by omega)]; exact q5)]
          exact leads r hr
        · rw [if_pos (by rw [decide_eq_false q5]; rfl)]
          exact hr
    · obtain ⟨F, p, z1, z2⟩ := id e5
      have k325 : ¬ s1.1 1 9 = (325 : Int32) := dX_ne (m := 325) z1 ⟨by decide, by decide⟩
      have e5' : rdD (uI (uI (uI s1 65 9 1) 65 10 326) 65 10 326) t1 := ⟨F, p, dX_fr z1 (by rw [uI_ne (by decide), uI_ne (by decide), uI_ne (by decide)]) (by rw [uI_ne (by decide), uI_ne (by decide), uI_ne (by decide)]) (by rw [rdU, if_neg (by decide), rdU, if_neg (by decide), rdU, if_neg (by decide)]) (by rw [rdU, if_neg (by decide), rdU, if_neg (by decide), rdU, if_neg (by decide)]), z2⟩
      refine ⟨5, true, _, t1, ⟨by decide, by decide⟩, fun z => absurd rfl z, fun _ r hr => pX r ?_, fun r hr => pM r ?_, wX2, wM1, ⟨f9, f10⟩, r7, Or.inr e5'⟩
      · rw [if_pos k325]
        exact leads r hr
      · refine le_X12_judge_122 en _ _ _ _ _ ?_
        rw [if_neg (by decide), m_goodD z2, bI_some, if_pos rfl]
        exact hr
  · -- not fair
    have hB9 : lwS B n (uI (uI s 65 10 (s.1 1 9)) 65 9 0) t V U cl nc nl nt i 0 := lwS_f hA (Or.inl rfl)
    have wB : lwX s (uI (uI s 65 10 (s.1 1 9)) 65 9 0) := wA.tr (lwX.uf (by decide))
    have pX : ∀ r, L_X6_readLaw_64 en (d + 131) (uI (uI s 65 10 (s.1 1 9)) 65 9 0) = some r → xCh en (d + 131) s = some r := fun r hr => by
      show nm _ _ = _
      have g9 : (uI (uI s 65 10 (s.1 1 9)) 65 9 0).1 65 9 = 0 := rdW
      rw [nm_eq, show qev en (d + 131) 116 [.ref 65, .int (327 : Int32)] (uI s 65 10 (s.1 1 9)) = _ from sk0 q (d + 130), bI_some, gd_true (by decide), nm_eq, g9, if_pos rfl]
      exact hr
    have g10 : (uI (uI s 65 10 (s.1 1 9)) 65 9 0).1 65 10 = nI (tkK B n i) := by rw [rdU, if_neg (by decide), rdW]; exact c1
    by_cases qk : 322 ≤ tkK B n i ∧ tkK B n i ≤ 325
    · obtain ⟨s4, t4, b1, b2, b3, b4, b5⟩ := adv_al (en := en) (d := d + 130) (d' := d' + 8) hB9.1 (by omega)
      have hlk : lkK (tkK B n i) = tkK B n i - 321 := by
        have : tkK B n i = 322 ∨ tkK B n i = 323 ∨ tkK B n i = 324 ∨ tkK B n i = 325 := by omega
        rcases this with z | z | z | z <;> (rw [z]; rfl)
      have hk5 : tkK B n i - 321 < 5 := by omega
      refine ⟨tkK B n i - 321, false, s4, t4, ⟨by omega, by omega⟩, fun _ r hr => pX r ?_, fun z => absurd z (by omega), fun r hr => mk r ?_, wB.tr (lwX.tk (tnF.ad b3)), lwM.mv b4, ⟨?_, ?_⟩, ?_, ?_⟩
      · refine le_X6_readLaw_64 en _ _ _ ?_
        rw [g10, if_neg (by rw [n_gt (by decide) (by omega)]; omega), if_neg (by rw [n_lt (by decide) (by omega)]; omega), show qev en (d + 131) 167 [.ref 1] (uI (uI s 65 10 (s.1 1 9)) 65 9 0) = _ from b1, bV_some]
        exact hr
      · rw [hlk]
        have n5 : ¬ nI (tkK B n i - 321) = (5 : Int32) := by rw [n_eq (by decide) (by omega)]; omega
        refine le_X12_judge_87 en _ _ _ _ ?_
        rw [if_pos n5]
        refine le_X12_judge_108 en _ _ _ _ _ ?_
        rw [if_pos (by rw [n_gt (by decide) (by omega)]; exact hk5)]
        refine le_X12_judge_118 en _ _ _ _ _ ?_
        rw [show qev en (d' + 11) 249 [.ref 151] t = _ from b2, bV_some]
        refine le_X12_judge_122 en _ _ _ _ _ ?_
        rw [if_pos rfl]
        exact hr
      · rw [b3.1 65 (by decide), rdW]; rfl
      · rw [b3.1 65 (by decide), g10, show 321 + (tkK B n i - 321) = tkK B n i by omega]
      · rw [b3.2.2.2]; exact hS.2.2.2.1.1
      · rcases b5 with b5 | b5
        · exact Or.inl ⟨i + 1, lwS_tk hB9 (tnF.ad b3) b4 b5⟩
        · exact Or.inr b5
    · have hlk : lkK (tkK B n i) = 5 := by
        unfold lkK
        rw [if_neg (by omega), if_neg (by omega), if_neg (by omega), if_neg (by omega)]
      rw [hlk] at mk
      refine ⟨5, false, uI (uI (uI s 65 10 (s.1 1 9)) 65 9 0) 65 10 326, t, ⟨by decide, by decide⟩, fun z => absurd rfl z, fun _ r hr => pX r ?_, fun r hr => mk r ?_, wB.tr (lwX.uf (by decide)), lwM.rf, ⟨?_, rdW⟩, hS.2.2.2.1.1, Or.inl ⟨i, lwS_f hB9 (Or.inr rfl)⟩⟩
      · have g99 : L_X6_readLaw_99 en (d + 131) (uI (uI s 65 10 (s.1 1 9)) 65 9 0) = some r := by
          refine le_X6_readLaw_99 en _ _ _ ?_
          rw [nm_eq]
          exact hr
        refine le_X6_readLaw_64 en _ _ _ ?_
        rw [g10]
        by_cases q1 : tkK B n i < 322
        · rw [if_pos (by rw [n_gt (by decide) (by omega)]; exact q1)]
          exact g99
        · rw [if_neg (by rw [n_gt (by decide) (by omega)]; exact q1), if_pos (by rw [n_lt (by decide) (by omega)]; omega)]
          exact g99
      · refine le_X12_judge_87 en _ _ _ _ ?_
        rw [if_neg (show ¬ ¬ nI 5 = (5 : Int32) from not_not_intro rfl), a27, bI_some, if_pos (by rw [decide_eq_false q]; rfl)]
        refine le_X12_judge_108 en _ _ _ _ _ ?_
        rw [if_neg (by decide), if_pos rfl]
        refine le_X12_judge_122 en _ _ _ _ _ ?_
        rw [if_pos rfl]
        exact hr
      · rw [rdU, if_neg (by decide), rdW]; rfl
end LWC
