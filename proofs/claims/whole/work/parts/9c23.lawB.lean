/-! THE READER: a law on both sides: what it is. -/
/-- the model, behind the first token -/
noncomputable abbrev jCh (en : pN) (d : Nat) (s6 : qS) : Option qR := bI (qev en d 255 [.ref 151, .long (107118487239027 : Int64)] s6) (fun w8 s9 => if w8 = (0 : Int32) then bI (qev en d 255 [.ref 151, .long (474148660594 : Int64)] s9) (fun w12 s13 => if w12 = (0 : Int32) then bI (qev en d 255 [.ref 151, .long (7168377 : Int64)] s13) (fun w16 s17 => if w16 = (0 : Int32) then bI (qev en d 255 [.ref 151, .long (1836413812 : Int64)] s17) (fun w20 s21 => if w20 = (0 : Int32) then L_X12_judge_87 en d (5 : Int32) s21 else L_X12_judge_87 en d (4 : Int32) s21) else L_X12_judge_87 en d (3 : Int32) s17) else L_X12_judge_87 en d (2 : Int32) s13) else L_X12_judge_87 en d (1 : Int32) s9)
/-- the class, behind the beginning -/
noncomputable abbrev xCh (en : pN) (d : Nat) (s2 : qS) : Option qR := nm (uI s2 65 10 (s2.1 1 9)) (fun s4 => bI (qev en d 116 [.ref 65, .int (327 : Int32)] s4) (fun w5 s6 => gd (isB w5 = true) (nm (uI s6 65 9 w5) (fun s9 => if (s9.1 65 9) = (0 : Int32) then L_X6_readLaw_64 en d s9 else if ¬ (s9.1 1 9) = (325 : Int32) then L_X6_readLaw_61 en d (326 : Int32) s9 else L_X6_readLaw_61 en d (325 : Int32) s9))))
/-- the class's facts -/
noncomputable abbrev xF1 (en : pN) (d : Nat) (s : qS) : Option qR := bV (qev en d 142 [.ref 65, .int (0 : Int32)] s) (fun s7 => L_X6_readLaw_123 en d s7)
noncomputable abbrev xF2 (en : pN) (d : Nat) (s : qS) : Option qR := bV (qev en d 142 [.ref 65, .int (0 : Int32)] s) (fun s3 => bV (qev en d 115 [.ref 65, .int (326 : Int32)] s3) (fun s6 => bV (qev en d 142 [.ref 65, .int (1 : Int32)] s6) (fun s9 => L_X6_readLaw_123 en d s9)))
section LWB
variable {en : pN} {d d' k i n N j r v u m m' c nc nl nt q z D : Nat} {V cl th K : Nat → Nat} {U : Nat → Nat → Nat} {s s' s'' t t' t'' : qS} {B : Nat → Nat} {w v1 v2 v3 v4 : Int32} {F p : Nat} {fr : Bool}
/-! the model behind a fault -/
theorem m_255 {C : Int64} : ∃ b : Int32, qev en (d + 1) 255 [.ref 151, .long C] t = some (some (.int b), t) := by
  by_cases h3 : t.1 151 3 = 1
  · by_cases h : lg_cmp (t.2.1 151 5) C = 0
    · refine ⟨1, le_X12_isWord en _ _ _ _ ?_⟩
      rw [if_neg (not_not_intro h3), if_neg (not_not_intro h)]
    · refine ⟨0, le_X12_isWord en _ _ _ _ ?_⟩
      rw [if_neg (not_not_intro h3), if_pos h]
  · refine ⟨0, le_X12_isWord en _ _ _ _ ?_⟩
    rw [if_pos h3]
theorem mD_238 (h : mtD t F p) : ∀ r, L_X12_judge_262 en (d + 1) v1 v2 v3 v4 t = some r → L_X12_judge_238 en (d + 1) v1 v2 v3 v4 t = some r := fun r hr => by
  refine le_X12_judge_238 en _ _ _ _ _ _ _ ?_
  rw [m_goodD h, bI_some, if_pos rfl]
  exact hr
theorem mD_149 (h : mtD t F p) : ∃ v3 v4 : Int32, ∀ r, L_X12_judge_262 en (d + 2) v1 v2 v3 v4 t = some r → L_X12_judge_149 en (d + 2) v1 v2 t = some r := by
  refine ⟨t.1 151 25, t.1 151 25, fun r hr => le_X12_judge_149 en _ _ _ _ _ ?_⟩
  rw [m_goodD h, bI_some, if_pos rfl]
  refine le_X12_judge_167 en _ _ _ _ _ _ ?_
  by_cases q : v1 = 5
  · rw [if_neg (not_not_intro q), m_goodD h, bI_some, if_pos rfl]
    refine le_X12_judge_198 en _ _ _ _ _ _ _ ?_
    rw [m_nextD h, bV_some, m_goodD h, bI_some, if_pos rfl]
    refine le_X12_judge_220 en _ _ _ _ _ _ _ _ ?_
    rw [m_goodD h, bI_some, if_pos rfl]
    exact mD_238 (d := d + 1) h r hr
  · rw [if_pos q]
    exact mD_238 (d := d + 1) h r hr
theorem mD_122 (h : mtD t F p) : ∃ v3 v4 : Int32, ∀ r, L_X12_judge_262 en (d + 2) v1 v2 v3 v4 t = some r → L_X12_judge_122 en (d + 2) v1 v2 t = some r := by
  obtain ⟨v3, v4, g⟩ := mD_149 (en := en) (d := d) (v1 := v1) (v2 := v2) h
  refine ⟨v3, v4, fun r hr => le_X12_judge_122 en _ _ _ _ _ ?_⟩
  by_cases q : v2 = 0
  · rw [if_pos q]; exact g r hr
  · rw [if_neg q, m_goodD h, bI_some, if_pos rfl]; exact g r hr
theorem mD_108 (h : mtD t F p) : ∃ v3 v4 : Int32, ∀ r, L_X12_judge_262 en (d + 2) v1 v2 v3 v4 t = some r → L_X12_judge_108 en (d + 2) v1 v2 t = some r := by
  obtain ⟨v3, v4, g⟩ := mD_122 (en := en) (d := d) (v1 := v1) (v2 := v2) h
  have g118 : ∀ r, L_X12_judge_262 en (d + 2) v1 v2 v3 v4 t = some r → L_X12_judge_118 en (d + 2) v1 v2 t = some r := fun r hr => by
    refine le_X12_judge_118 en _ _ _ _ _ ?_
    rw [m_nextD h, bV_some]
    exact g r hr
  refine ⟨v3, v4, fun r hr => le_X12_judge_108 en _ _ _ _ _ ?_⟩
  by_cases q : v1 < 5
  · rw [if_pos q]; exact g118 r hr
  · rw [if_neg q]
    by_cases q2 : v2 = 0
    · rw [if_pos q2]; exact g r hr
    · rw [if_neg q2]; exact g118 r hr
theorem mD_87 (h : mtD t F p) : ∃ v1 v2 v3 v4 : Int32, ∀ r, L_X12_judge_262 en (d + 2) v1 v2 v3 v4 t = some r → L_X12_judge_87 en (d + 2) w t = some r := by
  obtain ⟨a3, a4, ga⟩ := mD_108 (en := en) (d := d) (v1 := w) (v2 := 0) h
  obtain ⟨b3, b4, gb⟩ := mD_108 (en := en) (d := d) (v1 := w) (v2 := 1) h
  obtain ⟨b, hb⟩ := m_255 (en := en) (d := d + 1) (t := t) (C := (1717660018 : Int64))
  by_cases q : w = 5
  · by_cases q2 : b = 0
    · refine ⟨w, 0, a3, a4, fun r hr => le_X12_judge_87 en _ _ _ _ ?_⟩
      rw [if_neg (not_not_intro q), hb, bI_some, if_pos q2]
      exact ga r hr
    · refine ⟨w, 1, b3, b4, fun r hr => le_X12_judge_87 en _ _ _ _ ?_⟩
      rw [if_neg (not_not_intro q), hb, bI_some, if_neg q2]
      exact gb r hr
  · refine ⟨w, 0, a3, a4, fun r hr => le_X12_judge_87 en _ _ _ _ ?_⟩
    rw [if_pos q]
    exact ga r hr
theorem mD_jCh (h : mtD t F p) : ∃ v1 v2 v3 v4 : Int32, ∀ r, L_X12_judge_262 en (d + 2) v1 v2 v3 v4 t = some r → jCh en (d + 2) t = some r := by
  obtain ⟨b1, h1⟩ := m_255 (en := en) (d := d + 1) (t := t) (C := (107118487239027 : Int64))
  obtain ⟨b2, h2⟩ := m_255 (en := en) (d := d + 1) (t := t) (C := (474148660594 : Int64))
  obtain ⟨b3, h3⟩ := m_255 (en := en) (d := d + 1) (t := t) (C := (7168377 : Int64))
  obtain ⟨b4, h4⟩ := m_255 (en := en) (d := d + 1) (t := t) (C := (1836413812 : Int64))
  have key : ∀ w : Int32, (∀ r, L_X12_judge_87 en (d + 2) w t = some r → jCh en (d + 2) t = some r) → ∃ v1 v2 v3 v4 : Int32, ∀ r, L_X12_judge_262 en (d + 2) v1 v2 v3 v4 t = some r → jCh en (d + 2) t = some r := fun w hw => by
    obtain ⟨v1, v2, v3, v4, g⟩ := mD_87 (en := en) (d := d) (w := w) h
    exact ⟨v1, v2, v3, v4, fun r hr => hw r (g r hr)⟩
  by_cases q1 : b1 = 0
  · by_cases q2 : b2 = 0
    · by_cases q3 : b3 = 0
      · by_cases q4 : b4 = 0
        · refine key 5 (fun r hr => ?_)
          show bI _ _ = _
          rw [h1, bI_some, if_pos q1, h2, bI_some, if_pos q2, h3, bI_some, if_pos q3, h4, bI_some, if_pos q4]
          exact hr
        · refine key 4 (fun r hr => ?_)
          show bI _ _ = _
          rw [h1, bI_some, if_pos q1, h2, bI_some, if_pos q2, h3, bI_some, if_pos q3, h4, bI_some, if_neg q4]
          exact hr
      · refine key 3 (fun r hr => ?_)
        show bI _ _ = _
        rw [h1, bI_some, if_pos q1, h2, bI_some, if_pos q2, h3, bI_some, if_neg q3]
        exact hr
    · refine key 2 (fun r hr => ?_)
      show bI _ _ = _
      rw [h1, bI_some, if_pos q1, h2, bI_some, if_neg q2]
      exact hr
  · refine key 1 (fun r hr => ?_)
    show bI _ _ = _
    rw [h1, bI_some, if_neg q1]
    exact hr
/-! the class behind a fault -/
theorem xD_L123 (h : dX s F p) : ∃ s', L_X6_readLaw_123 en (d + 1) s = some (none, s') ∧ bmF s s' ∧ s'.1 65 11 = nI F ∧ s'.1 65 12 = nI p ∧ F ≠ 0 ∧ F < 16 := by
  rcases id h with ⟨a1, a2, a3, a4, a5⟩ | ⟨a1, a2, a3, a4⟩
  · refine ⟨s, le_X6_readLaw_123 en _ _ _ ?_, bmF.rf, a2, a3, a4, a5⟩
    rw [if_pos a1]
  · have h2 : dX (bmS s 2) F p := bmS_dead h
    have h0 : (bmS s 2).1 1 9 = 0 := bmS_0
    rcases h2 with ⟨b1, b2, b3, b4, b5⟩ | ⟨b1, _⟩
    · refine ⟨bmS s 2, le_X6_readLaw_123 en _ _ _ ?_, bmS_F, b2, b3, b4, b5⟩
      rw [if_neg (by rw [a1]; decide), x_blame, bV_some]
    · rw [h0] at b1; exact absurd b1 (by decide)
theorem xD_F1 (h : dX s F p) (h7 : s.2.2 65 7 = 62) : ∃ s', xF1 en (d + 13) s = some (none, s') ∧ lwX s s' ∧ s'.1 65 11 = nI F ∧ s'.1 65 12 = nI p ∧ F ≠ 0 ∧ F < 16 := by
  obtain ⟨s1, e1, e2, e3, -⟩ := xD_142 (en := en) (d := d) (z := 0) h h7 (by decide)
  obtain ⟨s2, f1, f2, f3⟩ := xD_L123 (en := en) (d := d + 12) e2
  refine ⟨s2, ?_, e3.tr (lwX.bm f2), f3⟩
  show bV (qev en (d + 13) 142 [.ref 65, .int (0 : Int32)] s) _ = _
  rw [show qev en (d + 13) 142 [.ref 65, .int (0 : Int32)] s = _ from e1, bV_some]
  exact f1
theorem xD_F2b (h : dX s F p) (h7 : s.2.2 65 7 = 62) : ∃ s', bV (qev en (d + 13) 142 [.ref 65, .int (1 : Int32)] s) (fun s9 => L_X6_readLaw_123 en (d + 13) s9) = some (none, s') ∧ lwX s s' ∧ s'.1 65 11 = nI F ∧ s'.1 65 12 = nI p ∧ F ≠ 0 ∧ F < 16 := by
  obtain ⟨s1, e1, e2, e3, -⟩ := xD_142 (en := en) (d := d) (z := 1) h h7 (by decide)
  obtain ⟨s2, f1, f2, f3⟩ := xD_L123 (en := en) (d := d + 12) e2
  refine ⟨s2, ?_, e3.tr (lwX.bm f2), f3⟩
  rw [show qev en (d + 13) 142 [.ref 65, .int (1 : Int32)] s = _ from e1, bV_some]
  exact f1
theorem xD_F2a (h : dX s F p) (h7 : s.2.2 65 7 = 62) : ∃ s', bV (qev en (d + 13) 115 [.ref 65, .int (326 : Int32)] s) (fun s6 => bV (qev en (d + 13) 142 [.ref 65, .int (1 : Int32)] s6) (fun s9 => L_X6_readLaw_123 en (d + 13) s9)) = some (none, s') ∧ lwX s s' ∧ s'.1 65 11 = nI F ∧ s'.1 65 12 = nI p ∧ F ≠ 0 ∧ F < 16 := by
  obtain ⟨s2, f1, f2, f3⟩ := xD_F2b (en := en) (d := d) (bmS_dead (k := 2) h) (by rw [bmS_F.2.2.2]; exact h7)
  refine ⟨s2, ?_, (lwX.bm bmS_F).tr f2, f3⟩
  rw [show qev en (d + 13) 115 [.ref 65, .int (326 : Int32)] s = _ from x_deadNeed (d := d + 11) (m := 326) h ⟨by decide, by decide⟩, bV_some]
  exact f1
theorem xD_F2 (h : dX s F p) (h7 : s.2.2 65 7 = 62) : ∃ s', xF2 en (d + 13) s = some (none, s') ∧ lwX s s' ∧ s'.1 65 11 = nI F ∧ s'.1 65 12 = nI p ∧ F ≠ 0 ∧ F < 16 := by
  obtain ⟨s1, e1, e2, e3, e4, -⟩ := xD_142 (en := en) (d := d) (z := 0) h h7 (by decide)
  obtain ⟨s2, f1, f2, f3⟩ := xD_F2a (en := en) (d := d) e2 e4
  refine ⟨s2, ?_, e3.tr f2, f3⟩
  show bV (qev en (d + 13) 142 [.ref 65, .int (0 : Int32)] s) _ = _
  rw [show qev en (d + 13) 142 [.ref 65, .int (0 : Int32)] s = _ from e1, bV_some]
  exact f1
end LWB
