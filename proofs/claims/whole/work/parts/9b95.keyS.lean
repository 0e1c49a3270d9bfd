/-! THE READER: statements that begin with a key word, on both sides: all but cas, add, if and while. -/
section KYS
variable {en : pN} {d d' k i i' n N j x y r m m' u F p nc nl nt D m0 f e0 : Nat} {V cl cl' th : Nat → Nat} {U U' : Nat → Nat → Nat} {s s' s'' s0 t t' t'' t0 : qS} {B : Nat → Nat} {v w dp : Int32}
/-- the class's statement behind its first word, the model's -/
noncomputable abbrev kwX (en : pN) (D N k : Nat) (dp : Int32) (s : qS) : Option qR := bV (qev en D 129 [.ref 65, .int (nI N), .int (nI k)] s) (fun s7 => L_X6_readStatement_47 en D (nI N) dp (nI k) s7)
noncomputable abbrev kwM (en : pN) (D N k : Nat) (t : qS) : Option qR := bV (qev en D 279 [.ref 151, .int (nI N), .int (nI k)] t) (fun s15 => bV (qev en D 252 [.ref 151, .int (59 : Int32)] s15) (fun s18 => some (none, s18)))
theorem stmR_cg {R R' X X' : Option qR} (h : stmR R X u B n s t V cl th nc nl nt m N) (hR : ∀ s', R = some (none, s') → R' = some (none, s')) (hX : ∀ t', X = some (none, t') → X' = some (none, t')) : stmR R' X' u B n s t V cl th nc nl nt m N := by
  obtain ⟨s', t', h1, h2, h3⟩ := h
  exact ⟨s', t', hR _ h1, hX _ h2, h3⟩
theorem m_175 (hk : 10 ≤ k ∧ k < 19) : ∀ r, L_X12_readRest_175 en D v (nI k) t = some r → qev en (D + 1) 279 [.ref 151, .int v, .int (nI k)] t = some r := by
  intro r hr
  refine le_X12_readRest en _ _ _ _ _ ?_
  rw [if_neg (by rw [n_eq (by decide) (by omega)]; omega), if_pos (by rw [n_eq (by decide) (by omega)]; omega), if_neg (by rw [n_gt (by decide) (by omega)]; omega), if_pos (by rw [n_lt (by decide) (by omega)]; omega)]
  exact hr
theorem m_312 (hk : k = 12 ∨ k = 13 ∨ k = 14 ∨ k = 17 ∨ k = 18) : ∀ r, L_X12_readRest_312 en D v (nI k) t = some r → L_X12_readRest_175 en D v (nI k) t = some r := by
  intro r hr
  refine le_X12_readRest_175 en _ _ _ _ _ ?_
  rw [if_neg (by rw [n_eq (by decide) (by omega)]; omega), if_pos (by rw [n_eq (by decide) (by omega)]; omega), if_pos (by rw [n_eq (by decide) (by omega)]; omega), if_pos (by rw [n_eq (by decide) (by omega)]; omega)]
  exact hr
theorem x_129o (hE : exS false 7 0 u B n s t V U cl nc nl nt i m) (hk : k = 12 ∨ k = 13 ∨ k = 14 ∨ k = 16 ∨ k = 17 ∨ k = 18) : qev en (d + 3) 129 [.ref 65, .int (nI N), .int (nI k)] s = some (none, s) := by
  refine x_86 hE (by omega) _ (le_X6_readObject_86 en _ _ _ _ _ ?_)
  rw [if_neg (by rw [n_eq (by decide) (by omega)]; omega), if_pos (by rw [n_eq (by decide) (by omega)]; omega), if_pos (by rw [n_eq (by decide) (by omega)]; omega)]
theorem m_280 (h7 : t.1 151 7 = 0) (h : qev en (d + 1) 276 [.ref 151, .int v] t = some (none, t')) : qev en (d + 2) 280 [.ref 151, .int v] t = some (none, t') := by
  refine le_X12_takeExpGood en _ _ _ _ ?_
  rw [m_goodL h7, bI_some, if_neg (by decide), h, bV_some]
theorem m_280D (h : mtD t F p) : qev en (d + 2) 280 [.ref 151, .int v] t = some (none, t) := by
  refine le_X12_takeExpGood en _ _ _ _ ?_
  rw [m_goodD h, bI_some, if_pos rfl]
/-- statements with no cell and no block -/
theorem key_al (hE : exS false 7 0 u B n s t V U cl nc nl nt i m) (hn : nwL s t N u k m0) (hth : th N = u) (hu : u < nt) (hB : ∀ j, j < n → B j < 256) (hN : N < 100) (hW : ∀ j, j < 7 → s.2.1 66 j = Int64.ofNat (CWN.getD j 0)) (hk : 5 ≤ k ∧ k ≤ 16) : stmR (kwX en (d + 140) N k dp s) (kwM en (d' + 13) N k t) u B n s t V cl th nc nl nt m N := by
  obtain ⟨⟨n1, n2⟩, n3, ⟨n4, n4'⟩, ⟨n5, n5'⟩, n6, ⟨n7, n8⟩, ⟨n9, n9'⟩, ⟨n10, n10', n10'', n10'''⟩, n11⟩ := id hn
  have h7 : s.2.2 65 7 = 8 := hE.2.2.2.1.1
  have hk19 : k < 19 := by omega
  have hk3 : k ≠ 3 ∧ k ≠ 4 ∧ k ≠ 17 ∧ k ≠ 18 := by omega
  by_cases k59 : k ≤ 9
  · -- locks
    obtain ⟨s1, t1, e1, e2, e3, e4, e5, e6, e7⟩ := obj59 (en := en) (d := d + 134) (d' := d' + 8) hE hB hN (k := k) ⟨hk.1, k59⟩
    have e1' : qev en (d + 140) 129 [.ref 65, .int (nI N), .int (nI k)] s = some (none, s1) := e1
    have e2' : qev en (d' + 13) 279 [.ref 151, .int (nI N), .int (nI k)] t = some (none, t1) := e2
    have hR : ∀ s', L_X6_readStatement_47 en (d + 140) (nI N) dp (nI k) s1 = some (none, s') → kwX en (d + 140) N k dp s = some (none, s') := fun s' h => by
      show bV _ _ = _
      rw [e1', bV_some]
      exact h
    rcases e7 with ⟨i1, l, g1, g2, g3, g4⟩ | e7
    · refine stmR_cg (stm_al (en := en) (dp := dp) (e0 := 0) (d' := d') (X := kwM en (d' + 13) N k t) hn hth hu hB hN hk19 hk3 (by omega) e3 e4 g1 ?_ ?_ ?_ ?_ ?_ (g4.trans g3.symm) (fun _ _ => by omega) (fun _ _ => ⟨l, g2, g3⟩) ?_ ?_ (fun _ => by omega) (fun _ => by omega) ?_) hR (fun _ h => h)
      · rw [e5.1 19 (by decide) (by decide) (by decide)]
      · rw [e5.1 22 (by decide) (by decide) (by decide)]
      · rw [e5.1 25 (by decide) (by decide) (by decide), e5.1 26 (by decide) (by decide) (by decide)]; exact ⟨rfl, rfl⟩
      · rw [e6.1 164 rfl (by decide)]
      · rw [e6.1 176 rfl (by decide), e6.1 177 rfl (by decide), e6.1 178 rfl (by decide), e6.1 179 rfl (by decide)]; exact ⟨rfl, rfl, rfl, rfl⟩
      · rw [e6.1 167 rfl (by decide), e5.1 21 (by decide) (by decide) (by decide), n5, n5']
      · rw [e5.1 21 (by decide) (by decide) (by decide)]; exact Or.inl ⟨n5, by omega⟩
      · intro b hb t2 t3 h1 h2
        rw [hxB_no (Or.inr ⟨hk.1, by omega⟩)] at hb
        subst hb
        rw [if_neg (by decide)] at h1
        subst h1
        show bV _ _ = _
        rw [e2', bV_some, h2, bV_some]
    · refine stmR_cg (stmD_al (en := en) (dp := dp) (k := k) (D := d + 140) (X := kwM en (d' + 13) N k t) (by omega) hN (by rw [e3.2.2.2.2.2.2.2.2.2]; exact h7) e7 (wkX.st e3) (wkM.sm e4) (fun F p h => ⟨t1, ?_, h, wkM.rf⟩)) hR (fun _ h => h)
      show bV _ _ = _
      rw [e2', bV_some, show d' + 13 = d' + 10 + 3 from rfl, endD_m h, bV_some]
  by_cases k1011 : k ≤ 11
  · obtain ⟨s1, t1, e1, e2, e3, e4, e5, e6, e6', e7⟩ := obj1011 (en := en) (d := d + 134) (d' := d' + 8) hE hB hN (k := k) (by omega)
    have e1' : qev en (d + 140) 129 [.ref 65, .int (nI N), .int (nI k)] s = some (none, s1) := e1
    have e2' : qev en (d' + 13) 279 [.ref 151, .int (nI N), .int (nI k)] t = some (none, t1) := e2
    have hR : ∀ s', L_X6_readStatement_47 en (d + 140) (nI N) dp (nI k) s1 = some (none, s') → kwX en (d + 140) N k dp s = some (none, s') := fun s' h => by
      show bV _ _ = _
      rw [e1', bV_some]
      exact h
    rcases e7 with ⟨i1, W, p1, g1, g2, g3, g4, g5, g6, g7⟩ | e7
    · refine stmR_cg (stm_al (en := en) (dp := dp) (e0 := 0) (d' := d') (X := kwM en (d' + 13) N k t) hn hth hu hB hN hk19 hk3 (by omega) e3 e4 g1 ?_ ?_ ?_ ?_ ?_ ?_ (fun _ _ => by omega) (fun _ _ => by omega) ?_ ?_ (fun _ => by omega) (fun _ => ⟨W, p1, g2, g3, g4, g5, g6, g7⟩) ?_) hR (fun _ h => h)
      · rw [e5 19 (by decide) (by decide)]
      · rw [e5 22 (by decide) (by decide)]
      · rw [e5 25 (by decide) (by decide), e5 26 (by decide) (by decide)]; exact ⟨rfl, rfl⟩
      · rw [e6 164 rfl (by decide)]
      · rw [e6 176 rfl (by decide), e6 177 rfl (by decide), e6 178 rfl (by decide), e6 179 rfl (by decide)]; exact ⟨rfl, rfl, rfl, rfl⟩
      · rw [e6 166 rfl (by decide), e5 20 (by decide) (by decide), n4, n4']
      · rw [e6 167 rfl (by decide), e5 21 (by decide) (by decide), n5, n5']
      · rw [e5 21 (by decide) (by decide)]; exact Or.inl ⟨n5, by omega⟩
      · intro b hb t2 t3 h1 h2
        rw [hxB_no (Or.inr ⟨hk.1, by omega⟩)] at hb
        subst hb
        rw [if_neg (by decide)] at h1
        subst h1
        show bV _ _ = _
        rw [e2', bV_some, h2, bV_some]
    · refine stmR_cg (stmD_al (en := en) (dp := dp) (k := k) (D := d + 140) (X := kwM en (d' + 13) N k t) (by omega) hN (by rw [e3.2.2.2.2.2.2.2.2.2]; exact h7) e7 (wkX.st e3) (wkM.sm e4) (fun F p h => ⟨t1, ?_, h, wkM.rf⟩)) hR (fun _ h => h)
      show bV _ _ = _
      rw [e2', bV_some, show d' + 13 = d' + 10 + 3 from rfl, endD_m h, bV_some]
  by_cases k15 : k = 15
  · subst k15
    obtain ⟨s1, t1, e1, e2, e3, e4, e5, e6, e6', e7⟩ := objCall (en := en) (d := d + 134) (d' := d' + 8) hE hB hN hW
    have e1' : qev en (d + 140) 129 [.ref 65, .int (nI N), .int (nI 15)] s = some (none, s1) := e1
    have hR : ∀ s', L_X6_readStatement_47 en (d + 140) (nI N) dp (nI 15) s1 = some (none, s') → kwX en (d + 140) N 15 dp s = some (none, s') := fun s' h => by
      show bV _ _ = _
      rw [e1', bV_some]
      exact h
    rcases e7 with ⟨i1, g1, g2⟩ | e7
    · have hi1 := (cL_at g1.1.1).1
      have c1 := (cL_at g1.1.1).2.1
      have hx1 := tkK_lt hi1
      have m3 := g1.1.2.2.2.2.2.2.1
      have m7 := g1.1.2.2.1
      obtain ⟨k1, -, -, k4⟩ := kdM_v hx1
      refine stmR_cg (stm_al (en := en) (dp := dp) (e0 := d' + 2) (d' := d') (X := kwM en (d' + 13) N 15 t) hn hth hu hB hN hk19 hk3 (by omega) e3 e4 g1 ?_ ?_ ?_ ?_ ?_ ?_ (fun _ _ => by omega) (fun _ _ => by omega) ?_ ?_ (fun _ => g2) (fun _ => by omega) ?_) hR (fun _ h => h)
      · rw [e5.1 19 (by decide) (by decide) (by decide)]
      · rw [e5.1 22 (by decide) (by decide) (by decide)]
      · rw [e5.1 25 (by decide) (by decide) (by decide), e5.1 26 (by decide) (by decide) (by decide)]; exact ⟨rfl, rfl⟩
      · rw [e6 164 rfl]
      · rw [e6 176 rfl, e6 177 rfl, e6 178 rfl, e6 179 rfl]; exact ⟨rfl, rfl, rfl, rfl⟩
      · rw [e6 166 rfl, e5.1 20 (by decide) (by decide) (by decide), n4, n4']
      · rw [e6 167 rfl, e5.1 21 (by decide) (by decide) (by decide), n5, n5']
      · rw [e5.1 21 (by decide) (by decide) (by decide)]; exact Or.inl ⟨n5, by omega⟩
      · intro b hb t2 t3 h1 h2
        have hb' : (!decide (s1.1 1 9 = 59)) = b := hb
        have e279 : qev en (d' + 13) 279 [.ref 151, .int (nI N), .int (nI 15)] t = some (none, t2) := by
          refine e2 _ ?_
          rw [m_goodL m7, bI_some, if_neg (by decide), m3]
          by_cases z : tkK B n i1 = 59
          · have : b = false := by rw [← hb', c1, z]; rfl
            subst this
            rw [if_neg (by decide)] at h1
            rw [if_pos (by rw [n_eq (by decide) (by omega)]; exact (k4 59 (by decide) (by decide)).mpr z), h1]
          · have : b = true := by
              rw [← hb', c1, decide_eq_false (by rw [n_eq (by decide) (by omega)]; exact z)]; rfl
            subst this
            rw [if_pos rfl] at h1
            have h1' : qev en (d' + 12) 276 [.ref 151, .int (nI N)] t1 = some (none, t2) := h1
            rw [if_neg (by rw [n_eq (by decide) (by omega)]; exact fun y => z ((k4 59 (by decide) (by decide)).mp y)), h1', bV_some]
        show bV _ _ = _
        rw [e279, bV_some, h2, bV_some]
    · refine stmR_cg (stmD_al (en := en) (dp := dp) (k := 15) (D := d + 140) (X := kwM en (d' + 13) N 15 t) (by omega) hN (by rw [e3.2.2.2.2.2.2.2.2.2]; exact h7) e7 (wkX.st e3) (wkM.sm e4) (fun F p h => ⟨t1, ?_, h, wkM.rf⟩)) hR (fun _ h => h)
      have e279 : qev en (d' + 13) 279 [.ref 151, .int (nI N), .int (nI 15)] t = some (none, t1) := e2 _ (by rw [m_goodD h, bI_some, if_pos rfl])
      show bV _ _ = _
      rw [e279, bV_some, show d' + 13 = d' + 10 + 3 from rfl, endD_m h, bV_some]
  · -- fence, halt, assert, reply
    have e1' : qev en (d + 140) 129 [.ref 65, .int (nI N), .int (nI k)] s = some (none, s) := x_129o (d := d + 137) hE (by omega)
    have hR : ∀ s', L_X6_readStatement_47 en (d + 140) (nI N) dp (nI k) s = some (none, s') → kwX en (d + 140) N k dp s = some (none, s') := fun s' h => by
      show bV _ _ = _
      rw [e1', bV_some]
      exact h
    have hi1 := (cL_at hE.1.1).1
    have c1 := (cL_at hE.1.1).2.1
    have hx1 := tkK_lt hi1
    have m3 := hE.1.2.2.2.2.2.2.1
    have m7 := hE.1.2.2.1
    obtain ⟨q1, -, -, q4⟩ := kdM_v hx1
    have m318 : ∀ t2, qev en (d' + 11) 276 [.ref 151, .int (nI N)] t = some (none, t2) → L_X12_readRest_318 en (d' + 12) (nI N) t = some (none, t2) := fun t2 h => by
      refine le_X12_readRest_318 en _ _ _ _ ?_
      rw [m_280 (d := d' + 10) m7 h, bV_some]
    refine stmR_cg (stm_al (en := en) (dp := dp) (e0 := d' + 1) (d' := d') (X := kwM en (d' + 13) N k t) hn hth hu hB hN hk19 hk3 (by omega) stF.rf smF.rf hE rfl rfl ⟨rfl, rfl⟩ rfl ⟨rfl, rfl, rfl, rfl⟩ (n4'.trans n4.symm) (fun _ _ => by omega) (fun _ _ => by omega) (n5'.trans n5.symm) (Or.inl ⟨n5, by omega⟩) (fun z => absurd z k15) (fun _ => by omega) ?_) hR (fun _ h => h)
    intro b hb t2 t3 h1 h2
    have e279 : qev en (d' + 13) 279 [.ref 151, .int (nI N), .int (nI k)] t = some (none, t2) := by
      refine m_175 (D := d' + 12) (by omega) _ ?_
      by_cases z14 : k = 14
      · rw [hxB_yes (by omega)] at hb
        subst hb
        rw [if_pos rfl] at h1
        refine m_312 (by omega) _ ?_
        refine le_X12_readRest_312 en _ _ _ _ _ ?_
        rw [if_neg (by rw [z14]; exact not_not_intro rfl)]
        exact m318 t2 h1
      by_cases z16 : k = 16
      · subst z16
        have hb' : (!decide (s.1 1 9 = 59)) = b := hb
        refine le_X12_readRest_175 en _ _ _ _ _ ?_
        rw [if_neg (by decide), if_pos (by decide), if_pos (by decide), if_neg (by decide), m_goodL m7, bI_some, if_neg (by decide), m3]
        by_cases z : tkK B n i = 59
        · have : b = false := by rw [← hb', c1, z]; rfl
          subst this
          rw [if_neg (by decide)] at h1
          rw [if_neg (by rw [n_eq (by decide) (by omega)]; exact not_not_intro ((q4 59 (by decide) (by decide)).mpr z)), h1]
          refine le_X12_readRest_312 en _ _ _ _ _ ?_
          rw [if_pos (by decide)]
        · have : b = true := by
            rw [← hb', c1, decide_eq_false (by rw [n_eq (by decide) (by omega)]; exact z)]; rfl
          subst this
          rw [if_pos rfl] at h1
          rw [if_pos (by rw [n_eq (by decide) (by omega)]; exact fun y => z ((q4 59 (by decide) (by decide)).mp y))]
          exact m318 t2 h1
      · rw [hxB_no (by omega)] at hb
        subst hb
        rw [if_neg (by decide)] at h1
        rw [h1]
        refine m_312 (by omega) _ ?_
        refine le_X12_readRest_312 en _ _ _ _ _ ?_
        rw [if_pos (by rw [n_eq (by decide) (by omega)]; exact z14)]
    show bV _ _ = _
    rw [e279, bV_some, h2, bV_some]
end KYS
