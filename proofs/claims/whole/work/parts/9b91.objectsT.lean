/-! THE READER: threads, calls, locals, expressions of statements on both sides. -/
section OBT
variable {en : pN} {d d' k i i' n N j x y r m u F p nc nl nt D : Nat} {V cl : Nat → Nat} {U : Nat → Nat → Nat} {s s' s'' t t' t'' : qS} {B : Nat → Nat} {v w : Int32}
theorem x_86 (hE : exS false 7 0 u B n s t V U cl nc nl nt i m) (hk : 10 ≤ k ∧ k < 19) : ∀ r, L_X6_readObject_86 en (d + 2) (nI N) (nI k) s = some r → qev en (d + 3) 129 [.ref 65, .int (nI N), .int (nI k)] s = some r := by
  intro r hr
  have g29 : ∀ w, L_X6_readObject_29 en (d + 2) (nI N) (nI k) w s = some r := fun w => by
    refine le_X6_readObject_29 en _ _ _ _ _ _ ?_
    rw [if_neg (by rw [n_eq (by decide) (by omega)]; omega), if_pos (by rw [n_eq (by decide) (by omega)]; omega), if_neg (by rw [n_gt (by decide) (by omega)]; omega), if_pos (by rw [n_lt (by decide) (by omega)]; omega)]
    exact hr
  by_cases q : tkK B n i = 2
  · exact x_129 (d := d + 1) (wx := fnd (s.2.1 12) (s.2.1 1 11) 16 0) hE (fun _ => c_named (r := 11) rfl) (fun z => absurd q z) r (g29 _)
  · exact x_129 (d := d + 1) (wx := -1) hE (fun z => absurd z q) (fun _ => rfl) r (g29 _)
/-- the thread that is started or joined -/
theorem obj1011 (hE : exS false 7 0 u B n s t V U cl nc nl nt i m) (hB : ∀ j, j < n → B j < 256) (hN : N < 100) (hk : k = 10 ∨ k = 11) : ∃ s' t', qev en (d + 6) 129 [.ref 65, .int (nI N), .int (nI k)] s = some (none, s') ∧ qev en (d' + 5) 279 [.ref 151, .int (nI N), .int (nI k)] t = some (none, t') ∧ stF N m s s' ∧ smF N m t t' ∧ (∀ a, 18 ≤ a → a ≤ 27 → s'.1 a = s.1 a) ∧ (∀ a, smW a = true → a ≠ 183 → t'.1 a = t.1 a) ∧ t'.2.1 180 = t.2.1 180 ∧ ((∃ i' W p : Nat, exS false 7 0 u B n s' t' V U cl nc nl nt i' m ∧ (W < 128 ^ 8 ∧ W ≠ 0) ∧ s'.2.1 67 N = Int64.ofNat W ∧ t'.2.1 182 N = Int64.ofNat (w8 8 W) ∧ p ≤ 4000 ∧ s'.1 68 N = nI p ∧ t'.1 183 N = nI p) ∨ rdD s' t') := by
  obtain ⟨hi, c1, c2, c3⟩ := cL_at hE.1.1
  have m7 := hE.1.2.2.1
  have m4 := hE.1.2.2.2.1
  have hb3 := hE.2.1.1
  have htl := (tk_last hi).2
  have hn4 := hE.1.2.1.2.1
  have eN := m_isNameK (en := en) (d := d' + 2) hB hE.1.2
  have preX : ∀ s1, qev en (d + 5) 115 [.ref 65, .int (2 : Int32)] (uI (uJ s 67 N (s.2.1 1 11)) 68 N (s.1 1 10)) = some (none, s1) → qev en (d + 6) 129 [.ref 65, .int (nI N), .int (nI k)] s = some (none, s1) := fun s1 h => by
    have g98 : L_X6_readObject_98 en (d + 5) (nI N) s = some (none, s1) := by
      refine le_X6_readObject_98 en _ _ _ _ ?_
      rw [gd_in (by omega) (by decide), n_cl (by omega), nm_eq, nm_eq]
      show bV (qev en (d + 5) 115 [.ref 65, .int (2 : Int32)] (uI (uJ s 67 N (s.2.1 1 11)) 68 N (s.1 1 10))) _ = _
      rw [h, bV_some]
    refine x_86 (d := d + 3) hE (by omega) _ (le_X6_readObject_86 en _ _ _ _ _ ?_)
    rcases hk with z | z
    · rw [if_pos (by rw [z]; rfl)]; exact g98
    · rw [if_neg (by rw [z]; decide), if_neg (by rw [z]; decide)]; exact g98
  have preM : ∀ t', bI (qev en (d' + 4) 254 [.ref 151] t) (fun w5 s6 => bV (qev en (d' + 4) 245 [.ref 151, .int w5, .int (2 : Int32)] s6) (fun s9 => L_X12_readRest_203 en (d' + 4) (nI N) s9)) = some (none, t') → qev en (d' + 5) 279 [.ref 151, .int (nI N), .int (nI k)] t = some (none, t') := fun t' hr => by
    have g187 : L_X12_readRest_187 en (d' + 4) (nI N) t = some (none, t') := by
      refine le_X12_readRest_187 en _ _ _ _ ?_
      rw [m_goodL m7, bI_some, if_neg (by decide)]
      exact hr
    refine le_X12_readRest en _ _ _ _ _ ?_
    rw [if_neg (by rw [n_eq (by decide) (by omega)]; omega), if_pos (by rw [n_eq (by decide) (by omega)]; omega), if_neg (by rw [n_gt (by decide) (by omega)]; omega), if_pos (by rw [n_lt (by decide) (by omega)]; omega)]
    refine le_X12_readRest_175 en _ _ _ _ _ ?_
    rcases hk with z | z
    · rw [if_pos (by rw [z]; rfl)]; exact g187
    · rw [if_neg (by rw [z]; decide), if_neg (by rw [z]; decide)]; exact g187
  have g203 : ∀ (t1 t' : qS), qev en (d' + 4) 249 [.ref 151] (uI (uJ t1 182 N (t1.2.1 151 5)) 183 N (t1.1 151 4)) = some (none, t') → L_X12_readRest_203 en (d' + 4) (nI N) t1 = some (none, t') := fun t1 t' h => by
    refine le_X12_readRest_203 en _ _ _ _ ?_
    rw [gd_in (by omega) (by decide), n_cl (by omega), nm_eq, nm_eq]
    show bV (qev en (d' + 4) 249 [.ref 151] (uI (uJ t1 182 N (t1.2.1 151 5)) 183 N (t1.1 151 4))) _ = _
    rw [h, bV_some]
  have fX : stF N m s (uI (uJ s 67 N (s.2.1 1 11)) 68 N (s.1 1 10)) := stF.uj.tr (stF.ui (by decide)) (Nat.le_refl m)
  have kX : ∀ a, 18 ≤ a → a ≤ 27 → (uI (uJ s 67 N (s.2.1 1 11)) 68 N (s.1 1 10)).1 a = s.1 a := fun a _ h => uI_ne (by omega)
  have hE1 : exS false 7 0 u B n (uI (uJ s 67 N (s.2.1 1 11)) 68 N (s.1 1 10)) t V U cl nc nl nt i m := exS_ui (exS_uj hE) (Or.inr rfl)
  by_cases q : tkK B n i = 2
  · obtain ⟨W, wx, wy, wz, wr, hW, cw, mw, -⟩ := word_st (en := en) hE hB q
    rw [q, decide_eq_true rfl] at eN
    have hE2 : exS false 7 0 u B n (uI (uJ s 67 N (s.2.1 1 11)) 68 N (s.1 1 10)) (uI (uJ t 182 N (t.2.1 151 5)) 183 N (t.1 151 4)) V U cl nc nl nt i m := exS_mi (exS_mj hE1 (by decide)) (by decide)
    obtain ⟨s1, t1, e1, e2, e3, e4, e5⟩ := adv_al (en := en) (d := d + 3) (d' := d' + 1) hE2.1 (by omega)
    refine ⟨s1, t1, preX _ (x_need2 (d := d + 3) hE2 q e1), preM _ ?_, fX.tr (stF.tk (tnF.ad e3)) (Nat.le_refl m), ((smF.uj (Or.inr rfl)).tr (smF.ui rfl) (Nat.le_refl m)).tr (smF.mv e4) (Nat.le_refl m), fun a a1 a2 => by rw [e3.1 a (by omega)]; exact kX a a1 a2, fun a a1 a2 => ?_, ?_, ?_⟩
    · rw [eN, bI_some, show bt true = (1 : Int32) from rfl, m_needT, bV_some]
      exact g203 t t1 e2
    · have := smW_lt a1
      rw [e4.1 a (by omega), uI_ne a2]
      rfl
    · rw [e4.2.2.1 180 (by decide)]
      exact uJ_ne (by decide)
    · rcases e5 with e5 | e5
      · refine Or.inl ⟨i + 1, W, (tkN B n i).1, exS_tk hE2 (tnF.ad e3) e4 e5, hW, ?_, ?_, by omega, ?_, ?_⟩
        · rw [e3.2.2.1 67 (by decide)]
          show (if 67 = 67 ∧ N = N then s.2.1 1 11 else _) = _
          rw [if_pos ⟨rfl, rfl⟩, cw]
        · rw [e4.2.2.1 182 (by decide)]
          show (if 182 = 182 ∧ N = N then t.2.1 151 5 else _) = _
          rw [if_pos ⟨rfl, rfl⟩, mw]
        · rw [e3.1 68 (by decide), rdW, c2]
        · rw [e4.1 183 (by decide), rdW, m4]
      · exact Or.inr e5
  · rw [decide_eq_false q] at eN
    obtain ⟨t1, w1, w2, w3⟩ := fault_st (en := en) (d' := d' + 2) (k := 2) hE1 ⟨by decide, by decide⟩
    have w1' : qev en (d' + 4) 245 [.ref 151, .int (bt false), .int (2 : Int32)] t = some (none, t1) := w1
    have hD2 : rdD (bmS (uI (uJ s 67 N (s.2.1 1 11)) 68 N (s.1 1 10)) 2) (uI (uJ t1 182 N (t1.2.1 151 5)) 183 N (t1.1 151 4)) := by
      obtain ⟨F, p, g1, g2⟩ := w3
      exact ⟨F, p, g1, mtD_fr g2 (by rw [uI_ne (by decide)]; rfl) (by rw [uI_ne (by decide)]; rfl)⟩
    refine ⟨_, _, preX _ (x_need2F (d := d + 3) hE1 q), preM _ ?_, fX.tr (stF.tk (tnF.bm bmS_F)) (Nat.le_refl m), (smF.mv w2).tr ((smF.uj (Or.inr rfl)).tr (smF.ui rfl) (Nat.le_refl m)) (Nat.le_refl m), fun a a1 a2 => by rw [bmS_F.1 a (by omega) (by omega)]; exact kX a a1 a2, fun a a1 a2 => ?_, ?_, Or.inr hD2⟩
    · rw [eN, bI_some, w1', bV_some]
      refine g203 t1 _ ?_
      obtain ⟨F, p, g1, g2⟩ := hD2
      rw [show d' + 4 = d' + 2 + 2 from rfl, m_nextD g2]
    · have := smW_lt a1
      rw [uI_ne a2]
      show t1.1 a = t.1 a
      exact w2.1 a (by omega)
    · show (uJ t1 182 N (t1.2.1 151 5)).2.1 180 = _
      rw [uJ_ne (by decide)]
      exact w2.2.2.1 180 (by decide)
theorem CWN_ok : ∀ k, k < 7 → cwL.getD k 0 = Int64.ofNat (w8 8 (CWN.getD k 0)) ∧ CWN.getD k 0 < 128 ^ 8 := by decide +kernel
/-- a call's word on both sides -/
theorem wd_al {W : Nat} (hW : W < 128 ^ 8) {f : Nat → Int64} (hf : ∀ j, j < 7 → f j = Int64.ofNat (CWN.getD j 0)) : wdR (fnd f (Int64.ofNat W) 7 0) (Int64.ofNat (w8 8 W)) := by
  rcases fnd_is (f := f) (m := Int64.ofNat W) 7 0 with ⟨h1, h2⟩ | ⟨j, h1, h2, h3, h4, -⟩
  · refine Or.inr ⟨h1, fun k hk hw => ?_⟩
    obtain ⟨g1, g2⟩ := CWN_ok k hk
    rw [g1, w8_of hW g2] at hw
    refine h2 k (Nat.zero_le k) (by omega) ?_
    rw [hf k hk, hw]
  · refine Or.inl ⟨j, by omega, h3, ?_⟩
    obtain ⟨g1, g2⟩ := CWN_ok j (by omega)
    rw [hf j (by omega)] at h4
    have := (id_of g2 hW).mp h4
    rw [g1, this]
/-- a call's word -/
theorem objCall (hE : exS false 7 0 u B n s t V U cl nc nl nt i m) (hB : ∀ j, j < n → B j < 256) (hN : N < 100) (hW : ∀ j, j < 7 → s.2.1 66 j = Int64.ofNat (CWN.getD j 0)) : ∃ s' t', qev en (d + 6) 129 [.ref 65, .int (nI N), .int (nI 15)] s = some (none, s') ∧ (∀ r, bI (qev en (d' + 4) 243 [.ref 151] t') (fun w6 s7 => if w6 = (0 : Int32) then some (none, s7) else if (s7.1 151 3) = (59 : Int32) then some (none, s7) else bV (qev en (d' + 4) 276 [.ref 151, .int (nI N)] s7) (fun s12 => some (none, s12))) = some r → qev en (d' + 5) 279 [.ref 151, .int (nI N), .int (nI 15)] t = some r) ∧ stF N m s s' ∧ smF N m t t' ∧ kpX 27 s s' ∧ (∀ a, smW a = true → t'.1 a = t.1 a) ∧ t'.2.1 182 = t.2.1 182 ∧ ((∃ i' : Nat, exS false 7 0 u B n s' t' V U cl nc nl nt i' m ∧ wdR (s'.1 27 N) (t'.2.1 180 N)) ∨ rdD s' t') := by
  obtain ⟨hi, c1, c2, c3⟩ := cL_at hE.1.1
  have m7 := hE.1.2.2.1
  have eN := m_isNameK (en := en) (d := d' + 2) hB hE.1.2
  have e83 : qev en (d + 5) 83 [.ref 66, .int (0 : Int32), .int (7 : Int32), .long (s.2.1 1 11)] s = some (some (.int (fnd (fun j => s.2.1 66 (0 + j)) (s.2.1 1 11) 7 0)), s) := c_find (a := 66) (p := 0) (c := 7) rfl (by decide) (by decide)
  have preX : ∀ s1, qev en (d + 5) 115 [.ref 65, .int (2 : Int32)] (uI s 27 N (fnd (fun j => s.2.1 66 (0 + j)) (s.2.1 1 11) 7 0)) = some (none, s1) → qev en (d + 6) 129 [.ref 65, .int (nI N), .int (nI 15)] s = some (none, s1) := fun s1 h => by
    refine x_86 (d := d + 3) hE (by omega) _ (le_X6_readObject_86 en _ _ _ _ _ ?_)
    rw [if_neg (by decide), if_pos (by decide), if_neg (by decide), e83, bI_some, gd_in (by omega) (by decide), n_cl (by omega), nm_eq, h, bV_some]
  have preM : ∀ r, bI (qev en (d' + 4) 254 [.ref 151] t) (fun w14 s15 => bV (qev en (d' + 4) 245 [.ref 151, .int w14, .int (2 : Int32)] s15) (fun s18 => L_X12_readRest_252 en (d' + 4) (nI N) s18)) = some r → qev en (d' + 5) 279 [.ref 151, .int (nI N), .int (nI 15)] t = some r := fun r hr => by
    refine le_X12_readRest en _ _ _ _ _ ?_
    rw [if_neg (by decide), if_pos (by decide), if_neg (by decide), if_pos (by decide)]
    refine le_X12_readRest_175 en _ _ _ _ _ ?_
    rw [if_neg (by decide), if_pos (by decide), if_neg (by decide), m_goodL m7, bI_some, if_neg (by decide)]
    exact hr
  have g252 : ∀ (t1 t' : qS) r, qev en (d' + 4) 249 [.ref 151] (uJ t1 180 N (t1.2.1 151 5)) = some (none, t') → bI (qev en (d' + 4) 243 [.ref 151] t') (fun w6 s7 => if w6 = (0 : Int32) then some (none, s7) else if (s7.1 151 3) = (59 : Int32) then some (none, s7) else bV (qev en (d' + 4) 276 [.ref 151, .int (nI N)] s7) (fun s12 => some (none, s12))) = some r → L_X12_readRest_252 en (d' + 4) (nI N) t1 = some r := fun t1 t' r h hr => by
    refine le_X12_readRest_252 en _ _ _ _ ?_
    rw [gd_in (by omega) (by decide), n_cl (by omega), nm_eq, h, bV_some]
    exact hr
  have hE1 := exS_ui (j := N) (v := fnd (fun j => s.2.1 66 (0 + j)) (s.2.1 1 11) 7 0) hE (Or.inl ⟨by decide, by decide⟩ : 15 ≤ 27 ∧ 27 ≤ 35 ∨ 27 = 68)
  by_cases q : tkK B n i = 2
  · obtain ⟨W, wx, wy, wz, wr, hW', cw, mw, -⟩ := word_st (en := en) hE hB q
    rw [q, decide_eq_true rfl] at eN
    have hE2 := exS_mj (j := N) (w := t.2.1 151 5) hE1 (show 164 ≤ 180 by decide)
    obtain ⟨s1, t1, e1, e2, e3, e4, e5⟩ := adv_al (en := en) (d := d + 3) (d' := d' + 1) hE2.1 (by omega)
    refine ⟨s1, t1, preX _ (x_need2 (d := d + 3) hE2 q e1), fun r hr => preM r ?_, (stF.ui (by decide)).tr (stF.tk (tnF.ad e3)) (Nat.le_refl m), (smF.uj (Or.inl rfl)).tr (smF.mv e4) (Nat.le_refl m), (kpX.ui (by decide)).tr (kpX.tk (tnF.ad e3)), fun a a1 => ?_, ?_, ?_⟩
    · rw [eN, bI_some, show bt true = (1 : Int32) from rfl, m_needT, bV_some]
      exact g252 t t1 r e2 hr
    · have := smW_lt a1
      rw [e4.1 a (by omega)]
      rfl
    · rw [e4.2.2.1 182 (by decide)]
      exact uJ_ne (by decide)
    · rcases e5 with e5 | e5
      · refine Or.inl ⟨i + 1, exS_tk hE2 (tnF.ad e3) e4 e5, ?_⟩
        have a1 : s1.1 27 N = fnd (fun j => s.2.1 66 (0 + j)) (s.2.1 1 11) 7 0 := by rw [e3.1 27 (by decide), rdW]
        have a2 : t1.2.1 180 N = Int64.ofNat (w8 8 W) := by
          rw [e4.2.2.1 180 (by decide)]
          show (if 180 = 180 ∧ N = N then t.2.1 151 5 else _) = _
          rw [if_pos ⟨rfl, rfl⟩, mw]
        rw [a1, a2, cw]
        exact wd_al hW'.1 (fun j hj => by rw [Nat.zero_add]; exact hW j hj)
      · exact Or.inr e5
  · rw [decide_eq_false q] at eN
    obtain ⟨t1, w1, w2, w3⟩ := fault_st (en := en) (d' := d' + 2) (k := 2) hE1 ⟨by decide, by decide⟩
    have w1' : qev en (d' + 4) 245 [.ref 151, .int (bt false), .int (2 : Int32)] t = some (none, t1) := w1
    have hD2 : rdD (bmS (uI s 27 N (fnd (fun j => s.2.1 66 (0 + j)) (s.2.1 1 11) 7 0)) 2) (uJ t1 180 N (t1.2.1 151 5)) := by
      obtain ⟨F, p, g1, g2⟩ := w3
      exact ⟨F, p, g1, mtD_fr g2 rfl rfl⟩
    refine ⟨_, _, preX _ (x_need2F (d := d + 3) hE1 q), fun r hr => preM r ?_, (stF.ui (by decide)).tr (stF.tk (tnF.bm bmS_F)) (Nat.le_refl m), (smF.mv w2).tr (smF.uj (Or.inl rfl)) (Nat.le_refl m), (kpX.ui (by decide)).tr (kpX.tk (tnF.bm bmS_F)), fun a a1 => ?_, ?_, Or.inr hD2⟩
    · rw [eN, bI_some, w1', bV_some]
      refine g252 t1 _ r ?_ hr
      obtain ⟨F, p, g1, g2⟩ := hD2
      rw [show d' + 4 = d' + 2 + 2 from rfl, m_nextD g2]
    · have := smW_lt a1
      show t1.1 a = t.1 a
      exact w2.1 a (by omega)
    · show (uJ t1 180 N (t1.2.1 151 5)).2.1 182 = _
      rw [uJ_ne (by decide)]
      exact w2.2.2.1 182 (by decide)
/-- an expression of the line -/
theorem takeExp_al (hE : exS false 7 0 u B n s t V U cl nc nl nt i m) (hB : ∀ j, j < n → B j < 256) (hN : N < 100) (hD : 130 ≤ D) : ∃ s' t', qev en D 134 [.ref 65, .int (0 : Int32), .int (1 : Int32)] s = some (none, s') ∧ qev en (d' + 10) 276 [.ref 151, .int (nI N)] t = some (none, t') ∧ stF N m s s' ∧ smF N m t t' ∧ kpX 0 s s' ∧ (∀ a, smW a = true → a ≠ 176 → a ≠ 177 → t'.1 a = t.1 a) ∧ (t'.2.1 180 = t.2.1 180 ∧ t'.2.1 182 = t.2.1 182) ∧ ((∃ (U' : Nat → Nat → Nat) (cl' : Nat → Nat) (i' m' : Nat), exS false 7 0 u B n s' t' V U' cl' nc nl nt i' m' ∧ m < m' ∧ exA s' t' u m' (nI m) (nI m') (t'.1 176 N) (t'.1 177 N) ∧ ∀ w, cl w ≤ cl' w) ∨ rdD s' t') := by
  obtain ⟨s', t', e1, e2, e3, e4, e5⟩ := exp_al (en := en) (D := D) (d' := d') hE (Or.inl ⟨rfl, rfl, rfl⟩) hB hD
  rw [Nat.zero_add] at e2 e4
  have eM : qev en (d' + 10) 276 [.ref 151, .int (nI N)] t = some (none, uI (uI t' 176 N (nI m)) 177 N ((uI t' 176 N (nI m)).1 151 25)) := by
    refine le_X12_takeExp en _ _ _ _ ?_
    rw [e2, bI_some, gd_in (by omega) (by decide), n_cl (by omega), nm_eq, nm_eq]
  refine ⟨s', _, e1, eM, stF.rx e3, ((smF.rm e4).tr (smF.ui rfl) (Nat.le_refl m)).tr (smF.ui rfl) (Nat.le_refl m), kpX.rx e3, fun a a1 a2 a3 => ?_, ⟨(kpM.rm (r := 0) e4).2.1, (kpM.rm (r := 0) e4).2.2⟩, ?_⟩
  · rw [uI_ne a3, uI_ne a2]
    have := smW_lt a1
    exact e4.1 a (by omega) (Or.inl (by omega)) (by omega) (by omega) (by omega)
  · rcases e5 with ⟨U', cl', i', m', g1, g2, g3, g4, g5⟩ | ⟨g1, -⟩
    · left
      have hE2 := exS_mi (j := N) (v := (uI t' 176 N (nI m)).1 151 25) (exS_mi (j := N) (v := nI m) g1 (show 164 ≤ 176 by decide)) (show 164 ≤ 177 by decide)
      have h25 : t'.1 151 25 = nI m' := by rw [g1.2.2.2.2.2.2, Nat.zero_add]
      refine ⟨U', cl', i', m', hE2, g2, ⟨m, m', rfl, rfl, Or.inr ⟨g2, Nat.le_refl m', g1.2.2.2.2.1.2.2, ?_, ?_, ?_, g4⟩⟩, g5⟩
      · rw [uI_ne (by decide), rdW]
      · rw [rdW, uI_ne (by decide), h25]
      · intro j j1 j2
        exact nd1_eq (g3 j j1 j2) rfl rfl (by rw [uI_ne (by decide), uI_ne (by decide)]) (by rw [uI_ne (by decide), uI_ne (by decide)])
    · exact Or.inr (rdD_mi (rdD_mi g1 (by decide)) (by decide))
end OBT
