/-! THE READER: statements that begin with a key word, on both sides: their parts. -/
/-- whether an expression stands there: se: a semicolon stands there -/
def hxB (k : Nat) (se : Bool) : Bool := if k = 15 ∨ k = 16 then !se else (decide (k = 0) || decide (2 ≤ k ∧ k ≤ 4) || decide (k = 14) || decide (k = 17) || decide (k = 18))
/-- a line that has just come to be -/
abbrev nwL (s t : qS) (N u k m0 : Nat) : Prop := (s.1 19 N = nI u ∧ t.1 165 N = nI u) ∧ t.1 164 N = nI k ∧ (s.1 20 N = -2 ∧ t.1 166 N = -2) ∧ (s.1 21 N = -2 ∧ t.1 167 N = -2) ∧ t.1 168 N = s.1 22 N ∧ (s.1 35 N = 0 ∧ t.1 175 N = 0) ∧ (s.1 25 N = 0 ∧ s.1 26 N = 0) ∧ (t.1 176 N = nI m0 ∧ t.1 177 N = nI m0 ∧ t.1 178 N = nI m0 ∧ t.1 179 N = nI m0) ∧ m0 ≤ 400
section KND
variable {en : pN} {d d' k i i' n N j x y r m m' u F p nc nl nt D m0 : Nat} {V cl cl' th : Nat → Nat} {U U' : Nat → Nat → Nat} {s s' s'' t t' t'' : qS} {B : Nat → Nat} {v w dp : Int32}
theorem x_hasE (hk : k < 19) : qev en (d + 1) 125 [.ref 65, .int (nI k)] s = some (some (.int (bt (hxB k (decide (s.1 1 9 = 59))))), s) := by
  have h12 : L_X6_hasExp_12 en d s = some (some (.int (bt (!decide (s.1 1 9 = 59)))), s) := by
    refine le_X6_hasExp_12 en _ _ _ ?_
    by_cases z : s.1 1 9 = 59
    · rw [if_pos z, decide_eq_true z]; rfl
    · rw [if_neg z, decide_eq_false z]; rfl
  refine le_X6_hasExp en _ _ _ _ ?_
  unfold hxB
  by_cases z1 : k = 15
  · rw [if_pos (by rw [z1]; rfl), if_pos (Or.inl z1)]; exact h12
  by_cases z2 : k = 16
  · rw [if_neg (by rw [z2]; decide), if_neg (by rw [z2]; decide), if_pos (Or.inr z2)]; exact h12
  rw [if_neg (by rw [n_eq (by decide) (by omega)]; exact z1), if_pos (by rw [n_eq (by decide) (by omega)]; exact z2), if_neg (show ¬ (k = 15 ∨ k = 16) by omega)]
  by_cases z3 : k = 0
  · rw [if_pos (by rw [z3]; rfl), decide_eq_true z3]; rfl
  rw [if_neg (by rw [n_eq (by decide) (by omega)]; exact z3), decide_eq_false z3]
  have h44 : ¬ (2 ≤ k ∧ k ≤ 4) → L_X6_hasExp_44 en d (nI k) s = some (some (.int (bt (false || decide (2 ≤ k ∧ k ≤ 4) || decide (k = 14) || decide (k = 17) || decide (k = 18)))), s) := fun h => by
    rw [decide_eq_false h]
    refine le_X6_hasExp_44 en _ _ _ _ ?_
    by_cases z4 : k = 14
    · rw [if_pos (by rw [z4]; rfl), decide_eq_true z4]; rfl
    by_cases z5 : k = 17
    · rw [if_neg (by rw [z5]; decide), if_pos (by rw [z5]; rfl), decide_eq_true z5, decide_eq_false z4]; rfl
    by_cases z6 : k = 18
    · rw [if_neg (by rw [z6]; decide), if_neg (by rw [z6]; decide), if_neg (by rw [z6]; decide), decide_eq_true z6, decide_eq_false z4, decide_eq_false z5]; rfl
    · rw [if_neg (by rw [n_eq (by decide) (by omega)]; exact z4), if_neg (by rw [n_eq (by decide) (by omega)]; exact z5), if_pos (by rw [n_eq (by decide) (by omega)]; exact z6), decide_eq_false z4, decide_eq_false z5, decide_eq_false z6]; rfl
  by_cases z7 : k < 2
  · rw [if_pos (by rw [n_gt (by decide) (by omega)]; exact z7)]; exact h44 (by omega)
  · rw [if_neg (by rw [n_gt (by decide) (by omega)]; exact z7)]
    by_cases z8 : k ≤ 4
    · rw [if_pos (by rw [n_ge (by decide) (by omega)]; exact z8), decide_eq_true (show 2 ≤ k ∧ k ≤ 4 from ⟨by omega, z8⟩)]; rfl
    · rw [if_neg (by rw [n_ge (by decide) (by omega)]; exact z8)]; exact h44 (by omega)
/-- the class's line gets its kind, and where its expression begins -/
noncomputable def s47 (s : qS) (N k m : Nat) : qS := uI (uI s 18 N (nI k)) 23 N (nI m)
theorem x_47 (h7 : s.2.2 65 7 = 8) (hm : s.1 7 3 = nI m) (hN : N < 100) : ∀ r, bI (qev en D 125 [.ref 65, .int (nI k)] (s47 s N k m)) (fun w6 s7 => if w6 = (0 : Int32) then L_X6_readStatement_90 en D (nI N) dp (nI k) s7 else bV (qev en D 134 [.ref 65, .int (0 : Int32), .int (1 : Int32)] s7) (fun s11 => L_X6_readStatement_90 en D (nI N) dp (nI k) s11)) = some r → L_X6_readStatement_47 en D (nI N) dp (nI k) s = some r := by
  intro r hr
  have e4 : lc (8 - 1) = 4 := rfl
  refine le_X6_readStatement_47 en _ _ _ _ _ _ ?_
  rw [gd_in (by omega) (by decide), n_cl (by omega), nm_eq, show (uI s 18 N (nI k)).2.2 65 7 = 8 from h7, gd_true ⟨by decide, e4⟩, nm_eq, show (uI s 18 N (nI k)).1 (8 - 1) 3 = nI m from by rw [uI_ne (by decide)]; exact hm, nm_eq]
  exact hr
theorem x_90 (h7 : s.2.2 65 7 = 8) (hm : s.1 7 3 = nI m) (hN : N < 100) (hk : k ≠ 3) (hk' : k < 19) : ∀ r, L_X6_readStatement_149 en D (nI N) dp (nI k) (uI s 24 N (nI m)) = some r → L_X6_readStatement_90 en D (nI N) dp (nI k) s = some r := by
  intro r hr
  have e4 : lc (8 - 1) = 4 := rfl
  refine le_X6_readStatement_90 en _ _ _ _ _ _ ?_
  rw [h7, gd_true ⟨by decide, e4⟩, nm_eq, gd_in (by omega) (by decide), n_cl (by omega), show s.1 (8 - 1) 3 = nI m from hm, nm_eq, if_pos (by rw [n_eq (by decide) (by omega)]; exact hk)]
  exact hr
theorem x_149 (hk : k ≠ 3 ∧ k ≠ 4) (hk' : k < 19) : ∀ r, L_X6_readStatement_164 en D v dp (nI k) s = some r → L_X6_readStatement_149 en D v dp (nI k) s = some r := by
  intro r hr
  refine le_X6_readStatement_149 en _ _ _ _ _ _ ?_
  rw [if_neg (by rw [n_eq (by decide) (by omega)]; exact hk.1), if_pos (by rw [n_eq (by decide) (by omega)]; exact hk.2)]
  exact hr
theorem lnB_tk (h : lnB s t nc nl nt m cl th i) (hm : m ≤ 400) (f : tnF s s') (g : mvF t t') : lnB s' t' nc nl nt m cl th i := lnB_fr (N := i + 1) h (Nat.ne_of_lt (Nat.lt_succ_self i)) (Nat.le_refl m) hm (fun _ => Nat.le_refl _) (stF.tk f) (smF.mv g)
/-- the end of a statement -/
theorem end_al (hE : exS false 7 0 u B n s t V U cl nc nl nt i m) (hk : k ≠ 17 ∧ k ≠ 18) (hk' : k < 19) : ∃ s' t', L_X6_readStatement_164 en (d + 2) v dp (nI k) s = some (none, s') ∧ qev en (d' + 4) 252 [.ref 151, .int (59 : Int32)] t = some (none, t') ∧ tnF s s' ∧ mvF t t' ∧ ((∃ i', exS false 7 0 u B n s' t' V U cl nc nl nt i' m) ∨ rdD s' t') := by
  obtain ⟨s', t', e1, e2, e3, e4, e5⟩ := must_al (en := en) (d := d) (d' := d') (k := 59) hE.1 ⟨by decide, by decide⟩
  refine ⟨s', t', le_X6_readStatement_164 en _ _ _ _ _ _ ?_, e2, e3, e4, ?_⟩
  · have e1' : qev en (d + 2) 115 [.ref 65, .int (59 : Int32)] s = some (none, s') := e1
    rw [if_neg (by rw [n_eq (by decide) (by omega)]; exact hk.1), if_neg (by rw [n_eq (by decide) (by omega)]; exact hk.2), e1', bV_some]
  · rcases e5 with ⟨-, e5⟩ | e5
    · exact Or.inl ⟨_, exS_tk hE e3 e4 e5⟩
    · exact Or.inr e5
/-- behind a fault -/
theorem endD_m (h : mtD t F p) : qev en (d' + 3) 252 [.ref 151, .int w] t = some (none, t) := by
  refine le_X12_must en _ _ _ _ ?_
  rw [m_goodD h, bI_some, if_pos rfl]
  refine le_X12_must_25 en _ _ _ ?_
  rw [m_nextD h, bV_some]
/-- an expression, or none -/
theorem mid_al (hE : exS false 7 0 u B n s t V U cl nc nl nt i m) (hB : ∀ j, j < n → B j < 256) (hN : N < 100) (hk : k < 19) (hk3 : k ≠ 3) (hD : 140 ≤ D) {b : Bool} (hb : hxB k (decide (s.1 1 9 = 59)) = b) (h176 : ∃ z : Nat, z ≤ 900 ∧ t.1 176 N = nI z ∧ t.1 177 N = nI z) : ∃ s' t', (∀ r, L_X6_readStatement_149 en D (nI N) dp (nI k) s' = some r → L_X6_readStatement_47 en D (nI N) dp (nI k) s = some r) ∧ (if b = true then qev en (d' + 10) 276 [.ref 151, .int (nI N)] t = some (none, t') else t' = t) ∧ stF N m s s' ∧ smF N m t t' ∧ (∀ a, 18 ≤ a → a ≤ 27 → a ≠ 18 → a ≠ 23 → a ≠ 24 → s'.1 a = s.1 a) ∧ (∀ a, smW a = true → a ≠ 176 → a ≠ 177 → t'.1 a = t.1 a) ∧ (t'.2.1 180 = t.2.1 180 ∧ t'.2.1 182 = t.2.1 182) ∧ (s'.1 68 = s.1 68 ∧ s'.2.1 67 = s.2.1 67) ∧ ((∃ (U' : Nat → Nat → Nat) (cl' : Nat → Nat) (i' m' : Nat), exS false 7 0 u B n s' t' V U' cl' nc nl nt i' m' ∧ m ≤ m' ∧ s'.1 18 N = nI k ∧ exA s' t' u m' (s'.1 23 N) (s'.1 24 N) (t'.1 176 N) (t'.1 177 N) ∧ (b = false → s'.1 23 N = s'.1 24 N) ∧ ∀ w, cl w ≤ cl' w) ∨ rdD s' t') := by
  obtain ⟨f, rfl⟩ : ∃ f, D = f + 12 := ⟨D - 12, by omega⟩
  have h7 : s.2.2 65 7 = 8 := hE.2.2.2.1.1
  have hm : s.1 7 3 = nI m := hE.2.2.2.2.2.1
  have hm4 : m ≤ 400 := hE.2.2.2.2.1.2.2
  have e125 : qev en (f + 12) 125 [.ref 65, .int (nI k)] (s47 s N k m) = some (some (.int (bt b)), s47 s N k m) := by
    have := x_hasE (en := en) (d := f + 11) (k := k) (s := s47 s N k m) hk
    rw [show (s47 s N k m).1 1 9 = s.1 1 9 from rfl, hb] at this
    exact this
  have p47 := x_47 (en := en) (D := f + 12) (k := k) (dp := dp) h7 hm hN
  have hE2 : exS false 7 0 u B n (s47 s N k m) t V U cl nc nl nt i m := exS_ui (exS_ui hE (Or.inl ⟨by decide, by decide⟩)) (Or.inl ⟨by decide, by decide⟩)
  have f47 : stF N m s (s47 s N k m) := (stF.ui (by decide)).tr (stF.ui (by decide)) (Nat.le_refl m)
  have h7' : (s47 s N k m).2.2 65 7 = 8 := h7
  have hm' : (s47 s N k m).1 7 3 = nI m := hE2.2.2.2.2.2.1
  have k47 : ∀ a, a ≠ 18 → a ≠ 23 → (s47 s N k m).1 a = s.1 a := fun a h1 h2 => by
    unfold s47
    rw [uI_ne h2, uI_ne h1]
  have v18 : (s47 s N k m).1 18 N = nI k := by
    unfold s47
    rw [uI_ne (by decide), rdW]
  have v23 : (s47 s N k m).1 23 N = nI m := by
    unfold s47
    rw [rdW]
  cases b with
  | false =>
    refine ⟨uI (s47 s N k m) 24 N (nI m), t, fun r hr => p47 r ?_, rfl, f47.tr (stF.ui (by decide)) (Nat.le_refl m), smF.rf, fun a _ _ h1 h2 h3 => by rw [uI_ne h3]; exact k47 a h1 h2, fun _ _ _ _ => rfl, ⟨rfl, rfl⟩, ⟨by rw [uI_ne (by decide)]; exact k47 68 (by decide) (by decide), rfl⟩, Or.inl ⟨U, cl, i, m, exS_ui hE2 (Or.inl ⟨by decide, by decide⟩), Nat.le_refl m, by rw [uI_ne (by decide)]; exact v18, ?_, fun _ => by rw [uI_ne (by decide), rdW]; exact v23, fun _ => Nat.le_refl _⟩⟩
    · rw [e125, bI_some, if_pos (show bt false = (0 : Int32) from rfl)]
      exact x_90 h7' hm' hN hk3 hk r hr
    · obtain ⟨z, z1, z2, z3⟩ := h176
      rw [uI_ne (show 23 ≠ 24 by decide), v23, rdW]
      exact ⟨m, m, rfl, rfl, Or.inl ⟨rfl, hm4, z, z1, z2, z3⟩⟩
  | true =>
    obtain ⟨s1, t1, e1, e2, e3, e4, e5, e6, e7, e8⟩ := takeExp_al (en := en) (D := f + 12) (d' := d') hE2 hB hN (by omega)
    have h71 : s1.2.2 65 7 = 8 := by rw [e3.2.2.2.2.2.2.2.2.2]; exact h7
    rcases e8 with ⟨U', cl', i', m', g1, g2, g3, g4⟩ | e8
    · have hm1 : s1.1 7 3 = nI m' := g1.2.2.2.2.2.1
      refine ⟨uI s1 24 N (nI m'), t1, fun r hr => p47 r ?_, e2, (f47.tr e3 (Nat.le_refl m)).tr (stF.ui (by decide)) (Nat.le_refl m), e4, fun a a1 a2 h1 h2 h3 => by rw [uI_ne h3, e5.1 a a1 a2 (by omega)]; exact k47 a h1 h2, e6, e7, ⟨by rw [uI_ne (by decide), e5.2.1]; exact k47 68 (by decide) (by decide), e5.2.2⟩, Or.inl ⟨U', cl', i', m', exS_ui g1 (Or.inl ⟨by decide, by decide⟩), Nat.le_of_lt g2, ?_, ?_, fun h => Bool.noConfusion h, g4⟩⟩
      · rw [e125, bI_some, if_neg (by decide), e1, bV_some]
        exact x_90 h71 hm1 hN hk3 hk r hr
      · rw [uI_ne (by decide), e5.1 18 (by decide) (by decide) (by decide)]; exact v18
      · rw [uI_ne (show 23 ≠ 24 by decide), e5.1 23 (by decide) (by decide) (by decide), v23, rdW]
        exact exA_fr (N := N) g3 (Nat.le_refl _) g1.2.2.2.2.1.2.2 (stF.ui (by decide)) smF.rf
    · obtain ⟨F', p', g3, g4⟩ := id e8
      have hD1 := rdD_ui (j := N) (v := s1.1 7 3) e8 (show 24 ≠ 1 by decide) (show 24 ≠ 65 by decide)
      refine ⟨uI s1 24 N (s1.1 7 3), t1, fun r hr => p47 r ?_, e2, (f47.tr e3 (Nat.le_refl m)).tr (stF.ui (by decide)) (Nat.le_refl m), e4, fun a a1 a2 h1 h2 h3 => by rw [uI_ne h3, e5.1 a a1 a2 (by omega)]; exact k47 a h1 h2, e6, e7, ⟨by rw [uI_ne (by decide), e5.2.1]; exact k47 68 (by decide) (by decide), e5.2.2⟩, Or.inr hD1⟩
      rw [e125, bI_some, if_neg (by decide), e1, bV_some]
      have e4' : lc (8 - 1) = 4 := rfl
      refine le_X6_readStatement_90 en _ _ _ _ _ _ ?_
      rw [h71, gd_true ⟨by decide, e4'⟩, nm_eq, gd_in (by omega) (by decide), n_cl (by omega), nm_eq, if_pos (by rw [n_eq (by decide) (by omega)]; exact hk3)]
      exact hr
end KND
