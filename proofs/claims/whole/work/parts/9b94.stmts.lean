/-! THE READER: statements that begin with a key word, on both sides. -/
/-- behind a statement: what the class's R and the model's X come to -/
abbrev stmR (R X : Option qR) (u : Nat) (B : Nat → Nat) (n : Nat) (s t : qS) (V cl th : Nat → Nat) (nc nl nt m N : Nat) : Prop := ∃ s' t' : qS, R = some (none, s') ∧ X = some (none, t') ∧ wkX s s' ∧ wkM t t' ∧ ((∃ (U' : Nat → Nat → Nat) (cl' : Nat → Nat) (i' m' : Nat), exS false 7 0 u B n s' t' V U' cl' nc nl nt i' m' ∧ m ≤ m' ∧ (∀ w, cl w ≤ cl' w) ∧ lnB s' t' nc nl nt m' cl' th N ∧ stF N m s s' ∧ smF N m t t') ∨ rdD s' t')
section STM
variable {en : pN} {d d' k i i' n N j x y r m m' u F p nc nl nt D m0 f e0 : Nat} {V cl cl' th : Nat → Nat} {U U' : Nat → Nat → Nat} {s s' s'' s0 t t' t'' t0 : qS} {B : Nat → Nat} {v w dp : Int32}
theorem hxB_no {se : Bool} (h : k = 1 ∨ 5 ≤ k ∧ k ≤ 13) : hxB k se = false := by
  unfold hxB
  rw [if_neg (show ¬ (k = 15 ∨ k = 16) by omega), decide_eq_false (show ¬ k = 0 by omega), decide_eq_false (show ¬ (2 ≤ k ∧ k ≤ 4) by omega), decide_eq_false (show ¬ k = 14 by omega), decide_eq_false (show ¬ k = 17 by omega), decide_eq_false (show ¬ k = 18 by omega)]
  rfl
theorem hxB_yes {se : Bool} (h : k = 0 ∨ k = 2 ∨ k = 4 ∨ k = 3 ∨ k = 14 ∨ k = 17 ∨ k = 18) : hxB k se = true := by
  rcases h with rfl | rfl | rfl | rfl | rfl | rfl | rfl <;> rfl
/-- the line as it stands now -/
theorem lnB_of (hn : nwL s0 t0 N u k m0) (hth : th N = u) (hu : u < nt) (f : stF N m s0 s) (g : smF N m t0 t) (hk : k < 19) (h18 : s.1 18 N = nI k) (h164 : t.1 164 N = nI k) (h19 : s.1 19 N = s0.1 19 N) (h22 : s.1 22 N = s0.1 22 N) (h20 : t.1 166 N = s.1 20 N) (h20a : 1 ≤ k → k ≤ 4 → ∃ c, c < nc ∧ s.1 20 N = nI c) (h20b : 5 ≤ k → k ≤ 9 → ∃ l, l < nl ∧ s.1 20 N = nI l) (h21 : t.1 167 N = s.1 21 N) (h21a : (s.1 21 N = -2 ∧ k ≠ 1) ∨ ∃ j, j < cl u ∧ s.1 21 N = nI j) (hx1 : exA s t u m' (s.1 23 N) (s.1 24 N) (t.1 176 N) (t.1 177 N)) (hx2 : exA s t u m' (s.1 25 N) (s.1 26 N) (t.1 178 N) (t.1 179 N)) (e1 : k = 1 ∨ 5 ≤ k ∧ k ≤ 13 → s.1 23 N = s.1 24 N) (e2 : k ≠ 3 → s.1 25 N = s.1 26 N) (hwd : k = 15 → wdR (s.1 27 N) (t.2.1 180 N)) (hst : k = 10 ∨ k = 11 → ∃ W p : Nat, (W < 128 ^ 8 ∧ W ≠ 0) ∧ s.2.1 67 N = Int64.ofNat W ∧ t.2.1 182 N = Int64.ofNat (w8 8 W) ∧ p ≤ 4000 ∧ s.1 68 N = nI p ∧ t.1 183 N = nI p) : lnB s t nc nl nt m' cl th N := by
  obtain ⟨⟨n1, n2⟩, n3, n4, n5, n6, ⟨n7, n8⟩, n9, n10, n11⟩ := hn
  have e35 : s.1 35 = s0.1 35 := f.1 35 (by decide) (by decide) (by decide) (by decide) (by decide) (by decide) (by decide) (Or.inr (by decide))
  have g1 : ∀ a, 165 ≤ a → a ≤ 175 → smW a = false → t.1 a = t0.1 a := fun a h1 h2 h3 => g.1 a (by omega) (by omega) (by omega) (by omega) (by omega) h3
  exact ⟨k, ⟨hk, h18, h164⟩, ⟨by rw [hth]; exact hu, by rw [h19, hth]; exact n1, by rw [g1 165 (by decide) (by decide) rfl, hth]; exact n2⟩, h20, ⟨h20a, h20b⟩, ⟨h21, by rw [hth]; exact h21a⟩, by rw [g1 168 (by decide) (by decide) rfl, h22]; exact n6, ⟨by rw [e35]; exact n7, by rw [g1 175 (by decide) (by decide) rfl]; exact n8⟩, by rw [hth]; exact hx1, by rw [hth]; exact hx2, e1, e2, hwd, hst⟩
theorem exA_0 {A E A' E' : Int32} (h1 : A = 0) (h2 : E = 0) (h3 : A' = nI m0) (h4 : E' = nI m0) (h : m0 ≤ 400) : exA s t u m A E A' E' := ⟨0, 0, h1, h2, Or.inl ⟨rfl, by decide, m0, by omega, h3, h4⟩⟩
/-- the end of a statement, behind its expression -/
theorem tail_al (hk : k ≠ 3 ∧ k ≠ 4 ∧ k ≠ 17 ∧ k ≠ 18) (hk' : k < 19) (hL : (∃ (U' : Nat → Nat → Nat) (cl' : Nat → Nat) (i' m' : Nat), exS false 7 0 u B n s t V U' cl' nc nl nt i' m' ∧ m ≤ m' ∧ (∀ w, cl w ≤ cl' w) ∧ lnB s t nc nl nt m' cl' th N) ∨ rdD s t) : ∃ s' t', L_X6_readStatement_149 en (f + 12) v dp (nI k) s = some (none, s') ∧ qev en (d' + 4) 252 [.ref 151, .int (59 : Int32)] t = some (none, t') ∧ wkX s s' ∧ wkM t t' ∧ ((∃ (U' : Nat → Nat → Nat) (cl' : Nat → Nat) (i' m' : Nat), exS false 7 0 u B n s' t' V U' cl' nc nl nt i' m' ∧ m ≤ m' ∧ (∀ w, cl w ≤ cl' w) ∧ lnB s' t' nc nl nt m' cl' th N ∧ tnF s s' ∧ mvF t t') ∨ rdD s' t') := by
  rcases hL with ⟨U', cl', i', m', h1, h2, h3, h4⟩ | ⟨F', p', h1, h2⟩
  · obtain ⟨s', t', e1, e2, e3, e4, e5⟩ := end_al (en := en) (d := f + 10) (d' := d') (v := v) (dp := dp) h1 ⟨hk.2.2.1, hk.2.2.2⟩ hk'
    have hm4 := h1.2.2.2.2.1.2.2
    refine ⟨s', t', x_149 ⟨hk.1, hk.2.1⟩ hk' _ e1, e2, wkX.st (N := N) (m := m) (stF.tk e3), wkM.mv e4, ?_⟩
    rcases e5 with ⟨i2, e5⟩ | e5
    · exact Or.inl ⟨U', cl', i2, m', e5, h2, h3, lnB_tk h4 hm4 e3 e4, e3, e4⟩
    · exact Or.inr e5
  · obtain ⟨s', e1, e2, e3⟩ := xD_149 (en := en) (d := f) (v := v) (dp := dp) (c := nI k) h1
    exact ⟨s', t, e1, by rw [show d' + 4 = d' + 1 + 3 from rfl, endD_m h2], e3, wkM.rf, Or.inr ⟨F', p', e2, h2⟩⟩
/-- a statement by its parts: the object's, then what the expression wants -/
theorem stm_al (hn : nwL s t N u k m0) (hth : th N = u) (hu : u < nt) (hB : ∀ j, j < n → B j < 256) (hN : N < 100) (hk : k < 19) (hk3 : k ≠ 3 ∧ k ≠ 4 ∧ k ≠ 17 ∧ k ≠ 18) (hD : 140 ≤ D) {s1 t1 : qS} {X : Option qR} {i1 : Nat} (f : stF N m s s1) (g : smF N m t t1) (hE : exS false 7 0 u B n s1 t1 V U cl nc nl nt i1 m)
    (h19 : s1.1 19 N = s.1 19 N) (h22 : s1.1 22 N = s.1 22 N) (h25 : s1.1 25 N = s.1 25 N ∧ s1.1 26 N = s.1 26 N) (h164 : t1.1 164 N = t.1 164 N) (h176 : t1.1 176 N = t.1 176 N ∧ t1.1 177 N = t.1 177 N ∧ t1.1 178 N = t.1 178 N ∧ t1.1 179 N = t.1 179 N)
    (h20 : t1.1 166 N = s1.1 20 N) (h20a : 1 ≤ k → k ≤ 4 → ∃ c, c < nc ∧ s1.1 20 N = nI c) (h20b : 5 ≤ k → k ≤ 9 → ∃ l, l < nl ∧ s1.1 20 N = nI l) (h21 : t1.1 167 N = s1.1 21 N) (h21a : (s1.1 21 N = -2 ∧ k ≠ 1) ∨ ∃ j, j < cl u ∧ s1.1 21 N = nI j) (hwd : k = 15 → wdR (s1.1 27 N) (t1.2.1 180 N)) (hst : k = 10 ∨ k = 11 → ∃ W p : Nat, (W < 128 ^ 8 ∧ W ≠ 0) ∧ s1.2.1 67 N = Int64.ofNat W ∧ t1.2.1 182 N = Int64.ofNat (w8 8 W) ∧ p ≤ 4000 ∧ s1.1 68 N = nI p ∧ t1.1 183 N = nI p)
    (hX : ∀ b : Bool, hxB k (decide (s1.1 1 9 = 59)) = b → ∀ t2 t3, (if b = true then qev en (e0 + 10) 276 [.ref 151, .int (nI N)] t1 = some (none, t2) else t2 = t1) → qev en (d' + 13) 252 [.ref 151, .int (59 : Int32)] t2 = some (none, t3) → X = some (none, t3)) : stmR (L_X6_readStatement_47 en D (nI N) dp (nI k) s1) X u B n s t V cl th nc nl nt m N := by
  obtain ⟨fD, rfl⟩ : ∃ fD, D = fD + 12 := ⟨D - 12, by omega⟩
  have hn' := hn
  obtain ⟨⟨n1, n2⟩, n3, n4, n5, n6, ⟨n7, n8⟩, ⟨n9, n9'⟩, ⟨n10, n10', n10'', n10'''⟩, n11⟩ := hn
  obtain ⟨s2, t2, e1, e2, e3, e4, e5, e6, ⟨e7, e7'⟩, ⟨e8, e8'⟩, e9⟩ := mid_al (en := en) (D := fD + 12) (d' := e0) (dp := dp) hE hB hN hk hk3.1 hD rfl ⟨m0, by omega, h176.1.trans n10, h176.2.1.trans n10'⟩
  have fx : stF N m s s2 := f.tr e3 (Nat.le_refl m)
  have fm : smF N m t t2 := g.tr e4 (Nat.le_refl m)
  have hL : (∃ (U' : Nat → Nat → Nat) (cl' : Nat → Nat) (i' m' : Nat), exS false 7 0 u B n s2 t2 V U' cl' nc nl nt i' m' ∧ m ≤ m' ∧ (∀ w, cl w ≤ cl' w) ∧ lnB s2 t2 nc nl nt m' cl' th N) ∨ rdD s2 t2 := by
    rcases e9 with ⟨U', cl', i', m', g1, g2, g3, g4, g5, g6⟩ | e9
    · refine Or.inl ⟨U', cl', i', m', g1, g2, g6, ?_⟩
      have c : ∀ a, 18 ≤ a → a ≤ 27 → a ≠ 18 → a ≠ 23 → a ≠ 24 → s2.1 a N = s1.1 a N := fun a a1 a2 a3 a4 a5 => by rw [e5 a a1 a2 a3 a4 a5]
      have c' : ∀ a, smW a = true → a ≠ 176 → a ≠ 177 → t2.1 a N = t1.1 a N := fun a a1 a2 a3 => by rw [e6 a a1 a2 a3]
      refine lnB_of hn' hth hu fx fm hk g3 ((c' 164 rfl (by decide) (by decide)).trans (h164.trans n3)) ((c 19 (by decide) (by decide) (by decide) (by decide) (by decide)).trans h19) ((c 22 (by decide) (by decide) (by decide) (by decide) (by decide)).trans h22) ?_ ?_ ?_ ?_ ?_ g4 ?_ (fun z => g5 (hxB_no z)) ?_ ?_ ?_
      · rw [c' 166 rfl (by decide) (by decide), c 20 (by decide) (by decide) (by decide) (by decide) (by decide)]; exact h20
      · rw [c 20 (by decide) (by decide) (by decide) (by decide) (by decide)]; exact h20a
      · rw [c 20 (by decide) (by decide) (by decide) (by decide) (by decide)]; exact h20b
      · rw [c' 167 rfl (by decide) (by decide), c 21 (by decide) (by decide) (by decide) (by decide) (by decide)]; exact h21
      · rw [c 21 (by decide) (by decide) (by decide) (by decide) (by decide)]
        rcases h21a with z | ⟨j, z1, z2⟩
        · exact Or.inl z
        · exact Or.inr ⟨j, Nat.lt_of_lt_of_le z1 (g6 u), z2⟩
      · exact exA_0 ((c 25 (by decide) (by decide) (by decide) (by decide) (by decide)).trans (h25.1.trans n9)) ((c 26 (by decide) (by decide) (by decide) (by decide) (by decide)).trans (h25.2.trans n9')) ((c' 178 rfl (by decide) (by decide)).trans (h176.2.2.1.trans n10'')) ((c' 179 rfl (by decide) (by decide)).trans (h176.2.2.2.trans n10''')) n11
      · intro _
        rw [c 25 (by decide) (by decide) (by decide) (by decide) (by decide), c 26 (by decide) (by decide) (by decide) (by decide) (by decide), h25.1, h25.2, n9, n9']
      · rw [c 27 (by decide) (by decide) (by decide) (by decide) (by decide), e7]; exact hwd
      · rw [e8, e8', e7', c' 183 rfl (by decide) (by decide)]; exact hst
    · exact Or.inr e9
  obtain ⟨s3, t3, a1, a2, a3, a4, a5⟩ := tail_al (en := en) (f := fD) (d' := d' + 9) (v := nI N) (dp := dp) hk3 hk hL
  refine ⟨s3, t3, e1 _ a1, hX _ rfl t2 t3 e2 a2, (wkX.st fx).tr a3, (wkM.sm fm).tr a4, ?_⟩
  rcases a5 with ⟨U', cl', i', m', g1, g2, g3, g4, g5, g6⟩ | a5
  · exact Or.inl ⟨U', cl', i', m', g1, g2, g3, g4, fx.tr (stF.tk g5) (Nat.le_refl m), fm.tr (smF.mv g6) (Nat.le_refl m)⟩
  · exact Or.inr a5
/-- a statement behind a fault: the rest of it -/
theorem stmD_al (hD : 140 ≤ D) (hN : N < 100) {s1 t1 : qS} {X : Option qR} (h7 : s1.2.2 65 7 = 8) (h : rdD s1 t1) (f : wkX s s1) (g : wkM t t1) (hX : ∀ F p, mtD t1 F p → ∃ t2, X = some (none, t2) ∧ mtD t2 F p ∧ wkM t1 t2) : stmR (L_X6_readStatement_47 en D (nI N) dp (nI k) s1) X u B n s t V cl th nc nl nt m N := by
  obtain ⟨fD, rfl⟩ : ∃ fD, D = fD + 12 := ⟨D - 12, by omega⟩
  obtain ⟨F', p', h1, h2⟩ := h
  obtain ⟨s2, e1, e2, e3⟩ := xD_47 (en := en) (d := fD) (dp := dp) (c := nI k) h1 h7 hN
  obtain ⟨t2, x1, x2, x3⟩ := hX F' p' h2
  exact ⟨s2, t2, e1, x1, f.tr e3, g.tr x3, Or.inr ⟨F', p', e2, x2⟩⟩
end STM
