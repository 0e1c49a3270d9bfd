/-! THE READER: facts of laws on both sides. -/
/-- what reading a law changes of the class -/
abbrev lwX (s s' : qS) : Prop := (∀ a, a ≠ 61 → a ≠ 62 → a ≠ 63 → a ≠ 65 → a ≠ 69 → ¬ sT a → s'.1 a = s.1 a) ∧ (∀ j, j ≠ 3 → s'.1 61 j = s.1 61 j) ∧ (∀ j, j < 8 ∨ 13 < j → s'.1 65 j = s.1 65 j) ∧ (∀ a, ¬ sT a ∨ a = 3 → s'.2.1 a = s.2.1 a) ∧ (∀ a k, ¬ sT a → ¬ (a = 65 ∧ k = 7) → s'.2.2 a k = s.2.2 a k) ∧ (frS sT s → frS sT s')
/-- what it changes of the model -/
def lwJ (j : Nat) : Bool := [1, 2, 3, 4, 6, 7, 8, 9, 10, 25, 28, 29, 31].contains j
abbrev lwM (t t' : qS) : Prop := (∀ a, a ≠ 151 → a ≠ 161 → a ≠ 162 → a ≠ 163 → t'.1 a = t.1 a) ∧ (∀ j, j < 400 → t'.1 161 j = t.1 161 j ∧ t'.1 162 j = t.1 162 j) ∧ (∀ j, lwJ j = false → t'.1 151 j = t.1 151 j) ∧ (∀ a, a ≠ 151 → t'.2.1 a = t.2.1 a) ∧ (∀ j, j ≠ 5 → t'.2.1 151 j = t.2.1 151 j) ∧ t'.2.2 = t.2.2
section LWA
variable {en : pN} {d d' k i n N j r v u m m' c nc nl nt q z D : Nat} {V cl th K : Nat → Nat} {U : Nat → Nat → Nat} {s s' s'' t t' t'' : qS} {B : Nat → Nat} {w : Int32} {F p : Nat}
theorem frS_eq (h : s'.2.2 = s.2.2) (g : frS sT s) : frS sT s' := fun a k ha hk => by
  rw [h] at hk ⊢
  exact g a k ha hk
theorem lwX.rf : lwX s s := ⟨fun _ _ _ _ _ _ _ => rfl, fun _ _ => rfl, fun _ _ => rfl, fun _ _ => rfl, fun _ _ _ _ => rfl, fun h => h⟩
theorem lwX.tr (h : lwX s s') (g : lwX s' s'') : lwX s s'' := ⟨fun a h1 h2 h3 h4 h5 h6 => (g.1 a h1 h2 h3 h4 h5 h6).trans (h.1 a h1 h2 h3 h4 h5 h6), fun j a => (g.2.1 j a).trans (h.2.1 j a), fun j a => (g.2.2.1 j a).trans (h.2.2.1 j a), fun a h1 => (g.2.2.2.1 a h1).trans (h.2.2.2.1 a h1), fun a k h1 h2 => (g.2.2.2.2.1 a k h1 h2).trans (h.2.2.2.2.1 a k h1 h2), fun z => g.2.2.2.2.2 (h.2.2.2.2.2 z)⟩
theorem lwX.rx (h : rxF true 61 m s s') : lwX s s' := ⟨fun a h1 h2 h3 h4 _ h6 => h.1 a (fun z => h6 (z ▸ sT_1)) (Or.inr rfl) h1 h2 h3 h4, h.2.2.1, fun j hj => h.2.2.2.2.1 j (by omega) (by omega) (by omega), fun a h1 => h.2.2.2.2.2.1 a (fun z => by rcases h1 with h1 | h1; exact h1 (z ▸ sT_1); omega) (Or.inr rfl), fun a k _ _ => by rw [h.2.2.2.2.2.2], frS_eq h.2.2.2.2.2.2⟩
theorem lwX.tk (h : tnF s s') : lwX s s' := lwX.rx (m := 0) (rxF.tk h (Or.inr rfl))
theorem lwX.bm (h : bmF s s') : lwX s s' := lwX.tk (tnF.bm h)
theorem lwX.ui : lwX s (uI s 69 j w) := ⟨fun a _ _ _ _ h _ => uI_ne h, fun j _ => by rw [uI_ne (by decide)], fun j _ => by rw [uI_ne (by decide)], fun _ _ => rfl, fun _ _ _ _ => rfl, fun h => h⟩
theorem lwX.uf (hj : 8 ≤ j ∧ j ≤ 13) : lwX s (uI s 65 j w) := ⟨fun a _ _ _ h _ _ => uI_ne h, fun j _ => by rw [uI_ne (by decide)], fun i hi => by rw [rdU, if_neg (by omega)], fun _ _ => rfl, fun _ _ _ _ => rfl, fun h => h⟩
theorem lwX.ox (h : oxF 61 s s') (h3 : s'.2.1 3 = s.2.1 3) (hz : frS sT s') : lwX s s' := ⟨fun a h1 _ _ h4 _ h6 => h.1 a h4 h1 h6, h.2.1, fun j hj => h.2.2.1 j (by omega) (by omega) (by omega) (by omega), fun a ha => by
  rcases ha with ha | ha
  · exact h.2.2.2.1 a ha
  · rw [ha]; exact h3, h.2.2.2.2, fun _ => hz⟩
theorem lwM.rf : lwM t t := ⟨fun _ _ _ _ _ => rfl, fun _ _ => ⟨rfl, rfl⟩, fun _ _ => rfl, fun _ _ => rfl, fun _ _ => rfl, rfl⟩
theorem lwM.tr (h : lwM t t') (g : lwM t' t'') : lwM t t'' := ⟨fun a h1 h2 h3 h4 => (g.1 a h1 h2 h3 h4).trans (h.1 a h1 h2 h3 h4), fun j a => ⟨(g.2.1 j a).1.trans (h.2.1 j a).1, (g.2.1 j a).2.trans (h.2.1 j a).2⟩, fun j a => (g.2.2.1 j a).trans (h.2.2.1 j a), fun a h1 => (g.2.2.2.1 a h1).trans (h.2.2.2.1 a h1), fun j a => (g.2.2.2.2.1 j a).trans (h.2.2.2.2.1 j a), g.2.2.2.2.2.trans h.2.2.2.2.2⟩
theorem lwJ_mv (h : lwJ j = false) : mvJ j = false := by
  cases hm : mvJ j with
  | false => rfl
  | true =>
    exfalso
    unfold mvJ at hm
    simp only [List.contains_cons, List.contains_nil, Bool.or_false, Bool.or_eq_true, beq_iff_eq] at hm
    rcases hm with rfl | rfl | rfl | rfl | rfl | rfl | rfl | rfl | rfl <;> cases h
theorem lwM.rm (h : rmF true c t t') (hc : 400 ≤ c) : lwM t t' := ⟨fun a h1 h2 h3 h4 => h.1 a h1 (Or.inr rfl) h2 h3 h4, fun j hj => h.2.2.1 j (by omega), fun j hj => h.2.1 j (lwJ_mv hj), fun a h1 => h.2.2.2.1 a h1 (Or.inr rfl), h.2.2.2.2.1, h.2.2.2.2.2⟩
theorem lwM.mv (h : mvF t t') : lwM t t' := lwM.rm (c := 400) (rmF.mv h) (Nat.le_refl _)
theorem lwM.uf (hj : lwJ j = true) : lwM t (uI t 151 j w) := ⟨fun a h1 _ _ _ => uI_ne h1, fun _ _ => ⟨by rw [uI_ne (by decide)], by rw [uI_ne (by decide)]⟩, fun i hi => by rw [rdU, if_neg (fun z => by rw [z.2, hj] at hi; cases hi)], fun _ _ => rfl, fun _ _ => rfl, rfl⟩
/-- both stand in a law, m nodes are put -/
abbrev lwS (B : Nat → Nat) (n : Nat) (s t : qS) (V : Nat → Nat) (U : Nat → Nat → Nat) (cl : Nat → Nat) (nc nl nt i m : Nat) : Prop := exS true 61 400 0 B n s t V U cl nc nl nt i m
theorem nmR_x (h : nmR s t V U cl nc nl nt) {a : Nat} (h1 : a ≠ 11) (h2 : a ≠ 14) : nmR (uI s a i w) t V U cl nc nl nt := by
  obtain ⟨g1, ⟨g2, g3, g4⟩, g5, g6, g7, g8⟩ := h
  exact ⟨g1, ⟨by rw [uI_ne (Ne.symm h1)]; exact g2, by rw [uI_ne (Ne.symm h1)]; exact g3, by rw [uI_ne (Ne.symm h1)]; exact g4⟩, g5, g6, g7, fun u hu => by rw [uI_ne (Ne.symm h2)]; exact g8 u hu⟩
theorem lwS_69 (h : lwS B n s t V U cl nc nl nt i m) : lwS B n (uI s 69 j w) t V U cl nc nl nt i m := by
  obtain ⟨h1, h2, h3, h4, h5, h6⟩ := h
  exact ⟨rdL_xi h1 (by decide) (by decide) (by decide) (by decide), nmR_x h2 (by decide) (by decide), by rw [uI_ne (by decide)]; exact h3, by rw [uI_ne (by decide)]; exact h4, by rw [uI_ne (by decide)]; exact h5, by rw [uI_ne (by decide)]; exact h6⟩
theorem lwS_f (h : lwS B n s t V U cl nc nl nt i m) (hj : j = 9 ∨ j = 10) : lwS B n (uI s 65 j w) t V U cl nc nl nt i m := by
  obtain ⟨h1, h2, h3, ⟨h4, h4'⟩, h5, h6⟩ := h
  refine ⟨⟨cL_fr h1.1 (fun _ _ => by rw [uI_ne (by decide)]) (uI_ne (by decide)) (uI_ne (by decide)) rfl rfl rfl (fun i hi => by rw [rdU, if_neg (by omega)]), h1.2⟩, nmR_x h2 (by decide) (by decide), ⟨by rw [rdU, if_neg (by omega)]; exact h3.1, h3.2⟩, ⟨h4, fun z => by cases z⟩, ⟨by rw [rdU, if_neg (by omega)]; exact h5.1, h5.2⟩, by rw [uI_ne (by decide)]; exact h6⟩
theorem lwS_tk (h : lwS B n s t V U cl nc nl nt i m) (f : tnF s s') (g : mvF t t') {i' : Nat} (hl : rdL s' t' B n i') : lwS B n s' t' V U cl nc nl nt i' m := by
  obtain ⟨h1, h2, ⟨h3, h3'⟩, ⟨h4, h4'⟩, ⟨h5, h6, h7⟩, h8, h9⟩ := h
  exact ⟨hl, nmR_fr h2 (Or.inr rfl) (rxF.tk (m := 0) f (Or.inr rfl)) (rmF.mv (c := 0) g), ⟨by rw [f.2.2.1 8 (by decide) (by decide)]; exact h3, by rw [g.2.1 29 (by decide) (by decide) (by decide) (by decide) (by decide) (by decide)]; exact h3'⟩, ⟨by rw [f.2.2.2.2]; exact h4, fun z => by cases z⟩, ⟨by rw [f.2.2.1 13 (by decide) (by decide)]; exact h5, by rw [g.2.1 28 (by decide) (by decide) (by decide) (by decide) (by decide) (by decide)]; exact h6, h7⟩, by rw [f.1 61 (by decide) (by decide)]; exact h8, by rw [g.2.1 25 (by decide) (by decide) (by decide) (by decide) (by decide) (by decide)]; exact h9⟩
/-- the class reads a fact -/
theorem x_142 (hz : z < 2) (h7 : s.2.2 65 7 = 62) (hD : qev en d 134 [.ref 65, .int (0 : Int32), .int (1 : Int32)] (uI s 69 (2 * z) (s.1 61 3)) = some (none, s')) (h7' : s'.2.2 65 7 = 62) : qev en (d + 1) 142 [.ref 65, .int (nI z)] s = some (none, uI s' 69 (2 * z + 1) (s'.1 61 3)) := by
  refine le_X6_readFact en _ _ _ _ ?_
  have l61 : lc 61 = 4 := rfl
  rw [gd_true (show s.2.2 65 7 ≠ 0 ∧ lc (s.2.2 65 7 - 1) = 4 by rw [h7]; exact ⟨by decide, l61⟩), h7, nm_eq, show (2 : Int32) * nI z = nI (2 * z) from n_ml, gd_in (by omega) (by decide), n_cl (by omega), nm_eq]
  show bV (qev en d 134 [.ref 65, .int (0 : Int32), .int (1 : Int32)] (uI s 69 (2 * z) (s.1 61 3))) _ = _
  rw [hD, bV_some, gd_true (show s'.2.2 65 7 ≠ 0 ∧ lc (s'.2.2 65 7 - 1) = 4 by rw [h7']; exact ⟨by decide, l61⟩), h7', nm_eq, show nI (2 * z) + (1 : Int32) = nI (2 * z + 1) from n_ar, gd_in (by omega) (by decide), n_cl (by omega), nm_eq]
/-- a fact on both sides -/
theorem fact_al (h : lwS B n s t V U cl nc nl nt i m) (hB : ∀ j, j < n → B j < 256) (hz : z < 2) : ∃ s' t', qev en (d + 131) 142 [.ref 65, .int (nI z)] s = some (none, s') ∧ qev en (d' + 9) 268 [.ref 151] t = some (some (.int (nI (400 + m))), t') ∧ lwX s s' ∧ lwM t t' ∧ (∀ j, j < m → s'.1 62 j = s.1 62 j ∧ s'.1 63 j = s.1 63 j ∧ t'.1 161 (400 + j) = t.1 161 (400 + j) ∧ t'.1 162 (400 + j) = t.1 162 (400 + j)) ∧ (∀ j, j ≠ 2 * z → j ≠ 2 * z + 1 → s'.1 69 j = s.1 69 j) ∧ (s'.1 65 9 = s.1 65 9 ∧ s'.1 65 10 = s.1 65 10) ∧ s'.2.2 65 7 = 62 ∧ ((∃ (U' : Nat → Nat → Nat) (cl' : Nat → Nat) (i' m' : Nat), lwS B n s' t' V U' cl' nc nl nt i' m' ∧ m < m' ∧ ndZ true 0 s' t' 61 400 m m' ∧ gw (s'.1 62) (s'.1 63) m m' ∧ s'.1 69 (2 * z) = nI m ∧ s'.1 69 (2 * z + 1) = nI m') ∨ rdD s' t') := by
  have hq : plcQ true 61 400 := Or.inr ⟨rfl, rfl, rfl⟩
  have h1 := lwS_69 (j := 2 * z) (w := s.1 61 3) h
  have h7 : s.2.2 65 7 = 62 := h.2.2.2.1.1
  have h61 : s.1 61 3 = nI m := h.2.2.2.2.2.1
  obtain ⟨s1, t1, e1, e2, e3, e4, e5⟩ := exp_al (en := en) (d' := d') (D := d + 130) h1 hq hB (by omega)
  have h7' : s1.2.2 65 7 = 62 := by rw [e3.2.2.2.2.2.2]; exact h7
  have hX := x_142 (en := en) hz h7 e1 h7'
  have r69 : s1.1 69 = (uI s 69 (2 * z) (s.1 61 3)).1 69 := e3.1 69 (by decide) (Or.inr rfl) (by decide) (by decide) (by decide) (by decide)
  have r65 : ∀ j, j = 9 ∨ j = 10 → s1.1 65 j = s.1 65 j := fun j hj => (e3.2.2.2.2.1 j (by omega) (by omega) (by omega)).trans (by rw [uI_ne (by decide)])
  refine ⟨uI s1 69 (2 * z + 1) (s1.1 61 3), t1, hX, e2, (lwX.ui.tr (lwX.rx e3)).tr lwX.ui, lwM.rm e4 (Nat.le_add_right 400 m), fun j hj => ⟨?_, ?_, (e4.2.2.1 (400 + j) (by omega)).1, (e4.2.2.1 (400 + j) (by omega)).2⟩, fun j j1 j2 => ?_, ⟨?_, ?_⟩, h7', ?_⟩
  · rw [uI_ne (by decide), (e3.2.2.2.1 j hj).1, uI_ne (by decide)]
  · rw [uI_ne (by decide), (e3.2.2.2.1 j hj).2, uI_ne (by decide)]
  · rw [rdU, if_neg (fun y => j2 y.2), r69, rdU, if_neg (fun y => j1 y.2)]
  · rw [uI_ne (by decide)]; exact r65 9 (by omega)
  · rw [uI_ne (by decide)]; exact r65 10 (by omega)
  · rcases e5 with ⟨U', cl', i', m', g1, g2, g3, g4, -⟩ | ⟨e5, -⟩
    · refine Or.inl ⟨U', cl', i', m', lwS_69 g1, g2, fun j j1 j2 => nd1_eq (g3 j j1 j2) (by rw [uI_ne (by decide)]) (by rw [uI_ne (by decide)]) rfl rfl, by rw [uI_ne (by decide), uI_ne (by decide)]; exact g4, ?_, ?_⟩
      · rw [rdU, if_neg (by omega), r69, rdW]; exact h61
      · rw [rdW]; exact g1.2.2.2.2.2.1
    · exact Or.inr (rdD_ui e5 (by decide) (by decide))
/-- a fact behind a fault -/
theorem xD_142 (h : dX s F p) (h7 : s.2.2 65 7 = 62) (hz : z < 2) : ∃ s', qev en (d + 13) 142 [.ref 65, .int (nI z)] s = some (none, s') ∧ dX s' F p ∧ lwX s s' ∧ s'.2.2 65 7 = 62 ∧ s'.1 65 9 = s.1 65 9 ∧ s'.1 65 10 = s.1 65 10 := by
  obtain ⟨s1, e1, e2, e3⟩ := xD_134 (en := en) (d := d) (dX_ui (j := 2 * z) (v := s.1 61 3) (a := 69) h (by decide) (by decide))
  have h7' : s1.2.2 65 7 = 62 := by rw [e2.2.2.2]; exact h7
  refine ⟨_, x_142 (en := en) hz h7 e1 h7', dX_ui e3 (by decide) (by decide), (lwX.ui.tr (lwX.bm e2)).tr lwX.ui, h7', ?_, ?_⟩
  · rw [uI_ne (by decide), e2.2.2.1 9 (by decide) (by decide), uI_ne (by decide)]
  · rw [uI_ne (by decide), e2.2.2.1 10 (by decide) (by decide), uI_ne (by decide)]
end LWA
