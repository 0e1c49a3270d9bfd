/-! THE READER: what stands behind a statement's first word, on both sides. -/
/-- the call's words' numbers, base 128 -/
def CWN : List Nat := [32184629861, 240742628, 236665587, 236812776, 1849328, 1850100, 1700596]
/-- but for row r the line's rows are kept -/
abbrev kpX (r : Nat) (s s' : qS) : Prop := (∀ a, 18 ≤ a → a ≤ 27 → a ≠ r → s'.1 a = s.1 a) ∧ s'.1 68 = s.1 68 ∧ s'.2.1 67 = s.2.1 67
abbrev kpM (r : Nat) (t t' : qS) : Prop := (∀ a, smW a = true → a ≠ r → t'.1 a = t.1 a) ∧ t'.2.1 180 = t.2.1 180 ∧ t'.2.1 182 = t.2.1 182
/-- the model's question, whether a name fits, and on -/
abbrev fitM (en : pN) (d : Nat) (b : Bool) (t t' : qS) : Prop := ∃ tm, qev en d 245 [.ref 151, .int (bt b), .int (3 : Int32)] t = some (none, tm) ∧ qev en d 249 [.ref 151] tm = some (none, t')
section NMS
variable {en : pN} {d d' k i i' n N j x y r m u F p nc nl nt : Nat} {V cl : Nat → Nat} {U : Nat → Nat → Nat} {s s' s'' t t' t'' : qS} {B : Nat → Nat} {v w : Int32}
theorem exS_tk (h : exS false 7 0 u B n s t V U cl nc nl nt i m) (f : tnF s s') (g : mvF t t') (hl : rdL s' t' B n i') : exS false 7 0 u B n s' t' V U cl nc nl nt i' m := by
  obtain ⟨h1, h2, ⟨h3, h3'⟩, ⟨h4, h5⟩, ⟨h6, h7, h7'⟩, h8, h9⟩ := h
  have e7 : s'.1 7 = s.1 7 := f.1 7 (by decide) (by decide)
  have g151 : ∀ j, j = 25 ∨ j = 28 ∨ j = 29 → t'.1 151 j = t.1 151 j := fun j hj => g.2.1 j (by omega) (by omega) (by omega) (by omega) (by omega) (by omega)
  exact ⟨hl, nmR_fr h2 (Or.inl rfl) (rxF.tk (m := 0) f (Or.inl rfl)) (rmF.mv (c := 0) g), ⟨by rw [f.2.2.1 8 (by decide) (by decide)]; exact h3, by rw [g151 29 (by decide)]; exact h3'⟩, ⟨by rw [f.2.2.2.2]; exact h4, by rw [f.2.2.1 14 (by decide) (by decide)]; exact h5⟩, ⟨by rw [f.2.2.1 13 (by decide) (by decide)]; exact h6, by rw [g151 28 (by decide)]; exact h7, h7'⟩, by rw [e7]; exact h8, by rw [g151 25 (by decide)]; exact h9⟩
theorem kpX.rf : kpX r s s := ⟨fun _ _ _ _ => rfl, rfl, rfl⟩
theorem kpX.tr (h : kpX r s s') (g : kpX r s' s'') : kpX r s s'' := ⟨fun a h1 h2 h3 => (g.1 a h1 h2 h3).trans (h.1 a h1 h2 h3), g.2.1.trans h.2.1, g.2.2.trans h.2.2⟩
theorem kpX.rx (h : rxF false 7 m s s') : kpX r s s' := ⟨fun a h1 h2 _ => h.1 a (by omega) (Or.inl (by omega)) (by omega) (by omega) (by omega) (by omega), h.1 68 (by decide) (Or.inl (by decide)) (by decide) (by decide) (by decide) (by decide), h.2.2.2.2.2.1 67 (by decide) (Or.inl (by decide))⟩
theorem kpX.tk (h : tnF s s') : kpX r s s' := kpX.rx (m := 0) (rxF.tk h (Or.inl rfl))
theorem kpX.ui (hr : r ≠ 68) : kpX r s (uI s r j v) := ⟨fun a _ _ h => uI_ne h, uI_ne (Ne.symm hr), rfl⟩
theorem kpX.wk (h : kpX 0 s s') : kpX r s s' := ⟨fun a h1 h2 _ => h.1 a h1 h2 (by omega), h.2⟩
theorem kpM.rf : kpM r t t := ⟨fun _ _ _ => rfl, rfl, rfl⟩
theorem kpM.tr (h : kpM r t t') (g : kpM r t' t'') : kpM r t t'' := ⟨fun a h1 h2 => (g.1 a h1 h2).trans (h.1 a h1 h2), g.2.1.trans h.2.1, g.2.2.trans h.2.2⟩
theorem kpM.rm (h : rmF false m t t') : kpM r t t' := ⟨fun a h1 _ => by
  have := smW_lt h1
  exact h.1 a (by omega) (Or.inl (by omega)) (by omega) (by omega) (by omega), h.2.2.2.1 180 (by decide) (Or.inl (by decide)), h.2.2.2.1 182 (by decide) (Or.inl (by decide))⟩
theorem kpM.mv (h : mvF t t') : kpM r t t' := kpM.rm (m := 0) (rmF.mv h)
theorem kpM.ui : kpM r t (uI t r j v) := ⟨fun a _ h => uI_ne h, rfl, rfl⟩
theorem stF.tk (h : tnF s s') : stF N m s s' := stF.rx (rxF.tk h (Or.inl rfl))
theorem smF.mv (h : mvF t t') : smF N m t t' := smF.rm (rmF.mv h)
/-- a fault at the token at hand, whatever is written beside -/
theorem fault_st (h : exS false 7 0 u B n s t V U cl nc nl nt i m) (hk : k ≠ 0 ∧ k < 16) : ∃ t', qev en (d' + 2) 245 [.ref 151, .int 0, .int (nI k)] t = some (none, t') ∧ mvF t t' ∧ rdD (bmS s (nI k)) t' := by
  obtain ⟨t', w1, w2, w3, w4⟩ := fault_al (en := en) (d' := d') (k := k) h.1 hk
  exact ⟨t', w1, w2, k, _, w3, w4⟩
theorem rdD_ui {a : Nat} (h : rdD s t) (ha : a ≠ 1) (hb : a ≠ 65) : rdD (uI s a j v) t := by
  obtain ⟨F, p, h1, h2⟩ := h
  exact ⟨F, p, dX_ui h1 ha hb, h2⟩
theorem rdD_mi {a : Nat} (h : rdD s t) (ha : a ≠ 151) : rdD s (uI t a j v) := by
  obtain ⟨F, p, h1, h2⟩ := h
  exact ⟨F, p, h1, mtD_fr h2 (by rw [uI_ne (Ne.symm ha)]) (by rw [uI_ne (Ne.symm ha)])⟩
theorem rdD_bm {k : Int32} (h : rdD s t) : rdD (bmS s k) t := by
  obtain ⟨F, p, h1, h2⟩ := h
  exact ⟨F, p, bmS_dead h1, h2⟩
theorem rdD_x (h : rdD s t) {Q : Prop} (f : ∀ F p, dX s F p → mtD t F p → Q) : Q := by
  obtain ⟨F, p, h1, h2⟩ := h
  exact f F p h1 h2
theorem ln166 : smW 166 = true := rfl
/-- the class needs a word: it goes on -/
theorem x_need2 (h : exS false 7 0 u B n s t V U cl nc nl nt i m) (h2 : tkK B n i = 2) (g : qev en (d + 1) 167 [.ref 1] s = some (none, s')) : qev en (d + 2) 115 [.ref 65, .int (2 : Int32)] s = some (none, s') := by
  rcases x_need (en := en) (k := 2) h.1 ⟨by omega, by omega⟩ with ⟨_, f⟩ | ⟨f, _⟩
  · exact f d s' g
  · exact absurd h2 f
theorem x_need2F (h : exS false 7 0 u B n s t V U cl nc nl nt i m) (h2 : tkK B n i ≠ 2) : qev en (d + 2) 115 [.ref 65, .int (2 : Int32)] s = some (none, bmS s 2) := by
  rcases x_need (en := en) (k := 2) h.1 ⟨by omega, by omega⟩ with ⟨f, _⟩ | ⟨_, f⟩
  · exact absurd f h2
  · exact f d
/-- a name that must be of some kind: b tells whether it is -/
theorem named_al (hE : exS false 7 0 u B n s t V U cl nc nl nt i m) (hN : N < 100) (h2 : tkK B n i = 2) {b : Bool} {vX vM : Int32} (hv : b = true → vX = vM) :
    ∃ s' t', qev en (d + 4) 130 [.ref 65, .int (nI N), .int (bt b), .int vX] s = some (none, s') ∧ fitM en (d' + 3) b (uI t 166 N vM) t' ∧ stF N m s s' ∧ smF N m t t' ∧ kpX 20 s s' ∧ kpM 166 t t' ∧ ((b = true ∧ ∃ i', exS false 7 0 u B n s' t' V U cl nc nl nt i' m ∧ s'.1 20 N = vX ∧ t'.1 166 N = vX) ∨ rdD s' t') := by
  obtain ⟨hi, c1, -, -⟩ := cL_at hE.1.1
  have c9 : s.1 1 9 = 2 := by rw [c1, h2]; rfl
  have hM := exS_mi (j := N) (v := vM) hE (show 164 ≤ 166 by decide)
  have fM : smF N m t (uI t 166 N vM) := smF.ui rfl
  cases b with
  | true =>
    have hv := hv rfl
    subst hv
    have hE1 := exS_ui (j := N) (v := vX) hM (Or.inl ⟨by decide, by decide⟩ : 15 ≤ 20 ∧ 20 ≤ 35 ∨ 20 = 68)
    obtain ⟨s1, t1, e1, e2, e3, e4, e5⟩ := adv_al (en := en) (d := d + 1) (d' := d') hE1.1 (by omega)
    have eM : fitM en (d' + 3) true (uI t 166 N vX) t1 := ⟨_, m_needT, e2⟩
    refine ⟨s1, t1, ?_, eM, (stF.ui (by decide)).tr (stF.tk (tnF.ad e3)) (Nat.le_refl m), fM.tr (smF.mv e4) (Nat.le_refl m), (kpX.ui (by decide)).tr (kpX.tk (tnF.ad e3)), kpM.ui.tr (kpM.mv e4), ?_⟩
    · refine le_X6_needName en _ _ _ _ _ _ ?_
      rw [if_neg (not_not_intro c9), if_pos (by decide)]
      refine le_X6_needName_20 en _ _ _ _ _ ?_
      rw [gd_in (by omega) (by decide), n_cl (by omega), nm_eq, x_need2 (d := d + 1) hE1 h2 e1, bV_some]
    · rcases e5 with e5 | e5
      · refine Or.inl ⟨rfl, i + 1, exS_tk hE1 (tnF.ad e3) e4 e5, ?_, ?_⟩
        · rw [e3.1 20 (by decide), rdW]
        · rw [e4.1 166 (by decide), rdW]
      · exact Or.inr e5
  | false =>
    obtain ⟨t1, w1, w2, w3⟩ := fault_st (en := en) (d' := d' + 1) (k := 3) hM ⟨by decide, by decide⟩
    have w1' : qev en (d' + 3) 245 [.ref 151, .int (bt false), .int (3 : Int32)] (uI t 166 N vM) = some (none, t1) := w1
    have eM : fitM en (d' + 3) false (uI t 166 N vM) t1 := ⟨t1, w1', by
      obtain ⟨F, p, g1, g2⟩ := w3
      rw [show d' + 3 = d' + 1 + 2 from rfl, m_nextD g2]⟩
    have hD1 := rdD_ui (j := N) (v := vX) w3 (show 20 ≠ 1 by decide) (show 20 ≠ 65 by decide)
    refine ⟨bmS (uI (bmS s 3) 20 N vX) 2, t1, ?_, eM, ((stF.tk (tnF.bm bmS_F)).tr (stF.ui (by decide)) (Nat.le_refl m)).tr (stF.tk (tnF.bm bmS_F)) (Nat.le_refl m), fM.tr (smF.mv w2) (Nat.le_refl m), ((kpX.tk (tnF.bm bmS_F)).tr (kpX.ui (by decide))).tr (kpX.tk (tnF.bm bmS_F)), kpM.ui.tr (kpM.mv w2), Or.inr (rdD_bm hD1)⟩
    refine le_X6_needName en _ _ _ _ _ _ ?_
    rw [if_neg (not_not_intro c9), if_neg (show ¬ ¬ bt false = (0 : Int32) from not_not_intro rfl), x_blame, bV_some]
    refine le_X6_needName_20 en _ _ _ _ _ ?_
    rw [gd_in (by omega) (by decide), n_cl (by omega), nm_eq]
    obtain ⟨F, p, g1, g2⟩ := hD1
    have g1' : dX (uI (bmS s 3) 20 N vX) F p := g1
    have g1'' := xDn2 (en := en) (d := d + 1) g1'
    rw [show (d + 1) + 2 = d + 3 from rfl] at g1''
    show bV (qev en (d + 3) 115 [.ref 65, .int (2 : Int32)] (uI (bmS s 3) 20 N vX)) _ = _
    rw [g1'', bV_some]
/-- no name at all -/
theorem noname_al (hE : exS false 7 0 u B n s t V U cl nc nl nt i m) (hN : N < 100) (h2 : tkK B n i ≠ 2) {w : Int32} : ∃ t', qev en (d + 4) 130 [.ref 65, .int (nI N), .int w, .int v] s = some (none, bmS (uI s 20 N v) 2) ∧ qev en (d' + 2) 245 [.ref 151, .int 0, .int (2 : Int32)] t = some (none, t') ∧ mvF t t' ∧ rdD (bmS (uI s 20 N v) 2) t' ∧ stF N m s (bmS (uI s 20 N v) 2) ∧ kpX 20 s (bmS (uI s 20 N v) 2) := by
  obtain ⟨hi, c1, -, -⟩ := cL_at hE.1.1
  have hx := tkK_lt hi
  have c9 : ¬ s.1 1 9 = (2 : Int32) := by rw [c1, n_eq (by decide) (by omega)]; exact h2
  have hE1 := exS_ui (j := N) (v := v) hE (Or.inl ⟨by decide, by decide⟩ : 15 ≤ 20 ∧ 20 ≤ 35 ∨ 20 = 68)
  obtain ⟨t1, w1, w2, w3⟩ := fault_st (en := en) (d' := d') (k := 2) hE1 ⟨by decide, by decide⟩
  refine ⟨t1, ?_, w1, w2, w3, (stF.ui (by decide)).tr (stF.tk (tnF.bm bmS_F)) (Nat.le_refl m), (kpX.ui (by decide)).tr (kpX.tk (tnF.bm bmS_F))⟩
  refine le_X6_needName en _ _ _ _ _ _ ?_
  rw [if_pos c9]
  refine le_X6_needName_20 en _ _ _ _ _ ?_
  rw [gd_in (by omega) (by decide), n_cl (by omega), nm_eq, x_need2F (d := d + 1) hE1 h2, bV_some]
end NMS
