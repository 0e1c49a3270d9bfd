/-! A LAW READ AND JUDGED, both sides: the call. -/
section JAM
variable {en : pN} {d d' k i n N j r v u m m' c nc nl nt q z D e e2 a w vv n' p : Nat} {V cl th K : Nat → Nat} {U : Nat → Nat → Nat} {s s' s'' t t' t'' : qS} {B : Nat → Nat} {v1 v2 v3 v4 : Int32} {F : Nat} {fr fw : Bool} {P : Nat → fI} {X : xT} {O Q : fI} {wi : Int32}
/-- the model's end of a law -/
def jeS (t : qS) (F : Nat) (w : Int32) : qS := uI (uI (uI (uI t 151 1 0) 151 9 (nI F)) 151 10 w) 151 29 0
theorem lwM.je : lwM t (jeS t F wi) := (((lwM.uf rfl).tr (lwM.uf rfl)).tr (lwM.uf rfl)).tr (lwM.uf rfl)
theorem jeS_f : (jeS t F wi).1 151 j = if j = 29 then 0 else if j = 10 then wi else if j = 9 then nI F else if j = 1 then 0 else t.1 151 j := by
  unfold jeS
  rw [rdU, rdU, rdU, rdU]
  by_cases h2 : j = 29
  · rw [if_pos ⟨rfl, h2⟩, if_pos h2]
  rw [if_neg (fun z => h2 z.2), if_neg h2]
  by_cases h3 : j = 10
  · rw [if_pos ⟨rfl, h3⟩, if_pos h3]
  rw [if_neg (fun z => h3 z.2), if_neg h3]
  by_cases h4 : j = 9
  · rw [if_pos ⟨rfl, h4⟩, if_pos h4]
  rw [if_neg (fun z => h4 z.2), if_neg h4]
  by_cases h5 : j = 1
  · rw [if_pos ⟨rfl, h5⟩, if_pos h5]
  rw [if_neg (fun z => h5 z.2), if_neg h5]
theorem m_262 (h7 : t.1 151 7 = nI F) (hF : F < 16) (hw : (if F = 0 then -2 else t.1 151 8) = wi) : ∀ r, (if F = 0 then (if v1 ≤ (3 : Int32) then L_X12_judge_306 en (d + 1) v1 v2 v3 v4 (t.1 151 25) (jeS t F wi) else if (t.1 151 100) = (0 : Int32) then L_X12_judge_306 en (d + 1) v1 v2 v3 v4 (t.1 151 25) (jeS t F wi) else some (some (.int (-1 : Int32)), jeS t F wi)) else some (some (.int ((-10 : Int32) - nI F)), jeS t F wi)) = some r → L_X12_judge_262 en (d + 1) v1 v2 v3 v4 t = some r := fun r hr => by
  refine le_X12_judge_262 en _ _ _ _ _ _ _ ?_
  rw [m_endR h7 hF hw, bV_some, nm_eq]
  show (if (jeS t F wi).1 151 9 = (0 : Int32) then if v1 ≤ (3 : Int32) then L_X12_judge_306 en (d + 1) v1 v2 v3 v4 (t.1 151 25) (jeS t F wi) else if ((jeS t F wi).1 151 100) = (0 : Int32) then L_X12_judge_306 en (d + 1) v1 v2 v3 v4 (t.1 151 25) (jeS t F wi) else some (some (.int (-1 : Int32)), jeS t F wi) else some (some (.int ((-10 : Int32) - ((jeS t F wi).1 151 9))), jeS t F wi)) = some r
  have e9 : (jeS t F wi).1 151 9 = nI F := by rw [jeS_f, if_neg (by decide), if_neg (by decide), if_pos rfl]
  have e100 : (jeS t F wi).1 151 100 = t.1 151 100 := by rw [jeS_f, if_neg (by decide), if_neg (by decide), if_neg (by decide), if_neg (by decide)]
  rw [e9, e100]
  by_cases q : F = 0
  · rw [if_pos q] at hr
    rw [if_pos (by rw [q]; rfl)]
    exact hr
  · rw [if_neg q] at hr
    rw [if_neg (by rw [n_eq (by decide) (by omega)]; exact q)]
    exact hr
theorem judge_alike (hT : TX s n B) (hM : MX t n B) (hz : frS sT s) (hky : ∀ j, j < 33 → s.2.1 3 j = Int64.ofNat (KN.getD j 0)) (hn : nmR s t V U cl nc nl nt) (hP : PV P nc nl nt n') (hw2 : w ≤ 2) (hX : XV P w nc nl nt n' X) (hJ : XJ X (xN X + 1)) (hx : EXx P w nc nl nt n' p fw X s) (hm : EXm P w nc nl nt n' fw X t) (hp : p = 11 ∨ p = 36) (h103 : s.1 103 11 = 0) : ∃ (s' t' : qS) (v : Int32) (F : Nat), qev en (d + 133) 232 [.ref 0] s = some (some (.int v), s') ∧ qev en (d' + 12) 392 [.ref 151] t = some (some (.int v), t') ∧ EXx P w nc nl nt n' p fw X s' ∧ EXm P w nc nl nt n' fw X t' ∧ s'.1 103 11 = 0 ∧ (s.1 0 13 = t.1 151 131 → s'.1 0 13 = t'.1 151 131) ∧ (s'.1 65 11 = nI F ∧ t'.1 151 9 = nI F ∧ F < 16 ∧ t'.1 151 10 = s'.1 65 12) ∧ (s'.1 1 5 = 0 ∧ t'.1 151 1 = 0) ∧ jdX s s' ∧ jdM t t' ∧ frS sT s' ∧ ∀ j, j < 33 → s'.2.1 3 j = Int64.ofNat (KN.getD j 0) := by
  obtain ⟨hf18, hf17⟩ := x_fewer hx
  obtain ⟨-, -, -, hf98, -, hf100⟩ := hm.flat
  have hB : ∀ j, j < n → B j < 256 := hT.byte
  have n0 : ¬ sT 0 := fun h => absurd h.1 (by decide)
  have n70 : ¬ sT 70 := fun h => absurd h.2 (by decide)
  have n103 : ¬ sT 103 := fun h => absurd h.2 (by decide)
  -- the model's start
  let tS : qS := uI (uI (uI t 151 29 1) 151 25 400) 151 28 0
  have oS : ∀ a, a ≠ 151 → tS.1 a = t.1 a := fun a h => by
    show (uI _ 151 28 0).1 a = _
    rw [uI_ne h, uI_ne h, uI_ne h]
  have fS : ∀ j, j ≠ 25 → j ≠ 28 → j ≠ 29 → tS.1 151 j = t.1 151 j := fun j h1 h2 h3 => by
    show (uI _ 151 28 0).1 151 j = _
    rw [rdU, if_neg (fun z => h2 z.2), rdU, if_neg (fun z => h1 z.2), rdU, if_neg (fun z => h3 z.2)]
  have wS : lwM t tS := ((lwM.uf rfl).tr (lwM.uf rfl)).tr (lwM.uf rfl)
  have MS : MX tS n B := by
    obtain ⟨h1, h2, h3, h4⟩ := hM
    exact ⟨by rw [fS 1 (by decide) (by decide) (by decide)]; exact h1, h2, h3, fun i hi => by rw [oS 152 (by decide)]; exact h4 i hi⟩
  obtain ⟨s1, t1, e1, e2, e3, -, ⟨e5, e5'⟩, e6, ⟨e7, e8, e9, e10, e10', e11⟩, e12, e13⟩ := begin_al (en := en) (d := d + 123) (d' := d' + 7) (q := 61) (lw := true) (Or.inr rfl) hT MS hz hky
  have wX1 : lwX s s1 := lwX.ox e12 e5' e6
  have wM1 : lwM t t1 := wS.tr (lwM.mv e13)
  have pX : ∀ s2 : qS, xCh en (d + 131) s1 = some (none, s2) → qev en (d + 132) 141 [.ref 65] s = some (none, s2) := fun s2 h => by
    refine le_X6_readLaw en _ _ _ ?_
    rw [show qev en (d + 131) 113 [.ref 65, .ref 61, .int (1 : Int32)] s = _ from e1, bV_some]
    exact h
  have pM : ∀ r, jCh en (d' + 11) t1 = some r → qev en (d' + 12) 392 [.ref 151] t = some r := fun r h => by
    refine le_X12_judge en _ _ _ ?_
    rw [if_pos (by rw [hf98]; decide), nm_eq, nm_eq, nm_eq, show qev en (d' + 11) 250 [.ref 151] (uI (uI (uI t 151 29 1) 151 25 400) 151 28 0) = _ from e2, bV_some]
    exact h
  have pJ : ∀ (s2 : qS) (r : qR), qev en (d + 132) 141 [.ref 65] s = some (none, s2) → (if (s2.1 65 11) = (0 : Int32) then if (s2.1 65 10) = (325 : Int32) then L_X11_judge_79 en (d + 132) (1 : Int32) (uI s2 1 5 0) else if ¬ (s2.1 65 10) = (326 : Int32) then L_X11_judge_79 en (d + 132) (0 : Int32) (uI s2 1 5 0) else L_X11_judge_79 en (d + 132) (1 : Int32) (uI s2 1 5 0) else some (some (.int ((-10 : Int32) - (s2.1 65 11))), uI s2 1 5 0)) = some r → qev en (d + 133) 232 [.ref 0] s = some r := fun s2 r h hr => by
    refine le_X11_judge en _ _ _ ?_
    have a11 : (uI s2 1 5 0).1 65 11 = s2.1 65 11 := by rw [uI_ne (by decide)]
    have a10 : (uI s2 1 5 0).1 65 10 = s2.1 65 10 := by rw [uI_ne (by decide)]
    rw [if_pos (by rw [hf17]; decide), h, bV_some, nm_eq, a11, a10]
    exact hr
  have f103 : ∀ s2, lwX s s2 → (uI s2 1 5 0).1 103 11 = 0 := fun s2 h => by
    rw [uI_ne (by decide), h.1 103 (by decide) (by decide) (by decide) (by decide) (by decide) n103]
    exact h103
  have f013 : ∀ s2, lwX s s2 → (uI s2 1 5 0).1 0 13 = s.1 0 13 := fun s2 h => by
    rw [uI_ne (by decide), h.1 0 (by decide) (by decide) (by decide) (by decide) (by decide) n0]
  have f70 : ∀ s2, lwX s s2 → (uI s2 1 5 0).1 70 18 = bt fw := fun s2 h => by
    rw [uI_ne (by decide), h.1 70 (by decide) (by decide) (by decide) (by decide) (by decide) n70]
    exact hf18
  have fky : ∀ s2, jdX s s2 → ∀ j, j < 33 → s2.2.1 3 j = Int64.ofNat (KN.getD j 0) := fun s2 h j hj => by
    rw [h.2.2.2.1 3 (Or.inr rfl)]
    exact hky j hj
  -- a fault
  have bad : ∀ (s2 t2 : qS) (v1 v2 v3 v4 : Int32), qev en (d + 132) 141 [.ref 65] s = some (none, s2) → (∀ r, L_X12_judge_262 en (d' + 11) v1 v2 v3 v4 t2 = some r → jCh en (d' + 11) t1 = some r) → lwX s s2 → lwM t t2 → lwDD s2 t2 → ∃ (s' t' : qS) (v : Int32) (F : Nat), qev en (d + 133) 232 [.ref 0] s = some (some (.int v), s') ∧ qev en (d' + 12) 392 [.ref 151] t = some (some (.int v), t') ∧ EXx P w nc nl nt n' p fw X s' ∧ EXm P w nc nl nt n' fw X t' ∧ s'.1 103 11 = 0 ∧ (s.1 0 13 = t.1 151 131 → s'.1 0 13 = t'.1 151 131) ∧ (s'.1 65 11 = nI F ∧ t'.1 151 9 = nI F ∧ F < 16 ∧ t'.1 151 10 = s'.1 65 12) ∧ (s'.1 1 5 = 0 ∧ t'.1 151 1 = 0) ∧ jdX s s' ∧ jdM t t' ∧ frS sT s' ∧ ∀ j, j < 33 → s'.2.1 3 j = Int64.ofNat (KN.getD j 0) := fun s2 t2 v1 v2 v3 v4 a1 a2 a3 a4 a5 => by
    obtain ⟨F, p', b1, b2, b3, b4, b5⟩ := a5
    have hw : (if F = 0 then (-2 : Int32) else t2.1 151 8) = nI p' := by rw [if_neg b3]; exact b5.2.2.2
    have g := m_262 (en := en) (d := d' + 10) (v1 := v1) (v2 := v2) (v3 := v3) (v4 := v4) b5.1 b4 hw
    have jX : jdX s (uI s2 1 5 0) := (jdX.lw a3).tr jdX.u1
    refine ⟨uI s2 1 5 0, jeS t2 F (nI p'), (-10 : Int32) - nI F, F, pJ s2 _ a1 ?_, pM _ (a2 _ (g _ ?_)), EXx_u (EXx_lw hx hp a3) hp (Or.inr rfl), EXm_lw hm (a4.tr lwM.je), f103 s2 a3, fun h => ?_, ⟨by rw [uI_ne (by decide)]; exact b1, ?_, b4, ?_⟩, ⟨rdW, ?_⟩, jX, jdM.lw (a4.tr lwM.je), jX.2.2.2.2.2 hz, fky _ jX⟩
    · rw [b1, if_neg (by rw [n_eq (by decide) (by omega)]; exact b3)]
    · rw [if_neg b3]
    · rw [f013 s2 a3, jeS_f, if_neg (by decide), if_neg (by decide), if_neg (by decide), if_neg (by decide), a4.2.2.1 131 rfl]
      exact h
    · rw [jeS_f, if_neg (by decide), if_neg (by decide), if_pos rfl]
    · rw [jeS_f, if_neg (by decide), if_pos rfl, uI_ne (by decide)]
      exact b2.symm
    · rw [jeS_f, if_neg (by decide), if_neg (by decide), if_neg (by decide), if_pos rfl]
  -- read well
  have well : ∀ (k : Nat) (fr : Bool) (s2 t2 : qS) (v4 : Int32) (e e2 : Nat), 1 ≤ k ∧ k ≤ 5 → qev en (d + 132) 141 [.ref 65] s = some (none, s2) → (∀ r, L_X12_judge_262 en (d' + 11) (nI k) (bt fr) (nI 400) v4 t2 = some r → jCh en (d' + 11) t1 = some r) → lwX s s2 → lwM t t2 → (s2.1 65 9 = bt fr ∧ s2.1 65 10 = nI (321 + k)) → lwOK k s2 t2 e e2 → (k = 5 → v4 = nI (400 + e)) → ∃ (s' t' : qS) (v : Int32) (F : Nat), qev en (d + 133) 232 [.ref 0] s = some (some (.int v), s') ∧ qev en (d' + 12) 392 [.ref 151] t = some (some (.int v), t') ∧ EXx P w nc nl nt n' p fw X s' ∧ EXm P w nc nl nt n' fw X t' ∧ s'.1 103 11 = 0 ∧ (s.1 0 13 = t.1 151 131 → s'.1 0 13 = t'.1 151 131) ∧ (s'.1 65 11 = nI F ∧ t'.1 151 9 = nI F ∧ F < 16 ∧ t'.1 151 10 = s'.1 65 12) ∧ (s'.1 1 5 = 0 ∧ t'.1 151 1 = 0) ∧ jdX s s' ∧ jdM t t' ∧ frS sT s' ∧ ∀ j, j < 33 → s'.2.1 3 j = Int64.ofNat (KN.getD j 0) := fun k fr s2 t2 v4 e e2 hk a1 a2 a3 a4 ⟨a9, a10⟩ ⟨⟨b1, b2⟩, ⟨b3, b4⟩, b5, ⟨b6, b7⟩, ⟨b8, b9, b10⟩, b11⟩ hv4 => by
    have g := m_262 (en := en) (d := d' + 10) (F := 0) (wi := -2) (v1 := nI k) (v2 := bt fr) (v3 := nI 400) (v4 := v4) b6 (by decide) rfl
    rw [if_pos rfl, b7] at g
    have jX : jdX s (uI s2 1 5 0) := (jdX.lw a3).tr jdX.u1
    have hx2 : EXx P w nc nl nt n' p fw X (uI s2 1 5 0) := EXx_u (EXx_lw hx hp a3) hp (Or.inr rfl)
    have hm2 : EXm P w nc nl nt n' fw X (jeS t2 0 (-2)) := EXm_lw hm (a4.tr lwM.je)
    have jM : jdM t (jeS t2 0 (-2)) := jdM.lw (a4.tr lwM.je)
    have t100 : t2.1 151 100 = bt fw := (a4.2.2.1 100 rfl).trans hf100
    have t9 : (jeS t2 0 (-2)).1 151 9 = nI 0 := by rw [jeS_f, if_neg (by decide), if_neg (by decide), if_pos rfl]
    have t10 : (jeS t2 0 (-2)).1 151 10 = -2 := by rw [jeS_f, if_neg (by decide), if_pos rfl]
    have tt1 : (jeS t2 0 (-2)).1 151 1 = 0 := by rw [jeS_f, if_neg (by decide), if_neg (by decide), if_neg (by decide), if_pos rfl]
    have q11 : (uI s2 1 5 0).1 65 11 = nI 0 := by rw [uI_ne (by decide)]; exact b1
    have q12 : (uI s2 1 5 0).1 65 12 = -2 := by rw [uI_ne (by decide)]; exact b2
    have q9 : (uI s2 1 5 0).1 65 9 = bt fr := by rw [uI_ne (by decide)]; exact a9
    have q10 : (uI s2 1 5 0).1 65 10 = nI (321 + k) := by rw [uI_ne (by decide)]; exact a10
    by_cases hfew : 4 ≤ k ∧ fw = true
    · -- fewer turns don't tell
      obtain ⟨hk4, hfw⟩ := hfew
      refine ⟨uI s2 1 5 0, jeS t2 0 (-2), -1, 0, pJ s2 _ a1 ?_, pM _ (a2 _ (g _ ?_)), hx2, hm2, f103 s2 a3, fun h => ?_, ⟨q11, t9, by decide, by rw [t10, q12]⟩, ⟨rdW, tt1⟩, jX, jM, jX.2.2.2.2.2 hz, fky _ jX⟩
      · have g79 : L_X11_judge_79 en (d + 132) (1 : Int32) (uI s2 1 5 0) = some (some (.int (-1)), uI s2 1 5 0) := by
          refine le_X11_judge_79 en _ _ _ _ ?_
          rw [if_neg (by decide), f70 s2 a3, hfw, if_neg (by decide)]
        rw [b1, if_pos rfl, a10]
        by_cases q4 : k = 4
        · rw [if_pos (by rw [q4]; rfl)]; exact g79
        · rw [if_neg (by rw [n_eq (by decide) (by omega)]; omega), if_neg (by rw [n_eq (by decide) (by omega)]; omega)]; exact g79
      · rw [if_neg (by rw [n_ge (by decide) (by omega)]; omega), t100, hfw, if_neg (by decide)]
      · rw [f013 s2 a3, jeS_f, if_neg (by decide), if_neg (by decide), if_neg (by decide), if_neg (by decide), a4.2.2.1 131 rfl]
        exact h
    · have hL := law_LV b8 b9 b10
      have hO : (uI s2 1 5 0).1 62 = s2.1 62 := uI_ne (by decide)
      have hQ : (uI s2 1 5 0).1 63 = s2.1 63 := uI_ne (by decide)
      have hM0 : ∀ a' e', LM t2 (s2.1 62) (s2.1 63) a' e' → LM (jeS t2 0 (-2)) (s2.1 62) (s2.1 63) a' e' := fun a' e' h j j1 j2 k hk hk2 => by
        have o : ∀ c, c ≠ 151 → (jeS t2 0 (-2)).1 c = t2.1 c := fun c hc => by
          unfold jeS
          rw [uI_ne hc, uI_ne hc, uI_ne hc, uI_ne hc]
        rw [o 161 (by decide), o 162 (by decide)]
        exact h j j1 j2 k hk hk2
      have hl : lwP (uI s2 1 5 0) 69 (decide (k = 5)) 0 e e e2 := by
        refine ⟨⟨rfl, rfl, by decide, by decide, by decide, by decide⟩, ⟨by rw [uI_ne (by decide)]; exact b3, by rw [uI_ne (by decide)]; exact b4⟩, fun z => ?_⟩
        rw [uI_ne (by decide)]
        exact b5 (of_decide_eq_true z)
      obtain ⟨s5, sh, c1, c2, c3, c4, c5, c6⟩ := x_holds (en := en) (d := d + 127) (fr := fr) hP hw2 hX hJ hx2 hp (f103 s2 a3) hO hQ hk hl hL.1 (fun z => (law_LV (b11 z).1 (b11 z).2.1 (b11 z).2.2).1)
      obtain ⟨t5, sh', f1, f2, f3, f4, f5⟩ := m_judged (en := en) (d := d' + 5) (fr := fr) (a2 := e) (e2 := e2) hP hw2 hX hJ hm2 hk hL.1 (hM0 _ _ hL.2) (fun z => ⟨rfl, (law_LV (b11 z).1 (b11 z).2.1 (b11 z).2.2).1, hM0 _ _ (law_LV (b11 z).1 (b11 z).2.1 (b11 z).2.2).2⟩) hv4 (v5 := nI (400 + (if k = 5 then e2 else e))) rfl
      have esh : sh = sh' := jdP_eq hk c2 f2
      have jX5 : jdX s (uI s5 0 13 (s5.1 103 13)) := (jX.tr (jdX.hd c6)).tr jdX.u0
      have jM5 : jdM t t5 := jM.tr (jdM.jg f5)
      have c65 : s5.1 65 = (uI s2 1 5 0).1 65 := c6.1 65 (by decide) (by decide) (by decide) (Or.inl (by decide))
      have c1' : s5.1 1 = (uI s2 1 5 0).1 1 := c6.1 1 (by decide) (by decide) (by decide) (Or.inl (by decide))
      have fj : ∀ j, j = 1 ∨ j = 9 ∨ j = 10 → t5.1 151 j = (jeS t2 0 (-2)).1 151 j := fun j hj => f5.2.1 j (by omega) (by omega) (by omega) (by omega) (by omega) (by omega) (by omega)
      refine ⟨uI s5 0 13 (s5.1 103 13), t5, bt (jdH k sh), 0, pJ s2 _ a1 ?_, pM _ (a2 _ (g _ ?_)), EXx_u c5 hp (Or.inl rfl), f4, by rw [uI_ne (by decide)]; exact c4, fun h => by rw [rdW, c3, f3, esh], ⟨by rw [uI_ne (by decide), c65]; exact q11, by rw [fj 9 (by omega)]; exact t9, by decide, by rw [fj 10 (by omega), t10, uI_ne (by decide), c65, q12]⟩, ⟨by rw [uI_ne (by decide), c1', rdW], by rw [fj 1 (by omega)]; exact tt1⟩, jX5, jM5, jX5.2.2.2.2.2 hz, fky _ jX5⟩
      · have g96 : L_X11_judge_96 en (d + 132) (uI s2 1 5 0) = some (some (.int (bt (jdH k sh))), uI s5 0 13 (s5.1 103 13)) := by
          refine le_X11_judge_96 en _ _ _ ?_
          rw [q10, q9, show qev en (d + 132) 19 [.ref 103, .int (nI (321 + k)), .int (bt fr), .ref 69] (uI s2 1 5 0) = _ from c1, bI_some, nm_eq]
          cases hj : jdH k sh
          · rw [if_pos (show bt false = (0 : Int32) from rfl)]; rfl
          · rw [if_neg (show ¬ bt true = (0 : Int32) by decide)]; rfl
        have g79 : ∀ v : Int32, (v = 0 ∨ fw = false) → L_X11_judge_79 en (d + 132) v (uI s2 1 5 0) = some (some (.int (bt (jdH k sh))), uI s5 0 13 (s5.1 103 13)) := fun v hv => by
          refine le_X11_judge_79 en _ _ _ _ ?_
          by_cases q : v = 0
          · rw [if_pos q]; exact g96
          · rw [if_neg q, f70 s2 a3, hv.resolve_left q, if_pos (show bt false = (0 : Int32) from rfl)]
            exact g96
        have hfw : 4 ≤ k → fw = false := fun z => by
          cases hfv : fw
          · rfl
          · exact absurd ⟨z, hfv⟩ hfew
        rw [b1, if_pos rfl, a10]
        by_cases q4 : k = 4
        · rw [if_pos (by rw [q4]; rfl)]; exact g79 1 (Or.inr (hfw (by omega)))
        · rw [if_neg (by rw [n_eq (by decide) (by omega)]; omega)]
          by_cases q5 : k = 5
          · rw [if_neg (by rw [q5]; exact not_not_intro rfl)]; exact g79 1 (Or.inr (hfw (by omega)))
          · rw [if_pos (by rw [n_eq (by decide) (by omega)]; omega)]; exact g79 0 (Or.inl rfl)
      · rw [esh]
        by_cases q3 : k ≤ 3
        · rw [if_pos (by rw [n_ge (by decide) (by omega)]; exact q3)]
          exact f1
        · have hfv : fw = false := by
            cases hfv : fw
            · rfl
            · exact absurd ⟨by omega, hfv⟩ hfew
          rw [if_neg (by rw [n_ge (by decide) (by omega)]; exact q3), t100, hfv, if_pos (show bt false = (0 : Int32) from rfl)]
          exact f1
  -- together
  rcases e3 with e3 | e3
  · have hn1 : nmR s1 t1 V U cl nc nl nt := by
      obtain ⟨g1, ⟨g2, g3, g4⟩, ⟨g5, g6, g7⟩, g8, ⟨g9, g10, g11⟩, g12⟩ := hn
      have n11 : ¬ sT 11 := fun h => absurd h.2 (by decide)
      have n12 : ¬ sT 12 := fun h => absurd h.2 (by decide)
      have n13 : ¬ sT 13 := fun h => absurd h.2 (by decide)
      have n14 : ¬ sT 14 := fun h => absurd h.2 (by decide)
      have x11 := wX1.1 11 (by decide) (by decide) (by decide) (by decide) (by decide) n11
      have x14 := wX1.1 14 (by decide) (by decide) (by decide) (by decide) (by decide) n14
      have x12 := wX1.2.2.2.1 12 (Or.inl n12)
      have x13 := wX1.2.2.2.1 13 (Or.inl n13)
      refine ⟨g1, ⟨by rw [x11]; exact g2, by rw [x11]; exact g3, by rw [x11]; exact g4⟩, ⟨(wM1.2.2.1 12 rfl).trans g5, (wM1.2.2.1 16 rfl).trans g6, (wM1.2.2.1 18 rfl).trans g7⟩, by rw [x12]; exact g8, ⟨by rw [wM1.2.2.2.1 153 (by decide)]; exact g9, by rw [wM1.2.2.2.1 156 (by decide)]; exact g10, by rw [wM1.2.2.2.1 157 (by decide)]; exact g11⟩, fun u hu => by rw [x14, wM1.1 159 (by decide) (by decide) (by decide) (by decide), x13, wM1.2.2.2.1 160 (by decide)]; exact g12 u hu⟩
    have g151 : ∀ j, 9 ≤ j → t1.1 151 j = tS.1 151 j := fun j hj => e13.2.1 j (by omega) (by omega) (by omega) (by omega) (by omega) (by omega)
    have hS : lwS B n s1 t1 V U cl nc nl nt 0 0 := by
      refine ⟨e3, hn1, ⟨e9, ?_⟩, ⟨e7, fun z => by cases z⟩, ⟨e11, ?_, by decide⟩, e8, ?_⟩
      · rw [g151 29 (by decide)]
        show (uI (uI (uI t 151 29 1) 151 25 400) 151 28 0).1 151 29 = _
        rw [rdU, if_neg (by decide), rdU, if_neg (by decide), rdW]
        rfl
      · rw [g151 28 (by decide)]
        exact rdW
      · rw [g151 25 (by decide)]
        show (uI (uI (uI t 151 29 1) 151 25 400) 151 28 0).1 151 25 = _
        rw [rdU, if_neg (by decide), rdW]
        rfl
    obtain ⟨k, fr, s2, t2, b1, b2, b3, b4, b5, b6, ⟨b7, b7'⟩, b8, b9⟩ := head_al2 (en := en) (d := d) (d' := d') hS hB
    have wX2 : lwX s s2 := wX1.tr b5
    have wM2 : lwM t t2 := wM1.tr b6
    rcases b9 with ⟨i', b9⟩ | ⟨F, p', z1, z2⟩
    · by_cases k5 : k = 5
      · subst k5
        obtain ⟨s3, t3, c1, c2, c3, c4, c5⟩ := lwTwo_al (en := en) (d := d) (d' := d') (v2 := bt fr) b9 hB
        rcases c5 with ⟨e, e2, f1, f2⟩ | ⟨f1, v3, v4, f2⟩
        · exact well 5 fr s3 t3 _ e e2 b1 (pX _ (b3 rfl _ c1)) (fun r hr => b4 r (f2 r hr)) (wX2.tr c2) (wM2.tr c3) ⟨(c4 f1.1.1).1.trans b7, (c4 f1.1.1).2.trans b7'⟩ f1 (fun _ => rfl)
        · exact bad s3 t3 _ _ v3 v4 (pX _ (b3 rfl _ c1)) (fun r hr => b4 r (f2 r hr)) (wX2.tr c2) (wM2.tr c3) f1
      · obtain ⟨s3, t3, c1, c2, c3, c4, c5⟩ := lwOne_al (en := en) (d := d) (d' := d') (k := k) (v2 := bt fr) b9 hB ⟨b1.1, by omega⟩
        rcases c5 with ⟨e, v4, f1, f2⟩ | ⟨f1, v3, v4, f2⟩
        · exact well k fr s3 t3 v4 e 0 b1 (pX _ (b2 k5 _ c1)) (fun r hr => b4 r (f2 r hr)) (wX2.tr c2) (wM2.tr c3) ⟨c4.1.trans b7, c4.2.trans b7'⟩ f1 (fun z => absurd z k5)
        · exact bad s3 t3 _ _ v3 v4 (pX _ (b2 k5 _ c1)) (fun r hr => b4 r (f2 r hr)) (wX2.tr c2) (wM2.tr c3) f1
    · obtain ⟨v3, v4, f2⟩ := mD_149 (en := en) (d := d' + 9) (v1 := nI k) (v2 := bt fr) z2
      by_cases k5 : k = 5
      · obtain ⟨s3, c1, c2, c3, c4, c5, c6⟩ := xD_F2 (en := en) (d := d + 118) z1 b8
        exact bad s3 t2 _ _ v3 v4 (pX _ (b3 k5 _ c1)) (fun r hr => b4 r (f2 r hr)) (wX2.tr c2) wM2 (lwDD_of c3 c4 c5 c6 z2)
      · obtain ⟨s3, c1, c2, c3, c4, c5, c6⟩ := xD_F1 (en := en) (d := d + 118) z1 b8
        exact bad s3 t2 _ _ v3 v4 (pX _ (b2 k5 _ c1)) (fun r hr => b4 r (f2 r hr)) (wX2.tr c2) wM2 (lwDD_of c3 c4 c5 c6 z2)
  · obtain ⟨F, p', z1, z2⟩ := id e3
    obtain ⟨v1, v2, v3, v4, f2⟩ := mD_jCh (en := en) (d := d' + 9) z2
    -- the class finds no word
    have kk := dX_kind z1
    have z1a : dX (uI (uI (uI s1 65 10 (s1.1 1 9)) 65 9 0) 65 10 326) F p' := dX_fr z1 (by rw [uI_ne (by decide), uI_ne (by decide), uI_ne (by decide)]) (by rw [uI_ne (by decide), uI_ne (by decide), uI_ne (by decide)]) (by rw [rdU, if_neg (by decide), rdU, if_neg (by decide), rdU, if_neg (by decide)]) (by rw [rdU, if_neg (by decide), rdU, if_neg (by decide), rdU, if_neg (by decide)])
    have z1b : dX (uI s1 65 10 (s1.1 1 9)) F p' := dX_fr z1 (by rw [uI_ne (by decide)]) (by rw [uI_ne (by decide)]) (by rw [rdU, if_neg (by decide)]) (by rw [rdU, if_neg (by decide)])
    obtain ⟨s3, c1, c2, c3, c4, c5, c6⟩ := xD_F2 (en := en) (d := d + 118) z1a e7
    have wX3 : lwX s s3 := (((wX1.tr (lwX.uf (j := 10) (w := s1.1 1 9) (by decide))).tr (lwX.uf (j := 9) (w := 0) (by decide))).tr (lwX.uf (j := 10) (w := 326) (by decide))).tr c2
    have hch : xCh en (d + 131) s1 = some (none, s3) := by
      show nm _ _ = _
      have g9 : (uI (uI s1 65 10 (s1.1 1 9)) 65 9 0).1 65 9 = 0 := rdW
      have g10 : (uI (uI s1 65 10 (s1.1 1 9)) 65 9 0).1 65 10 = s1.1 1 9 := by rw [rdU, if_neg (by decide), rdW]
      rw [nm_eq, show qev en (d + 131) 116 [.ref 65, .int (327 : Int32)] (uI s1 65 10 (s1.1 1 9)) = _ from x_deadSkip (d := d + 130) (m := 327) z1b ⟨by decide, by decide⟩, bI_some, gd_true (by decide), nm_eq, g9, if_pos rfl]
      refine le_X6_readLaw_64 en _ _ _ ?_
      rw [g10, if_pos (by rcases kk with z | z <;> (rw [z]; decide))]
      refine le_X6_readLaw_99 en _ _ _ ?_
      rw [nm_eq]
      exact c1
    exact bad s3 t1 v1 v2 v3 v4 (pX _ hch) f2 wX3 wM1 (lwDD_of c3 c4 c5 c6 z2)
end JAM
