/-! THE READER: an expression on both sides: operands of a law. -/
section EXL
variable {en : pN} {d d' k K q bs u n i i' ct ct' m m' m0 c c' c0 k' nc nl nt a b z dp F p x j : Nat} {lw : Bool} {V cl cl' : Nat → Nat} {U U' : Nat → Nat → Nat} {pl pl' : Nat → Nat} {s s' s'' t t' t'' : qS} {B : Nat → Nat} {O Q M W v w v1 v2 v3 v4 v5 a2 : Int32}
/-- the model's word against a key word -/
theorem fct_w (hB : ∀ j, j < n → B j < 256) (hm : mtL t B n i) (hk : 300 ≤ tkK B n i) {C : Int64} (hj : j < 33) (hC : C = Int64.ofNat (w8 8 (KN.getD j 0))) : lg_cmp (t.2.1 151 5) C = 0 ↔ tkK B n i = 300 + j := by
  obtain ⟨⟨mX, mn, hi⟩, m7, m4, mk1, m2, m3, m5, m6⟩ := id hm
  have hv := tk_val (B := B) (n := n) hi
  have hc : KN.getD j 0 < 128 ^ 8 := by
    have hlen : KN.length = 33 := rfl
    rw [List.getD_eq_getElem?_getD, List.getElem?_eq_getElem (by omega)]
    exact KN_lt _ (List.getElem_mem _)
  rw [m5 (Or.inr hk), lgc0, hC, key8 hv hc, word_kyd hB hi (Or.inr hk), kyd_is hj]
theorem mEnd_0 (hE : eS lw q bs u B n s t V U cl nc nl nt i ct m m k pl) (hq : plcQ lw q bs) (hm : m ≤ 400) : mEnd s q m := by
  refine ⟨m, hE.2.2.2.2.2.1.1, Nat.le_refl m, ?_⟩
  rcases hq with ⟨rfl, -⟩ | ⟨rfl, -⟩
  · show m ≤ 500; omega
  · show m ≤ 400; omega
theorem mEnd_tk (hq : q = 7 ∨ q = 61) (h : mEnd s q m) (f : tnF s s') : mEnd s' q m := by
  obtain ⟨y, z1, z2⟩ := h
  exact ⟨y, by rw [f.1 q (by omega) (by omega)]; exact z1, z2⟩
/-- a fact's word -/
theorem opd_fact (hE : eS lw q bs u B n s t V U cl nc nl nt i ct m m k pl) (hq : plcQ lw q bs) (hB : ∀ j, j < n → B j < 256) (hm : m < 400) (hw : lw = true) (hx : 328 ≤ tkK B n i ∧ tkK B n i ≤ 332) : ∃ s' t', qev en (d + 6) 140 [.ref 65, .int (nI (tkK B n i)), .int a2] s = some (none, s') ∧ tkoB en (d' + 7) t = some (none, t') ∧ opR lw q bs u B n s t s' t' V cl nc nl nt ct m k pl := by
  obtain ⟨hl, hn, ⟨h8, h29⟩, ⟨h7, -⟩, ⟨x1, x2, x3⟩, ⟨y1, y2, y3⟩, hp⟩ := id hE
  obtain ⟨hi, c1, c2, c3⟩ := cL_at hl.1
  obtain ⟨⟨mX, mn, -⟩, m7, m4, mk1, m2, m3, m5, m6⟩ := id hl.2
  have hq' := hq.qq
  have hlc : lc q = 4 := by rcases hq' with rfl | rfl <;> rfl
  have hF := m_isFactW (en := en) (d := d' + 4) hB hl.2
  rw [decide_eq_true hx] at hF
  have h8' : ¬ s.1 65 8 = 0 := by rw [h8, hw]; decide
  have h29' : ¬ t.1 151 29 = 0 := by rw [h29, hw]; decide
  have preX : ∀ s', qev en (d + 5) 143 [.ref 65, .int (nI (tkK B n i))] s = some (none, s') → qev en (d + 6) 140 [.ref 65, .int (nI (tkK B n i)), .int a2] s = some (none, s') := fun s' hr => by
    refine le_X6_readNode en _ _ _ _ _ ?_
    have ne : ∀ y : Nat, y < 300 → ¬ nI (tkK B n i) = nI y := fun y hy => by rw [n_EQ (by omega) (by omega)]; omega
    have n3 : ¬ nI (tkK B n i) = (3 : Int32) := ne 3 (by decide)
    have n45 : ¬ nI (tkK B n i) = (45 : Int32) := ne 45 (by decide)
    have n33 : ¬ nI (tkK B n i) = (33 : Int32) := ne 33 (by decide)
    have n2 : ¬ nI (tkK B n i) = (2 : Int32) := ne 2 (by decide)
    rw [if_pos n3, if_neg n45, if_pos n33, if_neg h8', if_pos n2]
    refine le_X6_readNode_99 en _ _ _ _ ?_
    rw [if_neg h8', hr, bV_some]
  have f1 := fct_w (C := 435643770212) (j := 28) hB hl.2 (by omega) (by decide) (by decide)
  have f2 := fct_w (C := 513021013607) (j := 29) hB hl.2 (by omega) (by decide) (by decide)
  have f3 := fct_w (C := 512735409267) (j := 30) hB hl.2 (by omega) (by decide) (by decide)
  have f4 := fct_w (C := 1751477348) (j := 31) hB hl.2 (by omega) (by decide) (by decide)
  have preM : ∀ t', L_X12_takeFact_198 en (d' + 6) (nI (tkK B n i - 311)) t = some (none, t') → tkoB en (d' + 7) t = some (none, t') := fun t' hr => by
    show (if ¬ (t.1 151 3) = (2 : Int32) then _ else _) = _
    have hk1 := (kdM_v (tkK_lt hi)).2.1.mpr (Or.inr (Or.inr (by omega)))
    have e273 : qev en (d' + 7) 273 [.ref 151] t = some (none, t') := by
      refine le_X12_takeFact en _ _ _ ?_
      rw [m_goodL m7, bI_some, if_pos (by decide), show d' + 6 = d' + 4 + 2 from rfl, hF, bI_some, if_pos (by decide)]
      by_cases z1 : tkK B n i = 328
      · rw [if_neg (not_not_intro (f1.mpr z1))]; rw [z1] at hr; exact hr
      rw [if_pos (fun z => z1 (f1.mp z))]
      by_cases z2 : tkK B n i = 329
      · rw [if_neg (not_not_intro (f2.mpr z2))]; rw [z2] at hr; exact hr
      rw [if_pos (fun z => z2 (f2.mp z))]
      by_cases z3 : tkK B n i = 330
      · rw [if_neg (not_not_intro (f3.mpr z3))]; rw [z3] at hr; exact hr
      rw [if_pos (fun z => z3 (f3.mp z))]
      by_cases z4 : tkK B n i = 331
      · rw [if_neg (not_not_intro (f4.mpr z4))]; rw [z4] at hr; exact hr
      rw [if_pos (fun z => z4 (f4.mp z))]
      have z5 : tkK B n i = 332 := by omega
      rw [z5] at hr; exact hr
    rw [m3, hk1, if_pos (by decide), if_neg h29', e273, bV_some]
  obtain ⟨s1, t1, e1, e2, e3, e4, e5⟩ := adv_al (en := en) (d := d + 3) (d' := d' + 3) hl (by omega)
  have h7' : s1.2.2 65 7 = q + 1 := by rw [e3.2.2.2]; exact h7
  have hM1 : mEnd s1 q m := mEnd_tk hq' (mEnd_0 hE hq (by omega)) (tnF.ad e3)
  have fx1 : rxF true q m s s1 := rxF.ad e3 hq'
  have fm1 : rmF true (bs + m) t t1 := rmF.mv e4
  by_cases z5 : tkK B n i = 332
  · -- stuck
    have preX2 : ∀ s', qev en (d + 4) 76 [.ref q, .int (2 : Int32), .int (234 : Int32)] s1 = some (none, s') → qev en (d + 5) 143 [.ref 65, .int (nI (tkK B n i))] s = some (none, s') := fun s' hr => by
      refine le_X6_readAsked en _ _ _ _ ?_
      rw [e1, bV_some, if_neg (not_not_intro (by rw [z5]; rfl)), h7', Nat.add_sub_cancel, gd_true ⟨by omega, hlc⟩, nm_eq, hr, bV_some]
    have preM2 : ∀ t', qev en (d' + 6) 262 [.ref 151, .int (nI (tkK B n i - 311)), .int (0 : Int32)] t1 = some (none, t') → L_X12_takeFact_198 en (d' + 6) (nI (tkK B n i - 311)) t = some (none, t') := fun t' hr => by
      refine le_X12_takeFact_198 en _ _ _ _ ?_
      rw [e2, bV_some, if_neg (not_not_intro (by rw [z5]; rfl)), hr, bV_some]
    rcases e5 with e5 | e5
    · have hE1 := eS_ad hE hq e3 e4 e5
      obtain ⟨s2, t2, g1, g2, g3, g4, g5, ⟨g6, g7⟩, g8, g9⟩ := put_al (en := en) (d := d + 2) (d' := d' + 4) (O := 2) (Q := 234) (M := nI (tkK B n i - 311)) (W := 0) hE1 hq hm
      refine ⟨s2, t2, preX _ (preX2 _ g1), preM _ (preM2 _ g2), (fx1.tr g4 (Nat.le_refl m)).wk, (fm1.tr g5 (Nat.le_refl _)).wk, Or.inl ⟨U, cl, i + 1, g3, ⟨2, 21, by decide, g6, by rw [g8, z5], ?_, fun z => by rw [hw] at z; cases z⟩, gw_one (k := 2) (by decide) rfl g6 (fun _ => ⟨234, g7, by decide⟩) (fun z => by omega), fun _ => Nat.le_refl _⟩⟩
      unfold ndR
      have : s2.1 (q + 2) m = nI 234 := g7
      simp [this]
    · obtain ⟨s2, g1, g2, g3, g4⟩ := putD_al (en := en) (d := d + 2) (v := 2) (w := 234) hq' hM1 e5
      obtain ⟨F, p, -, hD⟩ := id e5
      exact ⟨s2, t1, preX _ (preX2 _ g1), preM _ (preM2 _ (m_emitD hD)), (fx1.tr g2 (Nat.le_refl m)).wk, fm1.wk, Or.inr ⟨g4, g3, pil_mv (pil_of hE) e4⟩⟩
  · have preX2 : ∀ s', askB en (d + 4) (nI (tkK B n i)) s1 = some (none, s') → qev en (d + 5) 143 [.ref 65, .int (nI (tkK B n i))] s = some (none, s') := fun s' hr => by
      refine le_X6_readAsked en _ _ _ _ ?_
      rw [e1, bV_some, if_pos (by rw [n_eq (by decide) (by omega)]; exact z5)]
      exact hr
    rcases e5 with e5 | e5
    · have hE1 := eS_ad hE hq e3 e4 e5
      obtain ⟨s2, t2, g1, g2, g3, g4, g5⟩ := ask_al (en := en) (d := d + 1) (d' := d' + 2) hE1 hq hB hm hw ⟨hx.1, by omega⟩
      refine ⟨s2, t2, preX _ (preX2 _ g1), preM _ ?_, fx1.wk.tr g3 (Nat.le_refl m), fm1.wk.tr g4 (Nat.le_refl _), g5⟩
      refine le_X12_takeFact_198 en _ _ _ _ ?_
      have m7' := e5.2.2.1
      rw [e2, bV_some, if_pos (by rw [n_eq (by decide) (by omega)]; omega), m_goodL m7', bI_some, if_neg (by decide)]
      exact g2
    · obtain ⟨s2, g1, g2, g3, g4⟩ := x_askD (en := en) (d := d + 2) (v1 := nI (tkK B n i)) hq' h7' e5 hM1
      obtain ⟨F, p, -, hD⟩ := id e5
      refine ⟨s2, t1, preX _ (preX2 _ g1), preM _ ?_, (fx1.tr g2 (Nat.le_refl m)).wk, fm1.wk, Or.inr ⟨g4, g3, pil_mv (pil_of hE) e4⟩⟩
      refine le_X12_takeFact_198 en _ _ _ _ ?_
      rw [e2, bV_some, if_pos (by rw [n_eq (by decide) (by omega)]; omega), m_goodD hD, bI_some, if_pos rfl, m_232D hD]
end EXL
