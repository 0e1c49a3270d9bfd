/-! THE READER: an expression on both sides: what laws ask of threads and locks. -/
def askO (v1 : Int32) : Int32 := if v1 = 331 then 2 else 3
def askQ (v1 v2 : Int32) : Int32 := if v1 = 331 then ((40 : Int32) + v2) - (8 : Int32) else ((v2 - (12 : Int32)) * (8 : Int32)) + (if v1 = 328 then 4 else if v1 = 329 then 5 else 2)
section EXF
variable {en : pN} {d d' k K q bs u n i i' ct ct' m m' m0 c c' c0 k' nc nl nt a b z dp F p x : Nat} {lw : Bool} {V cl cl' : Nat → Nat} {U U' : Nat → Nat → Nat} {pl pl' : Nat → Nat} {s s' s'' t t' t'' : qS} {B : Nat → Nat} {O Q M W v w v1 v2 v3 v4 v5 a2 : Int32}
/-- the class: the name that is asked for, put -/
theorem x_80 (hq : q = 7 ∨ q = 61) (h7 : s'.2.2 65 7 = q + 1) (h : qev en (d + 1) 115 [.ref 65, .int (2 : Int32)] s = some (none, s')) (g : qev en (d + 1) 76 [.ref q, .int (askO v1), .int (askQ v1 v2)] s' = some (none, s'')) : L_X6_readAsked_80 en (d + 1) v1 v2 s = some (none, s'') := by
  have hlc : lc q = 4 := by rcases hq with rfl | rfl <;> rfl
  refine le_X6_readAsked_80 en _ _ _ _ _ ?_
  rw [h, bV_some]
  unfold askO askQ at g
  by_cases q1 : v1 = 331
  · rw [if_neg (not_not_intro q1), h7, Nat.add_sub_cancel, gd_true ⟨by omega, hlc⟩, nm_eq]
    rw [if_pos q1, if_pos q1] at g
    rw [g, bV_some]
  · rw [if_pos q1]
    rw [if_neg q1, if_neg q1] at g
    have f133 : ∀ y, qev en (d + 1) 76 [.ref q, .int (3 : Int32), .int (((v2 - (12 : Int32)) * (8 : Int32)) + y)] s' = some (none, s'') → L_X6_readAsked_133 en (d + 1) v2 y s' = some (none, s'') := fun y hy => by
      refine le_X6_readAsked_133 en _ _ _ _ _ ?_
      rw [h7, Nat.add_sub_cancel, gd_true ⟨by omega, hlc⟩, nm_eq, hy, bV_some]
    by_cases q2 : v1 = 328
    · rw [if_neg (not_not_intro q2)]
      rw [if_pos q2] at g
      exact f133 _ g
    · rw [if_pos q2]
      rw [if_neg q2] at g
      by_cases q3 : v1 = 329
      · rw [if_neg (not_not_intro q3)]
        rw [if_pos q3] at g
        exact f133 _ g
      · rw [if_pos q3]
        rw [if_neg q3] at g
        exact f133 _ g
/-- behind a fault -/
theorem x_80D (hq : q = 7 ∨ q = 61) (h7 : s.2.2 65 7 = q + 1) (hD : rdD s t) (hm : mEnd s q m) : ∃ s', L_X6_readAsked_80 en (d + 2) v1 v2 s = some (none, s') ∧ rxF true q m s s' ∧ mEnd s' q m ∧ rdD s' t := by
  obtain ⟨F, p, h1, h2⟩ := hD
  have h1' := bmS_dead (k := 2) h1
  have e115 : qev en (d + 2) 115 [.ref 65, .int (2 : Int32)] s = some (none, bmS s 2) := x_deadNeed (m := 2) h1 ⟨by decide, by decide⟩
  have hm' : mEnd (bmS s 2) q m := by
    obtain ⟨y, y1, y2⟩ := hm
    exact ⟨y, by rw [bmS_F.1 q (by omega) (by omega)]; exact y1, y2⟩
  obtain ⟨s', g1, g2, g3, g4⟩ := putD_al (en := en) (d := d) (v := askO v1) (w := askQ v1 v2) hq hm' ⟨F, p, h1', h2⟩
  exact ⟨s', x_80 hq (by rw [bmS_F.2.2.2]; exact h7) e115 g1, (rxF.bm bmS_F hq).tr g2 (Nat.le_refl m), g3, g4⟩
theorem m_232D (h : mtD t F p) {K : Int32} : L_X12_takeFact_232 en (d + 2) K t = some (none, t) := by
  refine le_X12_takeFact_232 en _ _ _ _ ?_
  rw [m_goodD h, bI_some, if_neg (not_not_intro rfl)]
  refine le_X12_takeFact_268 en _ _ _ _ _ ?_
  rw [m_goodD h, bI_some, if_pos rfl]
  refine le_X12_takeFact_291 en _ _ _ _ _ ?_
  rw [m_emitD h, bV_some, m_nextD h, bV_some]
/-- the class, behind a name looked up -/
noncomputable abbrev askB (en : pN) (d : Nat) (a1 : Int32) (s2 : qS) : Option qR := bI (qev en d 84 [.ref 11, .long (s2.2.1 1 11)] s2) (fun w5 s6 => if ¬ a1 = (331 : Int32) then bI (qev en d 87 [.int w5] s6) (fun w9 s10 => L_X6_readAsked_59 en d a1 w5 w9 s10) else bI (qev en d 86 [.int w5] s6) (fun w12 s13 => L_X6_readAsked_59 en d a1 w5 w12 s13))
theorem x_isThread {w : Int32} : qev en (d + 1) 87 [.int w] s = some (some (.int (if w < 12 then 0 else 1)), s) := by
  refine le_X5_isThread en _ _ _ _ ?_
  by_cases h : w < 12
  · rw [if_pos h, if_pos h]
  · rw [if_neg h, if_neg h]
theorem x_isLock {w : Int32} : qev en (d + 1) 86 [.int w] s = some (some (.int (if w < 8 then 0 else if 12 ≤ w then 0 else 1)), s) := by
  refine le_X5_isLock en _ _ _ _ ?_
  by_cases h : w < 8
  · rw [if_pos h, if_pos h]
  · rw [if_neg h, if_neg h]
    by_cases h' : 12 ≤ w
    · rw [if_pos h', if_pos h']
    · rw [if_neg h', if_neg h']
theorem x_askB {w5 : Int32} (h84 : qev en (d + 1) 84 [.ref 11, .long (s.2.1 1 11)] s = some (some (.int w5), s)) {r : qR} (g : L_X6_readAsked_59 en (d + 1) v1 w5 (if v1 = 331 then (if w5 < 8 then 0 else if 12 ≤ w5 then 0 else 1) else (if w5 < 12 then 0 else 1)) s = some r) : askB en (d + 1) v1 s = some r := by
  show bI _ _ = _
  rw [h84, bI_some]
  by_cases q1 : v1 = 331
  · rw [if_neg (not_not_intro q1), x_isLock, bI_some]
    rw [if_pos q1] at g; exact g
  · rw [if_pos q1, x_isThread, bI_some]
    rw [if_neg q1] at g; exact g
theorem x_askD (hq : q = 7 ∨ q = 61) (h7 : s.2.2 65 7 = q + 1) (hD : rdD s t) (hm : mEnd s q m) : ∃ s', askB en (d + 2) v1 s = some (none, s') ∧ rxF true q m s s' ∧ mEnd s' q m ∧ rdD s' t := by
  obtain ⟨s', g1, g2⟩ := x_80D (en := en) (d := d) (v1 := v1) (v2 := fnd (s.2.1 12) (s.2.1 1 11) 16 0) hq h7 hD hm
  refine ⟨s', x_askB (c_named (r := 11) rfl) ?_, g2⟩
  refine le_X6_readAsked_59 en _ _ _ _ _ _ ?_
  obtain ⟨F, p, h1, h2⟩ := hD
  have hk := dX_ne (m := 2) h1 ⟨by decide, by decide⟩
  rw [if_pos (show ¬ s.1 1 9 = (2 : Int32) from hk)]
  exact g1
/-- a thread or a lock asked for -/
theorem ask_al (hE : eS lw q bs u B n s t V U cl nc nl nt i ct m m k pl) (hq : plcQ lw q bs) (hB : ∀ j, j < n → B j < 256) (hm : m < 400) (hw : lw = true) (hx : 328 ≤ x ∧ x ≤ 331) : ∃ s' t', askB en (d + 3) (nI x) s = some (none, s') ∧ bI (qev en (d' + 4) 254 [.ref 151] t) (fun w9 s10 => bV (qev en (d' + 4) 245 [.ref 151, .int w9, .int (2 : Int32)] s10) (fun s13 => L_X12_takeFact_232 en (d' + 4) (nI (x - 311)) s13)) = some (none, t') ∧ opR lw q bs u B n s t s' t' V cl nc nl nt ct m k pl := by
  obtain ⟨hl, hn, ⟨h8, h29⟩, ⟨h7, -⟩, ⟨x1, x2, x3⟩, ⟨y1, y2, y3⟩, hp⟩ := id hE
  obtain ⟨hi, c1, c2, c3⟩ := cL_at hl.1
  obtain ⟨⟨mX, mn, -⟩, m7, m4, mk1, m2, m3, m5, m6⟩ := id hl.2
  have hq' := hq.qq
  have hxl := tkK_lt hi
  have eN := m_isNameK (en := en) (d := d' + 2) hB hl.2
  have hM : mEnd s q m := ⟨m, y1, Nat.le_refl m, by
    rcases hq' with rfl | rfl
    · show m ≤ 500; omega
    · show m ≤ 400; omega⟩
  have hnx : (nI x = (331 : Int32)) = (x = 331) := n_eq (by decide) (by omega)
  by_cases q2 : tkK B n i = 2
  · have hv := tk_val (B := B) (n := n) hi
    have hv0 := word_pos hB hi (Or.inl q2)
    obtain ⟨wx, wy, wz, wr, e84, e256, e257, e258, hcase⟩ := name_alike hn hv hv0
    have cw := c3 (by omega)
    have mw := m5 (Or.inl q2)
    have c9 : s.1 1 9 = 2 := by rw [c1, q2]; rfl
    rw [q2, decide_eq_true rfl] at eN
    have e84' : ∀ d, qev en (d + 1) 84 [.ref 11, .long (s.2.1 1 11)] s = some (some (.int wx), s) := fun d => by rw [cw]; exact e84 d
    have preM : ∀ r, L_X12_takeFact_268 en (d' + 4) (nI (x - 311)) (if x = 331 then wz else wr) t = some r → bI (qev en (d' + 4) 254 [.ref 151] t) (fun w9 s10 => bV (qev en (d' + 4) 245 [.ref 151, .int w9, .int (2 : Int32)] s10) (fun s13 => L_X12_takeFact_232 en (d' + 4) (nI (x - 311)) s13)) = some r := fun r hr => by
      rw [eN, bI_some, show bt true = (1 : Int32) from rfl, m_needT, bV_some]
      refine le_X12_takeFact_232 en _ _ _ _ ?_
      rw [m_goodL m7, bI_some, if_pos (by decide), mw]
      by_cases q3 : x = 331
      · rw [if_neg (by rw [n_eq (by decide) (by omega)]; omega), e257, bI_some]
        rw [if_pos q3] at hr; exact hr
      · rw [if_pos (by rw [n_eq (by decide) (by omega)]; omega), e258, bI_some]
        rw [if_neg q3] at hr; exact hr
    -- what is asked for stands
    have fits : ∀ (O' Q' W' : Int32), (if x = 331 then (if wx < 8 then (0 : Int32) else if 12 ≤ wx then 0 else 1) else (if wx < 12 then 0 else 1)) = (1 : Int32) → askO (nI x) = O' → askQ (nI x) wx = Q' → (if x = 331 then wz else wr) = W' → W' ≠ -1 → (nd1 lw u O' Q' (nI (x - 311)) W') → (∃ kk ∈ opL, ar kk = 0 ∧ O' = nI kk ∧ (kk = 2 → ∃ a, Q' = nI a ∧ a < 236) ∧ (kk = 3 → ∃ a, Q' = nI a ∧ a / 8 < 236)) → ∃ s' t', askB en (d + 3) (nI x) s = some (none, s') ∧ bI (qev en (d' + 4) 254 [.ref 151] t) (fun w9 s10 => bV (qev en (d' + 4) 245 [.ref 151, .int w9, .int (2 : Int32)] s10) (fun s13 => L_X12_takeFact_232 en (d' + 4) (nI (x - 311)) s13)) = some (none, t') ∧ opR lw q bs u B n s t s' t' V cl nc nl nt ct m k pl := by
      intro O' Q' W' hf hO hQ hW hW1 hnd ⟨kk, k1, k2, k3, k4, k5⟩
      obtain ⟨s1, s2, t1, t2, a1, a2, a3, a4, a5, a6, a7, a8⟩ := adput_al (en := en) (d1 := d + 1) (d2 := d + 1) (d3 := d' + 2) (d4 := d' + 1) (O := O') (Q := Q') (M := nI (x - 311)) (W := W') hE hq hm (by omega)
      refine ⟨s2, t2, x_askB (e84' (d + 2)) ?_, preM _ ?_, a6.wk, a7.wk, ?_⟩
      · have e : (if nI x = 331 then (if wx < 8 then (0 : Int32) else if 12 ≤ wx then 0 else 1) else (if wx < 12 then 0 else 1)) = 1 := by
          refine Eq.trans ?_ hf
          by_cases q3 : x = 331
          · rw [if_pos (by rw [hnx]; exact q3), if_pos q3]
          · rw [if_neg (by rw [hnx]; exact q3), if_neg q3]
        rw [e]
        refine le_X6_readAsked_59 en _ _ _ _ _ _ ?_
        rw [if_neg (not_not_intro c9), if_pos (by decide)]
        refine x_80 hq' (s' := s1) (by rw [a2.2.2.2.2]; exact h7) ?_ ?_
        · rcases x_need (en := en) (k := 2) hl ⟨by omega, by omega⟩ with ⟨_, g⟩ | ⟨g, _⟩
          · exact g (d + 1) s1 a1
          · exact absurd q2 g
        · rw [hO, hQ]; exact a3
      · rw [hW]
        refine le_X12_takeFact_268 en _ _ _ _ _ ?_
        rw [m_goodL m7, bI_some, if_neg (by decide), if_neg hW1]
        refine le_X12_takeFact_287 en _ _ _ _ _ _ ?_
        rw [m_needT, bV_some]
        refine le_X12_takeFact_291 en _ _ _ _ _ ?_
        rw [a4, bV_some, a5, bV_some]
      · rcases a8 with ⟨b1, ⟨b2, b3⟩, b4, b5⟩ | b
        · refine Or.inl ⟨U, cl, i + 1, b1, by rw [b2, b3, b4, b5]; exact hnd, gw_one k1 k2 (b2.trans k3) (fun z => by rw [b3]; exact k4 z) (fun z => by rw [b3]; exact k5 z), fun _ => Nat.le_refl _⟩
        · exact Or.inr b
    have nofit : (if x = 331 then (if wx < 8 then (0 : Int32) else if 12 ≤ wx then 0 else 1) else (if wx < 12 then 0 else 1)) = (0 : Int32) → (if x = 331 then wz else wr) = -1 → ∃ s' t', askB en (d + 3) (nI x) s = some (none, s') ∧ bI (qev en (d' + 4) 254 [.ref 151] t) (fun w9 s10 => bV (qev en (d' + 4) 245 [.ref 151, .int w9, .int (2 : Int32)] s10) (fun s13 => L_X12_takeFact_232 en (d' + 4) (nI (x - 311)) s13)) = some (none, t') ∧ opR lw q bs u B n s t s' t' V cl nc nl nt ct m k pl := by
      intro hf hW
      obtain ⟨t', w1, w2, w3, w4⟩ := fault_al (en := en) (d' := d' + 2) (k := 3) hl ⟨by decide, by decide⟩
      have w1' : qev en (d' + 4) 245 [.ref 151, .int (0 : Int32), .int (3 : Int32)] t = some (none, t') := w1
      have hM' : mEnd (bmS s 3) q m := by
        obtain ⟨y, z1, z2⟩ := hM
        exact ⟨y, by rw [bmS_F.1 q (by omega) (by omega)]; exact z1, z2⟩
      obtain ⟨s', g1, g2, g3, g4⟩ := x_80D (en := en) (d := d + 1) (v1 := nI x) (v2 := wx) hq' (s := bmS s 3) (t := t') (by rw [bmS_F.2.2.2]; exact h7) ⟨3, _, w3, w4⟩ hM'
      refine ⟨s', t', x_askB (e84' (d + 2)) ?_, preM _ ?_, ((rxF.bm bmS_F hq').tr g2 (Nat.le_refl m)).wk, rmF.mv w2, Or.inr ⟨g4, g3, pil_mv (pil_of hE) w2⟩⟩
      · have e : (if nI x = 331 then (if wx < 8 then (0 : Int32) else if 12 ≤ wx then 0 else 1) else (if wx < 12 then 0 else 1)) = 0 := by
          refine Eq.trans ?_ hf
          by_cases q3 : x = 331
          · rw [if_pos (by rw [hnx]; exact q3), if_pos q3]
          · rw [if_neg (by rw [hnx]; exact q3), if_neg q3]
        rw [e]
        refine le_X6_readAsked_59 en _ _ _ _ _ _ ?_
        rw [if_neg (not_not_intro c9), if_neg (not_not_intro rfl), x_blame, bV_some]
        exact g1
      · rw [hW]
        refine le_X12_takeFact_268 en _ _ _ _ _ ?_
        rw [m_goodL m7, bI_some, if_neg (by decide), if_pos rfl]
        refine le_X12_takeFact_287 en _ _ _ _ _ _ ?_
        rw [w1', bV_some]
        refine le_X12_takeFact_291 en _ _ _ _ _ ?_
        rw [m_emitD w4, bV_some, m_nextD w4, bV_some]
    have hb3 := hn.1
    have no1 : ∀ a : Nat, a < 2 ^ 31 → nI a ≠ -1 := fun a ha h => (n_m1 ha).mp h
    rcases hcase with ⟨rfl, rfl, rfl, rfl⟩ | ⟨c, hc', rfl, rfl, rfl, rfl⟩ | ⟨l, hl', rfl, rfl, rfl, rfl⟩ | ⟨v, hv', rfl, rfl, rfl, rfl⟩
    · refine nofit ?_ ?_
      · split <;> rfl
      · split <;> rfl
    · refine nofit ?_ ?_
      · split
        · rw [if_pos (by rw [n_gt (by decide) (by omega)]; omega)]
        · rw [if_pos (by rw [n_gt (by decide) (by omega)]; omega)]
      · split <;> rfl
    · by_cases q3 : x = 331
      · subst q3
        refine fits 2 (nI (40 + l)) (nI l) ?_ rfl ?_ rfl (no1 _ (by omega)) ⟨2, 20, by decide, rfl, rfl, ?_, fun z => by rw [hw] at z; cases z⟩ ⟨2, by decide, rfl, rfl, fun _ => ⟨_, rfl, by omega⟩, fun z => by omega⟩
        · rw [if_pos rfl, if_neg (by rw [n_gt (by decide) (by omega)]; omega), if_neg (by rw [n_le (by decide) (by omega)]; omega)]
        · show (40 : Int32) + nI (8 + l) - (8 : Int32) = _
          rw [show (40 : Int32) + nI (8 + l) = nI (40 + (8 + l)) from n_al, show nI (40 + (8 + l)) - (8 : Int32) = nI (40 + (8 + l) - 8) from n_sr (by omega)]
          congr 1
          omega
        · unfold ndR
          simp only [true_and]
          have : ∃ l_1, l_1 < 4 ∧ nI (40 + l) = nI (40 + l_1) ∧ nI l = nI l_1 := ⟨l, by omega, rfl, rfl⟩
          simp [this]
      · refine nofit ?_ ?_
        · rw [if_neg q3, if_pos (by rw [n_gt (by decide) (by omega)]; omega)]
        · rw [if_neg q3]
    · by_cases q3 : x = 331
      · refine nofit ?_ ?_
        · rw [if_pos q3, if_neg (by rw [n_gt (by decide) (by omega)]; omega), if_pos (by rw [n_le (by decide) (by omega)]; omega)]
        · rw [if_pos q3]
      · have eQ : ∀ y : Nat, (nI (12 + v) - (12 : Int32)) * (8 : Int32) + nI y = nI (v * 8 + y) := fun y => by
          rw [show nI (12 + v) - (12 : Int32) = nI (12 + v - 12) from n_sr (by omega), show 12 + v - 12 = v by omega, show nI v * (8 : Int32) = nI (v * 8) from n_mr, nI_add]
        have go : ∀ (y : Nat), y < 8 → askQ (nI x) (nI (12 + v)) = (nI (12 + v) - (12 : Int32)) * (8 : Int32) + nI y → ndR u 3 (nI (v * 8 + y)) (x - 311) (nI v) → ∃ s' t', askB en (d + 3) (nI x) s = some (none, s') ∧ bI (qev en (d' + 4) 254 [.ref 151] t) (fun w9 s10 => bV (qev en (d' + 4) 245 [.ref 151, .int w9, .int (2 : Int32)] s10) (fun s13 => L_X12_takeFact_232 en (d' + 4) (nI (x - 311)) s13)) = some (none, t') ∧ opR lw q bs u B n s t s' t' V cl nc nl nt ct m k pl := fun y hy he hnd => by
          refine fits 3 (nI (v * 8 + y)) (nI v) ?_ ?_ (he.trans (eQ y)) ?_ (no1 _ (by omega)) ⟨3, x - 311, by decide, rfl, rfl, hnd, fun z => by rw [hw] at z; cases z⟩ ⟨3, by decide, rfl, rfl, fun z => by omega, fun _ => ⟨_, rfl, by omega⟩⟩
          · rw [if_neg q3, if_neg (by rw [n_gt (by decide) (by omega)]; omega)]
          · unfold askO
            rw [if_neg (by rw [hnx]; exact q3)]
          · rw [if_neg q3]
        have h3 : x = 328 ∨ x = 329 ∨ x = 330 := by omega
        have hv4 : ∃ u_1, u_1 < 4 ∧ nI (v * 8 + 4) = nI (u_1 * 8 + 4) ∧ nI v = nI u_1 := ⟨v, by omega, rfl, rfl⟩
        have hv5 : ∃ u_1, u_1 < 4 ∧ nI (v * 8 + 5) = nI (u_1 * 8 + 5) ∧ nI v = nI u_1 := ⟨v, by omega, rfl, rfl⟩
        have hv2 : ∃ u_1, u_1 < 4 ∧ nI (v * 8 + 2) = nI (u_1 * 8 + 2) ∧ nI v = nI u_1 := ⟨v, by omega, rfl, rfl⟩
        rcases h3 with rfl | rfl | rfl
        · exact go 4 (by decide) rfl (by unfold ndR; simp [hv4])
        · exact go 5 (by decide) rfl (by unfold ndR; simp [hv5])
        · exact go 2 (by decide) rfl (by unfold ndR; simp [hv2])
  · -- no name
    obtain ⟨t', w1, w2, w3, w4⟩ := fault_al (en := en) (d' := d' + 2) (k := 2) hl ⟨by decide, by decide⟩
    have w1' : qev en (d' + 4) 245 [.ref 151, .int (bt false), .int (2 : Int32)] t = some (none, t') := w1
    rw [decide_eq_false q2] at eN
    have hM' : mEnd (bmS s 2) q m := by
      obtain ⟨y, z1, z2⟩ := hM
      exact ⟨y, by rw [bmS_F.1 q (by omega) (by omega)]; exact z1, z2⟩
    obtain ⟨s', g1, g2, g3, g4⟩ := putD_al (en := en) (d := d + 1) (v := askO (nI x)) (w := askQ (nI x) (fnd (s.2.1 12) (s.2.1 1 11) 16 0)) hq' hM' ⟨2, _, w3, w4⟩
    refine ⟨s', t', x_askB (c_named (r := 11) rfl) ?_, ?_, ((rxF.bm bmS_F hq').tr g2 (Nat.le_refl m)).wk, rmF.mv w2, Or.inr ⟨g4, g3, pil_mv (pil_of hE) w2⟩⟩
    · refine le_X6_readAsked_59 en _ _ _ _ _ _ ?_
      rw [if_pos (by rw [c1, n_eq (by decide) (by omega)]; exact q2)]
      refine x_80 hq' (s' := bmS s 2) (by rw [bmS_F.2.2.2]; exact h7) ?_ g1
      rcases x_need (en := en) (k := 2) hl ⟨by omega, by omega⟩ with ⟨g, _⟩ | ⟨_, g⟩
      · exact absurd g q2
      · exact g (d + 1)
    · rw [eN, bI_some, w1', bV_some, m_232D w4]
end EXF
