/-! THE READER: what begins a statement, on both sides. -/
def kwV (x : Nat) : Int32 := if 300 ≤ x ∧ x ≤ 315 then nI (x - 297) else -1
section MBG
variable {en : pN} {d d' k i n N j x y nc nl nt : Nat} {V cl : Nat → Nat} {U : Nat → Nat → Nat} {s s' t t' : qS} {B : Nat → Nat} {v w : Int32} {F p : Nat}
theorem fct_w2 (hB : ∀ j, j < n → B j < 256) (hm : mtL t B n i) (hk : tkK B n i = 2 ∨ 300 ≤ tkK B n i) {C : Int64} (hj : j < 33) (hC : C = Int64.ofNat (w8 8 (KN.getD j 0))) : lg_cmp (t.2.1 151 5) C = 0 ↔ tkK B n i = 300 + j := by
  obtain ⟨⟨mX, mn, hi⟩, m7, m4, mk1, m2, m3, m5, m6⟩ := id hm
  have hv := tk_val (B := B) (n := n) hi
  have hc : KN.getD j 0 < 128 ^ 8 := by
    have hlen : KN.length = 33 := rfl
    rw [List.getD_eq_getElem?_getD, List.getElem?_eq_getElem (by omega)]
    exact KN_lt _ (List.getElem_mem _)
  rw [m5 hk, lgc0, hC, key8 hv hc, word_kyd hB hi hk, kyd_is hj]
theorem m_kwd (hB : ∀ j, j < n → B j < 256) (hm : mtL t B n i) : qev en (d + 1) 277 [.ref 151] t = some (some (.int (kwV (tkK B n i))), t) := by
  have hxl := tkK_lt hm.1.2.2
  obtain ⟨k1, k2, -⟩ := kdM_v hxl
  have m3 := hm.2.2.2.2.2.1
  have mk1 := hm.2.2.2.1
  refine le_X12_keywordAtHand en _ _ _ ?_
  by_cases hk : tkK B n i = 2 ∨ 300 ≤ tkK B n i
  · rw [if_neg (by rw [m3, n_eq (by decide) (by omega)]; exact not_not_intro (k2.mpr (Or.inr hk)))]
    refine le_X12_keywordAtHand_16 en _ _ _ _ ?_
    have g : ∀ (j : Nat) (C : Int64), j < 33 → C = Int64.ofNat (w8 8 (KN.getD j 0)) → (lg_cmp (t.2.1 151 5) C = 0 ↔ tkK B n i = 300 + j) := fun j C hj hC => fct_w2 hB hm hk hj hC
    have st : ∀ (j : Nat) (C : Int64) (X Y R : Option qR), j < 33 → C = Int64.ofNat (w8 8 (KN.getD j 0)) → (tkK B n i = 300 + j → Y = R) → (tkK B n i ≠ 300 + j → X = R) → (if ¬ lg_cmp (t.2.1 151 5) C = (0 : Int32) then X else Y) = R := fun j C X Y R hj hC h1 h2 => by
      by_cases z : tkK B n i = 300 + j
      · rw [if_neg (not_not_intro ((g j C hj hC).mpr z))]; exact h1 z
      · rw [if_pos (fun y => z ((g j C hj hC).mp y))]; exact h2 z
    have fin : ∀ j : Nat, j < 16 → tkK B n i = 300 + j → (some (some (.int (nI (3 + j))), t) : Option qR) = some (some (.int (kwV (tkK B n i))), t) := fun j hj hz => by
      unfold kwV
      rw [hz, if_pos ⟨by omega, by omega⟩, show 300 + j - 297 = 3 + j by omega]
    refine st 0 _ _ _ _ (by decide) (by decide) (fun z => fin 0 (by decide) z) (fun z0 => ?_)
    refine st 1 _ _ _ _ (by decide) (by decide) (fun z => fin 1 (by decide) z) (fun z1 => ?_)
    refine st 2 _ _ _ _ (by decide) (by decide) (fun z => fin 2 (by decide) z) (fun z2 => ?_)
    refine st 3 _ _ _ _ (by decide) (by decide) (fun z => fin 3 (by decide) z) (fun z3 => ?_)
    refine st 4 _ _ _ _ (by decide) (by decide) (fun z => fin 4 (by decide) z) (fun z4 => ?_)
    refine st 5 _ _ _ _ (by decide) (by decide) (fun z => fin 5 (by decide) z) (fun z5 => ?_)
    refine st 6 _ _ _ _ (by decide) (by decide) (fun z => fin 6 (by decide) z) (fun z6 => ?_)
    refine st 7 _ _ _ _ (by decide) (by decide) (fun z => fin 7 (by decide) z) (fun z7 => ?_)
    refine st 8 _ _ _ _ (by decide) (by decide) (fun z => fin 8 (by decide) z) (fun z8 => ?_)
    refine st 9 _ _ _ _ (by decide) (by decide) (fun z => fin 9 (by decide) z) (fun z9 => ?_)
    refine st 10 _ _ _ _ (by decide) (by decide) (fun z => fin 10 (by decide) z) (fun z10 => ?_)
    refine st 11 _ _ _ _ (by decide) (by decide) (fun z => fin 11 (by decide) z) (fun z11 => ?_)
    refine st 12 _ _ _ _ (by decide) (by decide) (fun z => fin 12 (by decide) z) (fun z12 => ?_)
    refine st 13 _ _ _ _ (by decide) (by decide) (fun z => fin 13 (by decide) z) (fun z13 => ?_)
    refine st 14 _ _ _ _ (by decide) (by decide) (fun z => fin 14 (by decide) z) (fun z14 => ?_)
    refine st 15 _ _ _ _ (by decide) (by decide) (fun z => fin 15 (by decide) z) (fun z15 => ?_)
    unfold kwV
    rw [if_neg (by omega)]
  · rw [if_pos (by rw [m3, n_eq (by decide) (by omega)]; exact fun z => hk ((k2.mp z).resolve_left mk1))]
    refine le_X12_keywordAtHand_16 en _ _ _ _ ?_
    unfold kwV
    rw [if_neg (show ¬ (300 ≤ tkK B n i ∧ tkK B n i ≤ 315) by omega)]
    rw [if_pos (by decide), if_pos (by decide), if_pos (by decide), if_pos (by decide), if_pos (by decide), if_pos (by decide), if_pos (by decide), if_pos (by decide), if_pos (by decide), if_pos (by decide), if_pos (by decide), if_pos (by decide), if_pos (by decide), if_pos (by decide), if_pos (by decide), if_pos (by decide)]
/-- a statement may begin, or not -/
theorem may_al (h : rdL s t B n i) (hn : nmR s t V U cl nc nl nt) (hB : ∀ j, j < n → B j < 256) (h12 : s.1 11 12 = nI N) (h32 : t.1 151 32 = nI N) (hN : N ≤ 100) :
    (∃ s' t', qev en (d + 3) 123 [.ref 65] s = some (some (.int 0), s') ∧ qev en (d' + 4) 278 [.ref 151] t = some (none, t') ∧ rdD s' t' ∧ bmF s s' ∧ mvF t t') ∨
    (N < 100 ∧ qev en (d + 3) 123 [.ref 65] s = some (some (.int 1), s) ∧ ((300 ≤ tkK B n i ∧ tkK B n i ≤ 315 ∧ ∀ r, L_X12_readStatement_99 en (d' + 3) (nI (tkK B n i - 297)) t = some r → qev en (d' + 4) 278 [.ref 151] t = some r) ∨ (tkK B n i = 2 ∧ (∀ r, L_X12_readStatement_99 en (d' + 3) (-1) t = some r → qev en (d' + 4) 278 [.ref 151] t = some r) ∧ ∃ wx wy : Int32, (∀ d, qev en (d + 1) 84 [.ref 11, .long (s.2.1 1 11)] s = some (some (.int wx), s)) ∧ (∀ d, qev en (d + 1) 256 [.ref 151, .long (t.2.1 151 5)] t = some (some (.int wy), t)) ∧ ((wx = -1 ∧ wy = -1) ∨ ∃ c, c < nc ∧ wx = nI c ∧ wy = nI c)))) := by
  obtain ⟨hc, hm⟩ := h
  obtain ⟨hi, c1, c2, c3⟩ := cL_at hc
  obtain ⟨⟨mX, mn, -⟩, m7, m4, mk1, m2, m3, m5, m6⟩ := id hm
  have hxl := tkK_lt hi
  have hb3 := hn.1
  have eK := m_kwd (en := en) (d := d' + 2) hB hm
  have eN := m_isNameK (en := en) (d := d' + 1) hB hm
  have x117 : ∀ s' : qS, s'.1 1 9 = 0 → L_X6_mayBegin_117 en (d + 2) s' = some (some (.int 0), s') := fun s' h0 => by
    refine le_X6_mayBegin_117 en _ _ _ ?_
    rw [if_pos h0]
  have bm0 : ∀ q, (bmS s q).1 1 9 = 0 := fun q => bmS_0
  have x78 : ∀ v : Int32, (if v < 8 then (0 : Int32) else if 12 ≤ v then 0 else 1) = 0 → (if v < 12 then (0 : Int32) else 1) = 0 → ∀ r, (if nI N < (100 : Int32) then L_X6_mayBegin_117 en (d + 2) s else bV (qev en (d + 2) 114 [.ref 65, .int (4 : Int32)] s) (fun s11 => L_X6_mayBegin_117 en (d + 2) s11)) = some r → L_X6_mayBegin_78 en (d + 2) v s = some r := fun v h1 h2 r hr => by
    refine le_X6_mayBegin_78 en _ _ _ _ ?_
    rw [x_isLock, bI_some, h1, if_neg (not_not_intro rfl), x_isThread, bI_some, h2, if_pos rfl, h12]
    exact hr
  have m73 : ∀ v r, (if (100 : Int32) ≤ nI N then L_X12_readStatement_95 en (d' + 3) v 0 t else L_X12_readStatement_95 en (d' + 3) v 1 t) = some r → L_X12_readStatement_73 en (d' + 3) v t = some r := fun v r hr => by
    refine le_X12_readStatement_73 en _ _ _ _ ?_
    rw [m_goodL m7, bI_some, if_neg (by decide), h32]
    exact hr
  have m99D : ∀ v t' F' p', mtD t' F' p' → L_X12_readStatement_99 en (d' + 3) v t' = some (none, t') := fun v t' F' p' hD => by
    refine le_X12_readStatement_99 en _ _ _ _ ?_
    rw [m_goodD hD, bI_some, if_neg (not_not_intro rfl)]
  have m73D : ∀ v t' F' p', mtD t' F' p' → L_X12_readStatement_73 en (d' + 3) v t' = some (none, t') := fun v t' F' p' hD => by
    refine le_X12_readStatement_73 en _ _ _ _ ?_
    rw [m_goodD hD, bI_some, if_pos rfl]
    exact m99D v t' F' p' hD
  have room : ∀ (v w : Int32) (R : Option qR), (∀ r, L_X6_mayBegin_78 en (d + 2) w s = some r → qev en (d + 3) 123 [.ref 65] s = some r) → (if w < 8 then (0 : Int32) else if 12 ≤ w then 0 else 1) = 0 → (if w < 12 then (0 : Int32) else 1) = 0 → (∀ r, L_X12_readStatement_73 en (d' + 3) v t = some r → qev en (d' + 4) 278 [.ref 151] t = some r) → (s.1 1 9 ≠ 0) → (∃ s' t', qev en (d + 3) 123 [.ref 65] s = some (some (.int 0), s') ∧ qev en (d' + 4) 278 [.ref 151] t = some (none, t') ∧ rdD s' t' ∧ bmF s s' ∧ mvF t t') ∨ (N < 100 ∧ qev en (d + 3) 123 [.ref 65] s = some (some (.int 1), s) ∧ ∀ r, L_X12_readStatement_99 en (d' + 3) v t = some r → qev en (d' + 4) 278 [.ref 151] t = some r) := fun v w R h1 h2 h3 h4 h5 => by
    by_cases q : N < 100
    · right
      refine ⟨q, h1 _ (x78 w h2 h3 _ ?_), fun r hr => h4 r (m73 v r ?_)⟩
      · rw [if_pos (by rw [n_gt (by decide) (by omega)]; exact q)]
        refine le_X6_mayBegin_117 en _ _ _ ?_
        rw [if_neg h5]
      · rw [if_neg (by rw [n_le (by decide) (by omega)]; omega)]
        refine le_X12_readStatement_95 en _ _ _ _ _ ?_
        rw [m_needT, bV_some]
        exact hr
    · left
      obtain ⟨t', w1, w2, w3, w4⟩ := fault_al (en := en) (d' := d' + 1) (k := 4) ⟨hc, hm⟩ ⟨by decide, by decide⟩
      have w1' : qev en (d' + 3) 245 [.ref 151, .int (0 : Int32), .int (4 : Int32)] t = some (none, t') := w1
      refine ⟨bmS s 4, t', h1 _ (x78 w h2 h3 _ ?_), h4 _ (m73 v _ ?_), ⟨4, _, w3, w4⟩, bmS_F, w2⟩
      · rw [if_neg (by rw [n_gt (by decide) (by omega)]; exact q), x_blame, bV_some]
        exact x117 _ (bm0 4)
      · rw [if_pos (by rw [n_le (by decide) (by omega)]; omega)]
        refine le_X12_readStatement_95 en _ _ _ _ _ ?_
        rw [w1', bV_some]
        exact m99D v t' _ _ w4
  have hk0 : ∀ y : Nat, tkK B n i = y → y < 400 → y ≠ 0 → s.1 1 9 ≠ 0 := fun y hy hy4 hy0 => by
    rw [c1, hy]
    exact fun z => hy0 ((n_eq (by decide) (by omega)).mp z)
  by_cases q2 : tkK B n i = 2
  · have hv := tk_val (B := B) (n := n) hi
    have hv0 := word_pos hB hi (Or.inl q2)
    obtain ⟨wx, wy, wz, wr, e84, e256, e257, e258, hcase⟩ := name_alike hn hv hv0
    have cw := c3 (by omega)
    have mw := m5 (Or.inl q2)
    have ekw : kwV (tkK B n i) = -1 := by
      unfold kwV
      rw [if_neg (by omega)]
    rw [ekw] at eK
    rw [q2, decide_eq_true rfl] at eN
    have preX : ∀ r, L_X6_mayBegin_78 en (d + 2) wx s = some r → qev en (d + 3) 123 [.ref 65] s = some r := fun r hr => by
      refine le_X6_mayBegin en _ _ _ ?_
      rw [c1, q2, if_neg (show ¬ ¬ nI 2 = (2 : Int32) from not_not_intro rfl)]
      refine le_X6_mayBegin_16 en _ _ _ _ ?_
      rw [if_neg (by decide), cw, e84, bI_some]
      refine le_X6_mayBegin_39 en _ _ _ _ _ ?_
      rw [if_pos (by decide)]
      exact hr
    have preM : ∀ r, (if ¬ wz = (-1 : Int32) then L_X12_readStatement_69 en (d' + 3) (-1) 0 t else if ¬ wr = (-1 : Int32) then L_X12_readStatement_69 en (d' + 3) (-1) 0 t else L_X12_readStatement_69 en (d' + 3) (-1) 1 t) = some r → qev en (d' + 4) 278 [.ref 151] t = some r := fun r hr => by
      refine le_X12_readStatement en _ _ _ ?_
      rw [eK, bI_some, if_neg (not_not_intro rfl), eN, bI_some, if_neg (by decide)]
      refine le_X12_readStatement_23 en _ _ _ _ _ ?_
      rw [m_needT, bV_some, m_goodL m7, bI_some, if_neg (by decide), if_neg (not_not_intro rfl), mw, e257, bI_some]
      by_cases z : wz = -1
      · rw [if_neg (not_not_intro z), mw, e258, bI_some]
        rw [if_neg (not_not_intro z)] at hr
        exact hr
      · rw [if_pos z]
        rw [if_pos z] at hr
        exact hr
    have no1 : ∀ a : Nat, a < 2 ^ 31 → nI a ≠ -1 := fun a ha h => (n_m1 ha).mp h
    have ok : wz = -1 → wr = -1 → (if wx < 8 then (0 : Int32) else if 12 ≤ wx then 0 else 1) = 0 → (if wx < 12 then (0 : Int32) else 1) = 0 → ((wx = -1 ∧ wy = -1) ∨ ∃ c, c < nc ∧ wx = nI c ∧ wy = nI c) → (∃ s' t', qev en (d + 3) 123 [.ref 65] s = some (some (.int 0), s') ∧ qev en (d' + 4) 278 [.ref 151] t = some (none, t') ∧ rdD s' t' ∧ bmF s s' ∧ mvF t t') ∨
    (N < 100 ∧ qev en (d + 3) 123 [.ref 65] s = some (some (.int 1), s) ∧ ((300 ≤ tkK B n i ∧ tkK B n i ≤ 315 ∧ ∀ r, L_X12_readStatement_99 en (d' + 3) (nI (tkK B n i - 297)) t = some r → qev en (d' + 4) 278 [.ref 151] t = some r) ∨ (tkK B n i = 2 ∧ (∀ r, L_X12_readStatement_99 en (d' + 3) (-1) t = some r → qev en (d' + 4) 278 [.ref 151] t = some r) ∧ ∃ wx wy : Int32, (∀ d, qev en (d + 1) 84 [.ref 11, .long (s.2.1 1 11)] s = some (some (.int wx), s)) ∧ (∀ d, qev en (d + 1) 256 [.ref 151, .long (t.2.1 151 5)] t = some (some (.int wy), t)) ∧ ((wx = -1 ∧ wy = -1) ∨ ∃ c, c < nc ∧ wx = nI c ∧ wy = nI c)))) := fun z1 z2 z3 z4 z5 => by
      rcases room (-1) wx none preX z3 z4 (fun r hr => preM r (by
        rw [if_neg (not_not_intro z1), if_neg (not_not_intro z2)]
        refine le_X12_readStatement_69 en _ _ _ _ _ ?_
        rw [m_needT, bV_some]
        exact hr)) (hk0 2 q2 (by decide) (by decide)) with h | ⟨h1, h2, h3⟩
      · exact Or.inl h
      · exact Or.inr ⟨h1, h2, Or.inr ⟨q2, h3, wx, wy, fun d => by rw [cw]; exact e84 d, fun d => by rw [mw]; exact e256 d, z5⟩⟩
    have bad : (if wx < 8 then (0 : Int32) else if 12 ≤ wx then 0 else 1) ≠ 0 ∨ ((if wx < 8 then (0 : Int32) else if 12 ≤ wx then 0 else 1) = 0 ∧ (if wx < 12 then (0 : Int32) else 1) ≠ 0) → (wz ≠ -1 ∨ wr ≠ -1) → ∃ s' t', qev en (d + 3) 123 [.ref 65] s = some (some (.int 0), s') ∧ qev en (d' + 4) 278 [.ref 151] t = some (none, t') ∧ rdD s' t' ∧ bmF s s' ∧ mvF t t' := fun z1 z2 => by
      obtain ⟨t', w1, w2, w3, w4⟩ := fault_al (en := en) (d' := d' + 1) (k := 3) ⟨hc, hm⟩ ⟨by decide, by decide⟩
      have w1' : qev en (d' + 3) 245 [.ref 151, .int (0 : Int32), .int (3 : Int32)] t = some (none, t') := w1
      have x92 : L_X6_mayBegin_92 en (d + 2) s = some (some (.int 0), bmS s 3) := by
        refine le_X6_mayBegin_92 en _ _ _ ?_
        rw [x_blame, bV_some]
        exact x117 _ (bm0 3)
      refine ⟨bmS s 3, t', preX _ ?_, preM _ ?_, ⟨3, _, w3, w4⟩, bmS_F, w2⟩
      · refine le_X6_mayBegin_78 en _ _ _ _ ?_
        rw [x_isLock, bI_some]
        rcases z1 with z1 | ⟨z1, z1'⟩
        · rw [if_pos z1]; exact x92
        · rw [if_neg (not_not_intro z1), x_isThread, bI_some, if_neg z1']; exact x92
      · have m69 : L_X12_readStatement_69 en (d' + 3) (-1) 0 t = some (none, t') := by
          refine le_X12_readStatement_69 en _ _ _ _ _ ?_
          rw [w1', bV_some]
          exact m73D _ t' _ _ w4
        by_cases z : wz = -1
        · rw [if_neg (not_not_intro z), if_pos (z2.resolve_left (not_not_intro z))]; exact m69
        · rw [if_pos z]; exact m69
    rcases hcase with ⟨rfl, rfl, rfl, rfl⟩ | ⟨c, hc', rfl, rfl, rfl, rfl⟩ | ⟨l, hl', rfl, rfl, rfl, rfl⟩ | ⟨v, hv', rfl, rfl, rfl, rfl⟩
    · exact ok rfl rfl (by decide) (by decide) (Or.inl ⟨rfl, rfl⟩)
    · exact ok rfl rfl (by rw [if_pos (by rw [n_gt (by decide) (by omega)]; omega)]) (by rw [if_pos (by rw [n_gt (by decide) (by omega)]; omega)]) (Or.inr ⟨c, hc', rfl, rfl⟩)
    · exact Or.inl (bad (Or.inl (by rw [if_neg (by rw [n_gt (by decide) (by omega)]; omega), if_neg (by rw [n_le (by decide) (by omega)]; omega)]; decide)) (Or.inl (no1 _ (by omega))))
    · exact Or.inl (bad (Or.inr ⟨by rw [if_neg (by rw [n_gt (by decide) (by omega)]; omega), if_pos (by rw [n_le (by decide) (by omega)]; omega)], by rw [if_neg (by rw [n_gt (by decide) (by omega)]; omega)]; decide⟩) (Or.inr (no1 _ (by omega))))
  · rw [decide_eq_false q2] at eN
    have x9 : ¬ s.1 1 9 = (2 : Int32) := by rw [c1, n_eq (by decide) (by omega)]; exact q2
    have preX : ∀ r, (if nI (tkK B n i) < (300 : Int32) then L_X6_mayBegin_70 en (d + 2) s else if nI (tkK B n i) ≤ (315 : Int32) then L_X6_mayBegin_78 en (d + 2) (-1) s else L_X6_mayBegin_70 en (d + 2) s) = some r → qev en (d + 3) 123 [.ref 65] s = some r := fun r hr => by
      refine le_X6_mayBegin en _ _ _ ?_
      rw [if_pos x9]
      refine le_X6_mayBegin_16 en _ _ _ _ ?_
      rw [if_pos rfl]
      refine le_X6_mayBegin_39 en _ _ _ _ _ ?_
      rw [if_neg (not_not_intro rfl), c1]
      exact hr
    by_cases q3 : 300 ≤ tkK B n i ∧ tkK B n i ≤ 315
    · have ekw : kwV (tkK B n i) = nI (tkK B n i - 297) := by
        unfold kwV
        rw [if_pos q3]
      rw [ekw] at eK
      have hne : ¬ nI (tkK B n i - 297) = -1 := fun z => (n_m1 (by omega)).mp z
      rcases room (nI (tkK B n i - 297)) (-1) none (fun r hr => preX r (by
        rw [if_neg (by rw [n_gt (by decide) (by omega)]; omega), if_pos (by rw [n_ge (by decide) (by omega)]; omega)]
        exact hr)) (by decide) (by decide) (fun r hr => by
        refine le_X12_readStatement en _ _ _ ?_
        rw [eK, bI_some, if_pos hne]
        refine le_X12_readStatement_23 en _ _ _ _ _ ?_
        rw [m_needT, bV_some, m_goodL m7, bI_some, if_neg (by decide), if_pos hne]
        exact hr) (hk0 _ rfl hxl (by omega)) with h | ⟨h1, h2, h3⟩
      · exact Or.inl h
      · exact Or.inr ⟨h1, h2, Or.inl ⟨q3.1, q3.2, h3⟩⟩
    · have ekw : kwV (tkK B n i) = -1 := by
        unfold kwV
        rw [if_neg q3]
      rw [ekw] at eK
      left
      obtain ⟨t', w1, w2, w3, w4⟩ := fault_al (en := en) (d' := d' + 1) (k := 2) ⟨hc, hm⟩ ⟨by decide, by decide⟩
      have w1' : qev en (d' + 3) 245 [.ref 151, .int (0 : Int32), .int (2 : Int32)] t = some (none, t') := w1
      have x70 : L_X6_mayBegin_70 en (d + 2) s = some (some (.int 0), bmS s 2) := by
        refine le_X6_mayBegin_70 en _ _ _ ?_
        rw [x_blame, bV_some]
        exact x117 _ (bm0 2)
      refine ⟨bmS s 2, t', preX _ ?_, ?_, ⟨2, _, w3, w4⟩, bmS_F, w2⟩
      · by_cases z : tkK B n i < 300
        · rw [if_pos (by rw [n_gt (by decide) (by omega)]; exact z)]; exact x70
        · rw [if_neg (by rw [n_gt (by decide) (by omega)]; exact z), if_neg (by rw [n_ge (by decide) (by omega)]; omega)]; exact x70
      · refine le_X12_readStatement en _ _ _ ?_
        rw [eK, bI_some, if_neg (not_not_intro rfl), eN, bI_some, if_pos (show bt false = (0 : Int32) from rfl)]
        refine le_X12_readStatement_23 en _ _ _ _ _ ?_
        rw [w1', bV_some, m_goodD w4, bI_some, if_pos rfl]
        exact m73D _ t' _ _ w4
end MBG
