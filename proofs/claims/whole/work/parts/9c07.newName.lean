/-! THE READER: new names on both sides. -/
/-- whether one of k threads from i on has the local v -/
def lcT (U : Nat → Nat → Nat) (cl : Nat → Nat) (v : Nat) : Nat → Nat → Bool
  | 0, _ => false
  | k + 1, i => decide (fnN (U i) v (cl i) 0 ≠ -1) || lcT U cl v k (i + 1)
section NNM
variable {en : pN} {d d' k i n N j x y a mx v nc nl nt : Nat} {V cl : Nat → Nat} {U : Nat → Nat → Nat} {s s' t t' : qS} {B : Nat → Nat} {w : Int32} {F p : Nat}
theorem fnN_neg (h6 : cl x ≤ 6) : (fnN (U x) v (cl x) 0 < (0 : Int32)) ↔ fnN (U x) v (cl x) 0 = -1 := by
  rcases fnN_is (V := U x) (v := v) (cl x) 0 with ⟨h1, _⟩ | ⟨j, _, h2, h3, _, _⟩
  · rw [h1]; exact ⟨fun _ => rfl, fun _ => by decide⟩
  · rw [h3]
    refine ⟨fun h => ?_, fun h => ?_⟩
    · rw [n_gt (by decide) (by omega)] at h; omega
    · rw [n_m1 (by omega)] at h; exact h.elim
/-- the locals of all threads, the class's search -/
theorem x_toldL (hn : nmR s t V U cl nc nl nt) (hv : v < 128 ^ 8) : ∀ k i, i + k = nt → ∀ r, (if lcT U cl v k i = true then some (some (.int 1), s) else bI (qev en (d + 2) 84 [.ref 11, .long (Int64.ofNat v)] s) (fun w2 s3 => if w2 < (0 : Int32) then some (some (.int (0 : Int32)), s3) else some (some (.int (1 : Int32)), s3))) = some r → L_X5_isTold_2 en (d + 2) 11 (Int64.ofNat v) (nI i) s = some r := by
  obtain ⟨⟨hnc, hnl, hnt4⟩, ⟨s9, s10, s11⟩, ⟨t12, t16, t18⟩, hV, hT, hL⟩ := id hn
  have e11 : lc 11 = 5 := rfl
  intro k
  induction k with
  | zero =>
    intro i hi r hr
    refine le_X5_isTold_2 en _ _ _ _ _ _ ?_
    rw [gd_true e11, s11, if_pos (by rw [n_LE (by omega) (by omega)]; omega)]
    rw [if_neg (show ¬ lcT U cl v 0 i = true from fun h => Bool.noConfusion (show false = true from h))] at hr
    exact hr
  | succ k ih =>
    intro i hi r hr
    obtain ⟨l1, -, l3, l4⟩ := hL i (by omega)
    have ef : fnd (fun j => s.2.1 13 (i * 6 + j)) (Int64.ofNat v) (cl i) 0 = fnN (U i) v (cl i) 0 := by
      rw [show Int64.ofNat v = Int64.ofNat (id v) from rfl, fnd_N (e := id) (V := U i) (fun a b => id_of) hv (cl i) 0 (fun j a b => by
        obtain ⟨g1, g2, g3⟩ := l4 j (by omega)
        exact ⟨g1, g3⟩)]
    have e88 : qev en (d + 2) 88 [.ref 11, .int (nI i), .long (Int64.ofNat v)] s = some (some (.int (fnN (U i) v (cl i) 0)), s) := by
      rw [x_localOf (by omega) l1 l3, ef]
    refine le_X5_isTold_2 en _ _ _ _ _ _ ?_
    rw [gd_true e11, s11, if_neg (by rw [n_LE (by omega) (by omega)]; omega), e88, bI_some]
    unfold lcT at hr
    by_cases q : fnN (U i) v (cl i) 0 = -1
    · rw [if_pos ((fnN_neg l3).mpr q), show nI i + (1 : Int32) = nI (i + 1) from n_ar]
      refine ih (i + 1) (by omega) r ?_
      rw [show decide (fnN (U i) v (cl i) 0 ≠ -1) = false from decide_eq_false (not_not_intro q), Bool.false_or] at hr
      exact hr
    · rw [if_neg (fun z => q ((fnN_neg l3).mp z))]
      rw [decide_eq_true q, Bool.true_or, if_pos rfl] at hr
      exact hr
/-- the locals of all threads, the model's search -/
theorem m_toldL (hn : nmR s t V U cl nc nl nt) (hv : v < 128 ^ 8) (h5 : t.2.1 151 5 = Int64.ofNat (w8 8 v)) : ∀ (k i : Nat) (b : Bool), i + k = nt → L_X12_isLocalOfSome_4 en (d + 1) (bt b) (nI i) t = some (some (.int (bt (b || lcT U cl v k i))), t) := by
  obtain ⟨⟨hnc, hnl, hnt4⟩, ⟨s9, s10, s11⟩, ⟨t12, t16, t18⟩, hV, hT, hL⟩ := id hn
  intro k
  induction k with
  | zero =>
    intro i b hi
    refine le_X12_isLocalOfSome_4 en _ _ _ _ _ ?_
    rw [t18, if_pos (by rw [n_LE (by omega) (by omega)]; omega), gd_true (by cases b; exact Or.inl rfl; exact Or.inr rfl)]
    unfold lcT
    rw [Bool.or_false]
  | succ k ih =>
    intro i b hi
    obtain ⟨l1, ⟨l2, -⟩, l3, l4⟩ := hL i (by omega)
    have l2 := l2 (by omega)
    have e259 : qev en (d + 1) 259 [.ref 151, .int (nI i), .long (Int64.ofNat (w8 8 v))] t = some (some (.int (fnN (U i) v (cl i) 0)), t) := by
      rw [m_localOf (by omega) l2 l3]
      rw [fnd_N (e := w8 8) (V := U i) (fun a b => w8_of) hv (cl i) 0 (fun j a b => by
        obtain ⟨g1, g2, g3⟩ := l4 j (by omega)
        exact ⟨g2, g3⟩)]
    have ei : nI i + (1 : Int32) = nI (i + 1) := n_ar
    refine le_X12_isLocalOfSome_4 en _ _ _ _ _ ?_
    rw [t18, if_neg (by rw [n_LE (by omega) (by omega)]; omega)]
    cases b
    · rw [if_neg (show ¬ ¬ bt false = (0 : Int32) from not_not_intro rfl), h5, e259, bI_some, ei]
      unfold lcT
      by_cases q : fnN (U i) v (cl i) 0 = -1
      · rw [if_pos q, show decide (fnN (U i) v (cl i) 0 ≠ -1) = false from decide_eq_false (not_not_intro q), Bool.false_or, Bool.false_or]
        have := ih (i + 1) false (by omega)
        rw [Bool.false_or] at this
        exact this
      · rw [if_neg q, decide_eq_true q, Bool.true_or, Bool.or_true]
        have := ih (i + 1) true (by omega)
        rw [Bool.true_or] at this
        exact this
    · rw [if_pos (show ¬ bt true = (0 : Int32) by decide), ei, Bool.true_or]
      have := ih (i + 1) true (by omega)
      rw [Bool.true_or] at this
      exact this
/-- whether a word is told -/
theorem told_al (hn : nmR s t V U cl nc nl nt) (hv : v < 128 ^ 8) (hv0 : v ≠ 0) (h5 : t.2.1 151 5 = Int64.ofNat (w8 8 v)) : ∃ b1 b2 : Bool, (∀ d, qev en (d + 3) 89 [.ref 11, .long (Int64.ofNat v)] s = some (some (.int (bt (b1 || b2))), s)) ∧ (∀ d, qev en (d + 2) 260 [.ref 151, .long (Int64.ofNat (w8 8 v))] t = some (some (.int (bt b1)), t)) ∧ (∀ d, qev en (d + 2) 285 [.ref 151] t = some (some (.int (bt b2)), t)) ∧ (b1 = false → ∀ j, j < 16 → V j ≠ v) := by
  have hb3 := hn.1
  obtain ⟨x, y, z, r, e1, e2, e3, e4, hcase⟩ := name_alike (en := en) hn hv hv0
  have nn0 : ∀ a : Nat, a < 2 ^ 31 → ¬ nI a < (0 : Int32) := fun a ha => by rw [n_gt (by decide) ha]; omega
  have no1 : ∀ a : Nat, a < 2 ^ 31 → nI a ≠ -1 := fun a ha h => (n_m1 ha).mp h
  have key : ∃ b1 : Bool, (x < 0 ↔ b1 = false) ∧ (b1 = false ↔ (y = -1 ∧ z = -1 ∧ r = -1)) := by
    rcases hcase with ⟨rfl, rfl, rfl, rfl⟩ | ⟨c, hc', rfl, rfl, rfl, rfl⟩ | ⟨l, hl', rfl, rfl, rfl, rfl⟩ | ⟨u, hu', rfl, rfl, rfl, rfl⟩
    · exact ⟨false, ⟨fun _ => rfl, fun _ => by decide⟩, fun _ => ⟨rfl, rfl, rfl⟩, fun _ => rfl⟩
    · exact ⟨true, ⟨fun h => absurd h (nn0 _ (by omega)), fun h => Bool.noConfusion h⟩, fun h => Bool.noConfusion h, fun h => absurd h.1 (no1 _ (by omega))⟩
    · exact ⟨true, ⟨fun h => absurd h (nn0 _ (by omega)), fun h => Bool.noConfusion h⟩, fun h => Bool.noConfusion h, fun h => absurd h.2.1 (no1 _ (by omega))⟩
    · exact ⟨true, ⟨fun h => absurd h (nn0 _ (by omega)), fun h => Bool.noConfusion h⟩, fun h => Bool.noConfusion h, fun h => absurd h.2.2 (no1 _ (by omega))⟩
  obtain ⟨b1, k1, k2⟩ := key
  refine ⟨b1, lcT U cl v nt 0, fun d => ?_, fun d => ?_, fun d => ?_, fun hb j hj hVj => ?_⟩
  · refine le_X5_isTold en _ _ _ _ _ ?_
    have e11 : lc 11 = 5 := rfl
    rw [gd_true e11]
    refine x_toldL (d := d) hn hv nt 0 (Nat.zero_add nt) _ ?_
    cases hl : lcT U cl v nt 0
    · rw [if_neg (by decide), e1, bI_some, Bool.or_false]
      cases hb : b1
      · rw [if_pos (k1.mpr hb)]; rfl
      · rw [if_neg (fun z => by rw [k1.mp z] at hb; cases hb)]; rfl
    · rw [if_pos rfl, Bool.or_true]; rfl
  · refine le_X12_isTold en _ _ _ _ ?_
    rw [e2, bI_some]
    by_cases q1 : y = -1
    · rw [if_neg (not_not_intro q1), e3, bI_some]
      by_cases q2 : z = -1
      · rw [if_neg (not_not_intro q2), e4, bI_some]
        by_cases q3 : r = -1
        · rw [if_pos q3, k2.mpr ⟨q1, q2, q3⟩]; rfl
        · rw [if_neg q3]
          cases hbb : b1
          · exact absurd (k2.mp hbb).2.2 q3
          · rfl
      · rw [if_pos q2]
        cases hbb : b1
        · exact absurd (k2.mp hbb).2.1 q2
        · rfl
    · rw [if_pos q1]
      cases hbb : b1
      · exact absurd (k2.mp hbb).1 q1
      · rfl
  · refine le_X12_isLocalOfSome en _ _ _ ?_
    have := m_toldL (en := en) (d := d) hn hv h5 nt 0 false (Nat.zero_add nt)
    rw [Bool.false_or] at this
    exact this
  · have h1 := k1.mpr hb
    have h84 := e1 0
    rw [c_named (d := 0) rfl, show Int64.ofNat v = Int64.ofNat (id v) from rfl, fnd_N (e := id) (V := V) (fun a b => id_of) hv 16 0 (fun j _ b => by
      obtain ⟨g1, g2⟩ := hn.2.2.2.1.1 j (by omega)
      exact ⟨g1, g2⟩)] at h84
    have hx : fnN V v 16 0 = x := by injection h84 with h; injection h with h _; injection h with h; injection h
    rcases fnN_is (V := V) (v := v) 16 0 with ⟨_, h2⟩ | ⟨j', _, h2, h3, _, _⟩
    · exact h2 j (Nat.zero_le j) (by omega) hVj
    · rw [← hx, h3] at h1
      exact absurd h1 (nn0 _ (by omega))
/-- a new name, or a fault -/
theorem isNew_al (h : rdL s t B n i) (hn : nmR s t V U cl nc nl nt) (hB : ∀ j, j < n → B j < 256) (ha : a < 100) (hmx : mx < 100) :
    (tkK B n i = 2 ∧ a < mx ∧ (∀ j, j < 16 → V j ≠ (tkN B n i).2.2.1) ∧ qev en (d + 4) 118 [.ref 65, .int (nI a), .int (nI mx)] s = some (some (.int 1), s) ∧ qev en (d' + 4) 286 [.ref 151, .int (bt (decide (a < mx)))] t = some (none, t) ∧ (a = nt → mx = 4 → ∀ r, L_X12_readThread_76 en (d' + 3) t = some r → qev en (d' + 4) 288 [.ref 151] t = some r)) ∨
    (∃ s' t', qev en (d + 4) 118 [.ref 65, .int (nI a), .int (nI mx)] s = some (some (.int 0), s') ∧ qev en (d' + 4) 286 [.ref 151, .int (bt (decide (a < mx)))] t = some (none, t') ∧ (a = nt → mx = 4 → ∀ r, L_X12_readThread_76 en (d' + 3) t' = some r → qev en (d' + 4) 288 [.ref 151] t = some r) ∧ rdD s' t' ∧ bmF s s' ∧ mvF t t') := by
  obtain ⟨hc, hm⟩ := h
  obtain ⟨hi, c1, c2, c3⟩ := cL_at hc
  obtain ⟨⟨mX, mn, -⟩, m7, m4, mk1, m2, m3, m5, m6⟩ := id hm
  have hxl := tkK_lt (B := B) hi
  have hb3 := hn.1
  have t18 := hn.2.2.1.2.2
  have eN := m_isNameK (en := en) (d := d' + 1) hB hm
  have x54 : ∀ s' : qS, s'.1 1 9 = 0 → L_X6_isNewName_54 en (d + 3) s' = some (some (.int 0), s') := fun s' h0 => by
    refine le_X6_isNewName_54 en _ _ _ ?_
    rw [if_pos (by rw [h0]; decide)]
  have bm0 : ∀ q, (bmS s q).1 1 9 = 0 := fun q => bmS_0
  -- the model: the first question
  have p286 : ∀ (v : Int32) (t' : qS) (r : qR), qev en (d' + 3) 245 [.ref 151, .int (bt (decide (tkK B n i = 2))), .int (2 : Int32)] t = some (none, t') → L_X12_checkName_16 en (d' + 3) v t' = some r → qev en (d' + 4) 286 [.ref 151, .int v] t = some r := fun v t' r h1 h2 => by
    refine le_X12_checkName en _ _ _ _ ?_
    rw [m_goodL m7, bI_some, if_neg (by decide), eN, bI_some, h1, bV_some]
    exact h2
  have p288 : ∀ (t' : qS) (r : qR), qev en (d' + 3) 245 [.ref 151, .int (bt (decide (tkK B n i = 2))), .int (2 : Int32)] t = some (none, t') → L_X12_readThread_16 en (d' + 3) t' = some r → qev en (d' + 4) 288 [.ref 151] t = some r := fun t' r h1 h2 => by
    refine le_X12_readThread en _ _ _ ?_
    rw [m_goodL m7, bI_some, if_neg (by decide), eN, bI_some, h1, bV_some]
    exact h2
  -- behind a fault
  have c51D : ∀ v t' F p, mtD t' F p → L_X12_checkName_51 en (d' + 3) v t' = some (none, t') := fun v t' F p hD => by
    refine le_X12_checkName_51 en _ _ _ _ ?_
    rw [m_goodD hD, bI_some, if_pos rfl]
  have c16D : ∀ v t' F p, mtD t' F p → L_X12_checkName_16 en (d' + 3) v t' = some (none, t') := fun v t' F p hD => by
    refine le_X12_checkName_16 en _ _ _ _ ?_
    rw [m_goodD hD, bI_some, if_pos rfl]
    exact c51D v t' F p hD
  have r51D : ∀ t' F p, mtD t' F p → ∀ r, L_X12_readThread_76 en (d' + 3) t' = some r → L_X12_readThread_51 en (d' + 3) t' = some r := fun t' F p hD r hr => by
    refine le_X12_readThread_51 en _ _ _ ?_
    rw [m_goodD hD, bI_some, if_pos rfl]
    exact hr
  have r16D : ∀ t' F p, mtD t' F p → ∀ r, L_X12_readThread_76 en (d' + 3) t' = some r → L_X12_readThread_16 en (d' + 3) t' = some r := fun t' F p hD r hr => by
    refine le_X12_readThread_16 en _ _ _ ?_
    rw [m_goodD hD, bI_some, if_pos rfl]
    exact r51D t' F p hD r hr
  by_cases q2 : tkK B n i = 2
  · have ek : bt (decide (tkK B n i = 2)) = 1 := by rw [decide_eq_true q2]; rfl
    rw [ek] at p286 p288
    have hv := tk_val (B := B) (n := n) hi
    have hv0 := word_pos hB hi (Or.inl q2)
    have cw := c3 (by omega)
    have mw := m5 (Or.inl q2)
    obtain ⟨b1, b2, g1, g2, g3, g4⟩ := told_al (en := en) hn hv hv0 mw
    have pX : ∀ r, (if bt (b1 || b2) = (0 : Int32) then if nI a < nI mx then L_X6_isNewName_54 en (d + 3) s else bV (qev en (d + 3) 114 [.ref 65, .int (4 : Int32)] s) (fun s8 => L_X6_isNewName_54 en (d + 3) s8) else bV (qev en (d + 3) 114 [.ref 65, .int (3 : Int32)] s) (fun s11 => L_X6_isNewName_54 en (d + 3) s11)) = some r → qev en (d + 4) 118 [.ref 65, .int (nI a), .int (nI mx)] s = some r := fun r hr => by
      refine le_X6_isNewName en _ _ _ _ _ ?_
      rw [if_pos (by rw [c1, q2]; rfl), cw, g1, bI_some]
      exact hr
    -- the second question
    have c16 : ∀ (v : Int32) (t' : qS) (r : qR), qev en (d' + 3) 245 [.ref 151, .int (bt (!(b1 || b2))), .int (3 : Int32)] t = some (none, t') → L_X12_checkName_51 en (d' + 3) v t' = some r → L_X12_checkName_16 en (d' + 3) v t = some r := fun v t' r h1 h2 => by
      have h47 : L_X12_checkName_47 en (d' + 3) v (bt (!(b1 || b2))) t = some r := by
        refine le_X12_checkName_47 en _ _ _ _ _ ?_
        rw [h1, bV_some]; exact h2
      refine le_X12_checkName_16 en _ _ _ _ ?_
      rw [m_goodL m7, bI_some, if_neg (by decide), mw, g2, bI_some]
      cases hb1 : b1
      · rw [if_neg (show ¬ ¬ bt false = (0 : Int32) from not_not_intro rfl), g3, bI_some]
        cases hb2 : b2
        · rw [if_neg (show ¬ ¬ bt false = (0 : Int32) from not_not_intro rfl)]
          rw [hb1, hb2] at h47; exact h47
        · rw [if_pos (show ¬ bt true = (0 : Int32) by decide)]
          rw [hb1, hb2] at h47; exact h47
      · rw [if_pos (show ¬ bt true = (0 : Int32) by decide)]
        rw [hb1, Bool.true_or] at h47; exact h47
    have r16 : ∀ (t' : qS) (r : qR), qev en (d' + 3) 245 [.ref 151, .int (bt (!(b1 || b2))), .int (3 : Int32)] t = some (none, t') → L_X12_readThread_51 en (d' + 3) t' = some r → L_X12_readThread_16 en (d' + 3) t = some r := fun t' r h1 h2 => by
      have h47 : L_X12_readThread_47 en (d' + 3) (bt (!(b1 || b2))) t = some r := by
        refine le_X12_readThread_47 en _ _ _ _ ?_
        rw [h1, bV_some]; exact h2
      refine le_X12_readThread_16 en _ _ _ ?_
      rw [m_goodL m7, bI_some, if_neg (by decide), mw, g2, bI_some]
      cases hb1 : b1
      · rw [if_neg (show ¬ ¬ bt false = (0 : Int32) from not_not_intro rfl), g3, bI_some]
        cases hb2 : b2
        · rw [if_neg (show ¬ ¬ bt false = (0 : Int32) from not_not_intro rfl)]
          rw [hb1, hb2] at h47; exact h47
        · rw [if_pos (show ¬ bt true = (0 : Int32) by decide)]
          rw [hb1, hb2] at h47; exact h47
      · rw [if_pos (show ¬ bt true = (0 : Int32) by decide)]
        rw [hb1, Bool.true_or] at h47; exact h47
    have T2 : qev en (d' + 3) 245 [.ref 151, .int (1 : Int32), .int (2 : Int32)] t = some (none, t) := m_needT
    cases hb : (b1 || b2)
    · rw [hb] at pX c16 r16
      have T3 : qev en (d' + 3) 245 [.ref 151, .int (bt (!false)), .int (3 : Int32)] t = some (none, t) := m_needT
      -- the third question
      have r51 : ∀ (t' : qS) (r : qR), a = nt → mx = 4 → qev en (d' + 3) 245 [.ref 151, .int (bt (decide (a < mx))), .int (4 : Int32)] t = some (none, t') → L_X12_readThread_76 en (d' + 3) t' = some r → L_X12_readThread_51 en (d' + 3) t = some r := fun t' r ea em h1 h2 => by
        have h72 : L_X12_readThread_72 en (d' + 3) (bt (decide (a < mx))) t = some r := by
          refine le_X12_readThread_72 en _ _ _ _ ?_
          rw [h1, bV_some]; exact h2
        refine le_X12_readThread_51 en _ _ _ ?_
        rw [m_goodL m7, bI_some, if_neg (by decide), t18]
        by_cases q : a < mx
        · rw [if_neg (by rw [n_le (by decide) (by omega)]; omega)]
          rw [decide_eq_true q] at h72; exact h72
        · rw [if_pos (by rw [n_le (by decide) (by omega)]; omega)]
          rw [decide_eq_false q] at h72; exact h72
      have c51 : ∀ (t' : qS), qev en (d' + 3) 245 [.ref 151, .int (bt (decide (a < mx))), .int (4 : Int32)] t = some (none, t') → L_X12_checkName_51 en (d' + 3) (bt (decide (a < mx))) t = some (none, t') := fun t' h1 => by
        refine le_X12_checkName_51 en _ _ _ _ ?_
        rw [m_goodL m7, bI_some, if_neg (by decide), h1, bV_some]
      by_cases q : a < mx
      · left
        have T4 : qev en (d' + 3) 245 [.ref 151, .int (bt (decide (a < mx))), .int (4 : Int32)] t = some (none, t) := by
          rw [decide_eq_true q]; exact m_needT
        have hb1 : b1 = false := by cases hb1 : b1 with
          | false => rfl
          | true => rw [hb1] at hb; cases hb
        refine ⟨q2, q, g4 hb1, pX _ ?_, p286 _ t _ T2 (c16 _ t _ T3 (c51 t T4)), fun ea em r hr => p288 t _ T2 (r16 t _ T3 (r51 t r ea em T4 hr))⟩
        rw [if_pos (show bt false = (0 : Int32) from rfl), if_pos (by rw [n_LT (by omega) (by omega)]; exact q)]
        refine le_X6_isNewName_54 en _ _ _ ?_
        rw [if_neg (by rw [c1, q2]; exact not_not_intro rfl)]
      · right
        obtain ⟨t', w1, w2, w3⟩ := fault_al (en := en) (d' := d' + 1) (k := 4) ⟨hc, hm⟩ ⟨by decide, by decide⟩
        have T4 : qev en (d' + 3) 245 [.ref 151, .int (bt (decide (a < mx))), .int (4 : Int32)] t = some (none, t') := by
          rw [decide_eq_false q]; exact w1
        refine ⟨bmS s 4, t', pX _ ?_, p286 _ t _ T2 (c16 _ t _ T3 (c51 t' T4)), fun ea em r hr => p288 t _ T2 (r16 t _ T3 (r51 t' r ea em T4 hr)), ⟨_, _, w3.1, w3.2⟩, bmS_F, w2⟩
        rw [if_pos (show bt false = (0 : Int32) from rfl), if_neg (by rw [n_LT (by omega) (by omega)]; exact q), x_blame, bV_some]
        exact x54 _ (bm0 4)
    · right
      rw [hb] at pX c16 r16
      obtain ⟨t', w1, w2, w3⟩ := fault_al (en := en) (d' := d' + 1) (k := 3) ⟨hc, hm⟩ ⟨by decide, by decide⟩
      refine ⟨bmS s 3, t', pX _ ?_, p286 _ t _ T2 (c16 _ t' _ w1 (c51D _ t' _ _ w3.2)), fun ea em r hr => p288 t _ T2 (r16 t' _ w1 (r51D t' _ _ w3.2 r hr)), ⟨_, _, w3.1, w3.2⟩, bmS_F, w2⟩
      rw [if_neg (show ¬ bt true = (0 : Int32) by decide), x_blame, bV_some]
      exact x54 _ (bm0 3)
  · right
    obtain ⟨t', w1, w2, w3⟩ := fault_al (en := en) (d' := d' + 1) (k := 2) ⟨hc, hm⟩ ⟨by decide, by decide⟩
    have T2 : qev en (d' + 3) 245 [.ref 151, .int (bt (decide (tkK B n i = 2))), .int (2 : Int32)] t = some (none, t') := by
      rw [decide_eq_false q2]; exact w1
    refine ⟨bmS s 2, t', ?_, p286 _ t' _ T2 (c16D _ t' _ _ w3.2), fun ea em r hr => p288 t' _ T2 (r16D t' _ _ w3.2 r hr), ⟨_, _, w3.1, w3.2⟩, bmS_F, w2⟩
    refine le_X6_isNewName en _ _ _ _ _ ?_
    rw [if_neg (by rw [c1, n_eq (by decide) (by omega)]; exact q2), x_blame, bV_some]
    exact x54 _ (bm0 2)
end NNM
