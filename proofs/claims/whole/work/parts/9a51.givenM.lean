/-! THE HISTORY, the model's side: what a structure gives, which call may be the next. -/
abbrev frHv (s s' : qS) : Prop := (∀ a, a ≠ 209 → s'.1 a = s.1 a) ∧ s'.2 = s.2
/-- the model's state within given: k calls done, L' those -/
abbrev gvR (st k : Nat) (T : fI × Nat × Int32) (s : qS) (n fr : Nat) (v gives : Int32) : Prop := gives = T.2.2 ∧ (st ≤ 1 → v = T.1 0 ∧ n = 0 ∧ fr = 0) ∧ (2 ≤ st → n = fr + T.2.1 ∧ n ≤ k ∧ (st = 2 → fr = 0) ∧ ∀ e, e < T.2.1 → s.1 209 (fr + e) = T.1 e)
section GV
variable {en : pN} {d st n i k : Nat} {C : Nat → fI} {H0 : fI} {L L' : List Nat} {s : qS} {f : Nat → fI} {x : Int32} {r : qR}
theorem gv_step (hst : st ≤ 3) (hk : k < 13) (hk12 : k < 12) (hkm : k < L.length) (hL : L.length ≤ 13) (hch : s.1 207 k = nI i) (hi : i < 200) (hc : s.1 205 i = (if C 1 i = kiS st then 0 else 1)) (hv : s.1 203 i = C 2 i) {T : fI × Nat × Int32} {nn fr : Nat} {v gives : Int32} (hT : gvR st k T s nn fr v gives) : ∃ (s' : qS) (nn' fr' : Nat) (v' gives' : Int32), frHv s s' ∧ gvR st (k + 1) (pfm st (decide (C 1 i = kiS st)) T.1 T.2.1 (C 2 i)) s' nn' fr' v' gives' ∧ ∀ r, L_X12_given_14 en d (nI st) (nI L.length) (nI nn') (nI fr') v' gives' (nI (k + 1)) s' = some r → L_X12_given_14 en d (nI st) (nI L.length) (nI nn) (nI fr) v gives (nI k) s = some r := by
  obtain ⟨t1, t2, t3⟩ := hT
  have start : ∀ r, L_X12_given_44 en d (nI st) (nI L.length) (nI nn) (nI fr) v (nI k) (nI i) (bt (decide (C 1 i = kiS st))) s = some r → L_X12_given_14 en d (nI st) (nI L.length) (nI nn) (nI fr) v gives (nI k) s = some r := by
    intro r hh
    refine le_X12_given_14 en d _ _ _ _ _ _ _ _ _ ?_
    rw [if_neg (by rw [n_LE (by omega) (by omega)]; omega), gd_true (n_in hk (by decide)), nm_eq, n_cl (by omega), hch, gd_true (n_in hi (by decide)), n_cl (by omega), hc]
    by_cases q : C 1 i = kiS st
    · rw [decide_eq_true q] at hh
      rw [if_pos q, if_neg (by decide)]
      exact hh
    · rw [decide_eq_false q] at hh
      rw [if_neg q, if_pos (by decide)]
      exact hh
  have h2s : ((2 : Int32) ≤ nI st) = (2 ≤ st) := by rw [n_le (by decide) (by omega)]
  have e0 : (nI st = (0 : Int32)) = (st = 0) := n_eq (k := 0) (by decide) (by omega)
  have e2 : (nI st = (2 : Int32)) = (st = 2) := n_eq (k := 2) (by decide) (by omega)
  by_cases hs1 : st ≤ 1
  · obtain ⟨v1, v2, v3⟩ := t2 hs1
    subst v2 v3
    have l66 : ∀ z r, L_X12_given_14 en d (nI st) (nI L.length) (nI 0) (nI 0) (if C 1 i = kiS st then (if st = 0 then C 2 i else v + C 2 i) else v) z (nI (k + 1)) s = some r → L_X12_given_66 en d (nI st) (nI L.length) (nI 0) (nI 0) v (nI k) (nI i) (bt (decide (C 1 i = kiS st))) z s = some r := by
      intro z r hh
      refine le_X12_given_66 en d _ _ _ _ _ _ _ _ _ _ _ ?_
      rw [n_cl (by omega), hv, gd_true (n_in hi (by decide)), gd_true (n_in hi (by decide)), nm_eq, nm_eq, n_ar]
      by_cases q : C 1 i = kiS st
      · rw [if_pos q] at hh
        rw [decide_eq_true q, if_pos (by decide)]
        by_cases w : st = 0
        · rw [if_pos w] at hh
          rw [if_neg (show ¬ ¬ nI st = (0 : Int32) by rw [e0]; exact fun y => y w)]; exact hh
        · rw [if_neg w] at hh
          rw [if_pos (show ¬ nI st = (0 : Int32) by rw [e0]; exact w)]; exact hh
      · rw [if_neg q] at hh
        rw [decide_eq_false q, if_neg (by decide)]; exact hh
    have hp : pfm st (decide (C 1 i = kiS st)) T.1 T.2.1 (C 2 i) = if C 1 i = kiS st then (upd T.1 0 (if st = 1 then T.1 0 + C 2 i else C 2 i), T.2.1, if st = 0 then 0 else T.1 0) else (T.1, T.2.1, T.1 0) := by
      unfold pfm
      rw [if_pos hs1]
      by_cases q : C 1 i = kiS st
      · rw [if_pos (decide_eq_true q), if_pos q]
      · rw [if_neg (by rw [decide_eq_false q]; decide), if_neg q]
    rw [hp]
    refine ⟨s, 0, 0, if C 1 i = kiS st then (if st = 0 then C 2 i else v + C 2 i) else v, if C 1 i = kiS st then (if st = 0 then 0 else v) else v, ⟨fun _ _ => rfl, rfl⟩, ⟨?_, fun _ => ⟨?_, rfl, rfl⟩, fun z => by omega⟩, fun r hh => start r ?_⟩
    · by_cases q : C 1 i = kiS st
      · rw [if_pos q, if_pos q, v1]
      · rw [if_neg q, if_neg q, v1]
    · by_cases q : C 1 i = kiS st
      · rw [if_pos q, if_pos q]
        by_cases w : st = 0
        · rw [if_pos w, if_neg (by omega)]; show C 2 i = upd T.1 0 (C 2 i) 0; rw [pk_us]
        · rw [if_neg w, if_pos (by omega), v1]; show T.1 0 + C 2 i = upd T.1 0 (T.1 0 + C 2 i) 0; rw [pk_us]
      · rw [if_neg q, if_neg q]; exact v1
    · refine le_X12_given_44 en d _ _ _ _ _ _ _ _ _ _ ?_
      rw [if_neg (show ¬ (2 : Int32) ≤ nI st by rw [h2s]; omega)]
      by_cases q : C 1 i = kiS st
      · rw [if_neg (by rw [decide_eq_true q]; decide)]
        by_cases w : st = 0
        · rw [if_neg (show ¬ ¬ nI st = (0 : Int32) by rw [e0]; exact fun y => y w)]
          rw [if_pos q, if_pos q, if_pos w, if_pos w] at hh
          refine l66 0 r ?_
          rw [if_pos q, if_pos w]; exact hh
        · rw [if_pos (show ¬ nI st = (0 : Int32) by rw [e0]; exact w)]
          rw [if_pos q, if_pos q, if_neg w, if_neg w] at hh
          refine l66 v r ?_
          rw [if_pos q, if_neg w]; exact hh
      · rw [if_pos (by rw [decide_eq_false q]; decide)]
        rw [if_neg q, if_neg q] at hh
        refine l66 v r ?_
        rw [if_neg q]; exact hh
  · obtain ⟨a1, a2, a3, a4⟩ := t3 (by omega)
    have hp : pfm st (decide (C 1 i = kiS st)) T.1 T.2.1 (C 2 i) = if C 1 i = kiS st then (upd T.1 T.2.1 (C 2 i), T.2.1 + 1, 0) else if T.2.1 = 0 then (T.1, 0, -1) else if st = 2 then (T.1, T.2.1 - 1, T.1 (T.2.1 - 1)) else (fun k => if k < T.2.1 - 1 then T.1 (k + 1) else T.1 k, T.2.1 - 1, T.1 0) := by
      unfold pfm
      rw [if_neg hs1]
      by_cases q : C 1 i = kiS st
      · rw [if_pos (decide_eq_true q), if_pos q]
      · rw [if_neg (by rw [decide_eq_false q]; decide), if_neg q]
    rw [hp]
    by_cases q : C 1 i = kiS st
    · rw [if_pos q]
      refine ⟨uI s 209 nn (C 2 i), nn + 1, fr, v, 0, ⟨fun a ha => uI_ne ha, rfl⟩, ⟨rfl, fun z => absurd z hs1, fun _ => ⟨by show nn + 1 = fr + (T.2.1 + 1); omega, by omega, a3, fun e he => ?_⟩⟩, fun r hh => start r (le_X12_given_44 en d _ _ _ _ _ _ _ _ _ _ ?_)⟩
      · have he : e < T.2.1 + 1 := he
        show (uI s 209 nn (C 2 i)).1 209 (fr + e) = upd T.1 T.2.1 (C 2 i) e
        rw [g_I]
        by_cases w : e = T.2.1
        · rw [if_pos ⟨rfl, by omega⟩, w, pk_us]
        · rw [if_neg (by omega), pk_un w]; exact a4 e (by omega)
      · rw [if_pos (show (2 : Int32) ≤ nI st by rw [h2s]; omega), if_neg (by rw [decide_eq_true q]; decide), gd_true (n_in hi (by decide)), gd_true (n_in (by omega) (by decide)), nm_eq, n_cl (by omega), n_cl (by omega), hv, n_ar, n_ar]
        exact hh
    · rw [if_neg q]
      have en0 : (nI nn = nI fr) = (nn = fr) := n_EQ (by omega) (by omega)
      by_cases z0 : T.2.1 = 0
      · rw [if_pos z0]
        refine ⟨s, nn, fr, v, -1, ⟨fun _ _ => rfl, rfl⟩, ⟨rfl, fun z => absurd z hs1, fun _ => ⟨by show nn = fr + 0; omega, by omega, a3, fun e he => absurd he (Nat.not_lt_zero e)⟩⟩, fun r hh => start r (le_X12_given_44 en d _ _ _ _ _ _ _ _ _ _ ?_)⟩
        rw [if_pos (show (2 : Int32) ≤ nI st by rw [h2s]; omega), if_pos (by rw [decide_eq_false q]; decide), if_neg (show ¬ ¬ nI nn = nI fr by rw [en0]; omega), n_ar]
        exact hh
      · rw [if_neg z0]
        by_cases s2 : st = 2
        · rw [if_pos s2]
          have f0 := a3 s2
          refine ⟨s, nn - 1, fr, v, T.1 (T.2.1 - 1), ⟨fun _ _ => rfl, rfl⟩, ⟨rfl, fun z => absurd z hs1, fun _ => ⟨by show nn - 1 = fr + (T.2.1 - 1); omega, by omega, a3, fun e he => a4 e (by have he : e < T.2.1 - 1 := he; omega)⟩⟩, fun r hh => start r (le_X12_given_44 en d _ _ _ _ _ _ _ _ _ _ ?_)⟩
          obtain ⟨m, rfl⟩ : ∃ m, nn = m + 1 := ⟨nn - 1, by omega⟩
          have e4 := a4 (T.2.1 - 1) (by omega)
          rw [show fr + (T.2.1 - 1) = m by omega] at e4
          rw [if_pos (show (2 : Int32) ≤ nI st by rw [h2s]; omega), if_pos (by rw [decide_eq_false q]; decide), if_pos (show ¬ nI (m + 1) = nI fr by rw [en0]; omega), if_neg (show ¬ ¬ nI st = (2 : Int32) by rw [e2]; exact fun y => y s2), n_cm1, gd_true (n_in (by omega) (by decide)), nm_eq, n_cl (by omega), e4, n_ar]
          exact hh
        · rw [if_neg s2]
          refine ⟨s, nn, fr + 1, v, T.1 0, ⟨fun _ _ => rfl, rfl⟩, ⟨rfl, fun z => absurd z hs1, fun _ => ⟨by show nn = fr + 1 + (T.2.1 - 1); omega, by omega, fun y => absurd y s2, fun e he => ?_⟩⟩, fun r hh => start r (le_X12_given_44 en d _ _ _ _ _ _ _ _ _ _ ?_)⟩
          · have he : e < T.2.1 - 1 := he
            show s.1 209 (fr + 1 + e) = if e < T.2.1 - 1 then T.1 (e + 1) else T.1 e
            rw [if_pos he, show fr + 1 + e = fr + (e + 1) by omega]
            exact a4 (e + 1) (by omega)
          · have e4 := a4 0 (by omega)
            rw [Nat.add_zero] at e4
            rw [if_pos (show (2 : Int32) ≤ nI st by rw [h2s]; omega), if_pos (by rw [decide_eq_false q]; decide), if_pos (show ¬ nI nn = nI fr by rw [en0]; omega), if_pos (show ¬ nI st = (2 : Int32) by rw [e2]; exact s2), gd_true (n_in (by omega) (by decide)), nm_eq, n_cl (by omega), e4, n_ar, n_ar]
            exact hh
theorem rev_get {L : List Nat} {j : Nat} (hj : j < L.length) : L.reverse.getD (L.length - (j + 1)) 0 = L[j] := by
  rw [List.getD_eq_getElem?_getD, List.getElem?_reverse (by omega), show L.length - 1 - (L.length - (j + 1)) = j by omega, List.getElem?_eq_getElem hj]
  rfl
theorem m_given (hst : st ≤ 3) (hn : n ≤ 12) (hL : L.length ≤ 12) (hL1 : L.length ≤ n) (hin : ∀ i ∈ L, i < n) (hch : ∀ e, e < L.length → s.1 207 e = nI (L.reverse.getD e 0)) (hR : ∀ c, c < n → s.1 205 c = (if C 1 c = kiS st then 0 else 1) ∧ s.1 203 c = C 2 c) (h0 : H0 0 = 0) : ∃ s', qev en (d + 1) 351 [.ref 151, .int (nI st), .int (nI L.length)] s = some (some (.int (cnt st C H0 L).2.2), s') ∧ frHv s s' := by
  have loop : ∀ (j : Nat) (s1 : qS) (nn fr : Nat) (v gives : Int32), j ≤ L.length → frHv s s1 → gvR st (L.length - j) (cnt st C H0 (L.drop j)) s1 nn fr v gives → ∃ s', L_X12_given_14 en d (nI st) (nI L.length) (nI nn) (nI fr) v gives (nI (L.length - j)) s1 = some (some (.int (cnt st C H0 L).2.2), s') ∧ frHv s s' := by
    intro j
    induction j with
    | zero =>
      intro s1 nn fr v gives hj F h
      refine ⟨s1, le_X12_given_14 en d _ _ _ _ _ _ _ _ _ ?_, F⟩
      rw [if_pos (by rw [n_LE (by omega) (by omega)]; omega), h.1]
      rfl
    | succ j ih =>
      intro s1 nn fr v gives hj F h
      have hi : L[j] < n := hin _ (List.getElem_mem (by omega))
      obtain ⟨r1, r2⟩ := hR _ hi
      obtain ⟨s', nn', fr', v', gives', F', h', kk⟩ := gv_step (en := en) (d := d) (st := st) (k := L.length - (j + 1)) (i := L[j]) (L := L) (C := C) (s := s1) hst (by omega) (by omega) (by omega) (by omega) (by rw [F.1 207 (by decide), hch _ (by omega), rev_get (by omega)]) (by omega) (by rw [F.1 205 (by decide)]; exact r1) (by rw [F.1 203 (by decide)]; exact r2) h
      have e : L.length - (j + 1) + 1 = L.length - j := by omega
      rw [e] at h' kk
      obtain ⟨s'', k1, k2⟩ := ih s' nn' fr' v' gives' (by omega) ⟨fun a ha => (F'.1 a ha).trans (F.1 a ha), F'.2.trans F.2⟩ (by
        rw [List.drop_eq_getElem_cons (by omega : j < L.length)]
        exact h')
      exact ⟨s'', kk _ k1, k2⟩
  obtain ⟨s', e1, e2⟩ := loop L.length s 0 0 0 0 (Nat.le_refl _) ⟨fun _ _ => rfl, rfl⟩ (by
    rw [List.drop_length]
    exact ⟨rfl, fun _ => ⟨h0.symm, rfl, rfl⟩, fun _ => ⟨rfl, Nat.zero_le _, fun _ => rfl, fun e he => absurd he (Nat.not_lt_zero e)⟩⟩)
  rw [Nat.sub_self] at e1
  exact ⟨s', le_X12_given en d _ _ _ _ e1, e2⟩
theorem m_can (hn : n ≤ 12) (hi : i < n) (h87 : s.1 151 87 = nI n) (hR : ∀ c, c < n → s.1 201 c = C 3 c ∧ s.1 202 c = (if C 4 c < 0 then 1000 else C 4 c)) (hI : ∀ c, c < n → (∃ b, b < 200 ∧ C 3 c = nI b ∧ f 3 b = 15) ∧ (C 4 c < 0 ∨ ∃ e, e < 200 ∧ C 4 c = nI e ∧ f 3 e = 16)) (hx : MK x L) : qev en (d + 1) 352 [.ref 151, .int (nI i), .int x] s = some (some (.int (bt (canB C n L i))), s) := by
  have l0 : ∀ j, L_X12_canBeNext_17 en d (nI i) x 0 (nI j) s = some (some (.int 0), s) := by
    intro j
    refine le_X12_canBeNext_17 en d _ _ _ _ _ _ ?_
    split
    · rw [gd_true (Or.inl rfl)]
    · rw [if_pos rfl, gd_true (Or.inl rfl)]
  obtain ⟨⟨b, hb, eb, kb⟩, -⟩ := hI i hi
  have lp : ∀ (k j : Nat), j + k = n → ∃ rb : Bool, L_X12_canBeNext_17 en d (nI i) x 1 (nI j) s = some (some (.int (bt rb)), s) ∧ (rb = true ↔ ∀ c, j ≤ c → c < n → endB C i c → c ∈ L) := by
    intro k
    induction k with
    | zero =>
      intro j hj
      refine ⟨true, le_X12_canBeNext_17 en d _ _ _ _ _ _ ?_, ⟨fun _ c h1 h2 => by omega, fun _ => rfl⟩⟩
      rw [h87, if_pos (by rw [n_LE (by omega) (by omega)]; omega), gd_true (Or.inr rfl)]
      rfl
    | succ k ih =>
      intro j hj
      obtain ⟨rb, e, q⟩ := ih (j + 1) (by omega)
      have skip : (endB C i j → j ∈ L) → (rb = true ↔ ∀ c, j ≤ c → c < n → endB C i c → c ∈ L) := by
        intro hh
        rw [q]
        refine ⟨fun z c h1 h2 => ?_, fun z c h1 h2 => z c (by omega) h2⟩
        by_cases w : c = j
        · subst w; exact hh
        · exact z c (by omega) h2
      have hbit : (((x >>> (nI j &&& 31)) &&& (1 : Int32)) = 1) ↔ j ∈ L := by
        rw [bitI (by omega), ← hx j (by omega)]
        by_cases a : x.toBitVec.getLsbD j = true
        · rw [if_pos a]; exact ⟨fun _ => a, fun _ => rfl⟩
        · rw [if_neg a]; exact ⟨fun z => absurd z (by decide), fun z => absurd z a⟩
      have head : ∀ r, (if j ∈ L then L_X12_canBeNext_17 en d (nI i) x 1 (nI (j + 1)) s else if s.1 202 j ≤ s.1 201 i then L_X12_canBeNext_17 en d (nI i) x 0 (nI (j + 1)) s else L_X12_canBeNext_17 en d (nI i) x 1 (nI (j + 1)) s) = some r → L_X12_canBeNext_17 en d (nI i) x 1 (nI j) s = some r := by
        intro r hh
        refine le_X12_canBeNext_17 en d _ _ _ _ _ _ ?_
        rw [h87, if_neg (by rw [n_LE (by omega) (by omega)]; omega), if_neg (by decide), gd_true (n_in (by omega) (by decide)), gd_true (n_in (by omega) (by decide)), n_cl (by omega), n_cl (by omega), n_ar]
        by_cases a : j ∈ L
        · rw [if_pos (hbit.mpr a)]; rw [if_pos a] at hh; exact hh
        · rw [if_neg (fun z => a (hbit.mp z))]; rw [if_neg a] at hh; exact hh
      by_cases a : j ∈ L
      · exact ⟨rb, head _ (by rw [if_pos a]; exact e), skip (fun _ => a)⟩
      · have key : (s.1 202 j ≤ s.1 201 i) ↔ endB C i j := by
          rw [(hR j (by omega)).2, (hR i hi).1, eb]
          show _ ↔ ¬ C 4 j < 0 ∧ ¬ C 3 i ≤ C 4 j
          rw [eb]
          rcases (hI j (by omega)).2 with z | ⟨e', he, ee, ke⟩
          · rw [if_pos z]
            exact ⟨fun w => absurd w (by rw [n_le (by decide) (by omega)]; omega), fun w => absurd z w.1⟩
          · rw [ee, if_neg (nI_pos (by omega)), n_LE (by omega) (by omega), n_LE (by omega) (by omega)]
            have hne : e' ≠ b := fun w => by rw [w, kb] at ke; exact absurd ke (by decide)
            exact ⟨fun w => ⟨nI_pos (by omega), by omega⟩, fun w => by have := w.2; omega⟩
        by_cases b2 : endB C i j
        · refine ⟨false, head _ ?_, ⟨fun z => (by cases z), fun z => absurd (z j (Nat.le_refl _) (by omega) b2) a⟩⟩
          rw [if_neg a, if_pos (key.mpr b2)]
          exact l0 _
        · refine ⟨rb, head _ ?_, skip (fun z => absurd z b2)⟩
          rw [if_neg a, if_neg (fun z => b2 (key.mp z))]
          exact e
  refine le_X12_canBeNext en d _ _ _ _ ?_
  obtain ⟨rb, e, q⟩ := lp n 0 (by omega)
  rw [bitI (by omega)]
  by_cases a : i ∈ L
  · rw [if_pos ((hx i (by omega)).mpr a), if_pos (by decide)]
    have : canB C n L i = false := by
      cases h : canB C n L i with
      | false => rfl
      | true => exact absurd a (canB_iff.mp h).1
    rw [this]
    exact l0 0
  · rw [if_neg (fun z => a ((hx i (by omega)).mp z)), if_neg (by decide)]
    have : canB C n L i = rb := by
      have : canB C n L i = true ↔ rb = true := by
        rw [canB_iff, q]
        exact ⟨fun z c _ h2 h3 => z.2 c h2 h3, fun z => ⟨a, fun c h2 h3 => z c (Nat.zero_le _) h2 h3⟩⟩
      cases rb <;> cases h : canB C n L i <;> simp_all
    rw [this]
    exact e
end GV
