/-! JUDGING, the model's side: groups. -/
/-- a number from one on, as the model keeps it -/
def idV (k : Nat) : Int32 := if k = 0 then -2 else nI (k - 1)
theorem idV_z {k : Nat} (hk : k < 2 ^ 31) : (idV k = -2) = (k = 0) := by
  unfold idV
  by_cases q : k = 0
  · rw [if_pos q]; exact propext ⟨fun _ => q, fun _ => rfl⟩
  · rw [if_neg q, n_m2 (by omega)]; exact propext ⟨fun z => z.elim, fun z => q z⟩
theorem idV_s {k : Nat} (hk : k ≠ 0) : idV k = nI (k - 1) := if_neg hk
/-- what the model tells of the groups it looks for -/
abbrev mjP (s : qS) (N : Nat) (I L G X : Nat → Nat) (no : Nat) (op : Nat → Nat) (nn : Nat) (tr : Nat → Nat) (Q : Nat) : Prop := (∀ v, v < N → s.1 239 v = idV (I v)) ∧ (∀ v, v < N → I v ≠ 0 → s.1 240 v = nI (L v - 1) ∧ s.1 241 v = nI (X v)) ∧ (∀ v, v < N → s.1 238 v = idV (G v)) ∧ (∀ i, i < no → s.1 243 i = nI (op i)) ∧ (∀ i, i < nn → s.1 242 i = nI (tr i)) ∧ s.1 151 143 = nI Q ∧ ∀ k, k < Q → s.1 244 k = 0 ∧ s.1 245 k = 0 ∧ s.1 246 k = 0
/-- what stays -/
abbrev mjF (σ s : qS) : Prop := (∀ c, c ≠ 151 → c < 238 ∨ 246 < c → s.1 c = σ.1 c) ∧ (∀ j, j ≠ 143 → s.1 151 j = σ.1 151 j) ∧ s.2 = σ.2
/-- the graph, as the model tells it -/
abbrev mjG (A E T M : Nat → Nat) (W : Nat → Bool) (N nt : Nat) (s : qS) : Prop := (∀ i, i < N + 1 → s.1 218 i = nI (A i)) ∧ (∀ e, e < A N → s.1 219 e = nI (E e) ∧ s.1 220 e = nI (T e) ∧ E e < N ∧ T e < 40) ∧ (s.1 151 101 = nI N ∧ s.1 151 18 = nI nt ∧ nt ≤ 4) ∧ (∀ v, v < N → s.1 233 v = bt (W v) ∧ s.1 216 v = bt (decide (M v % 16 = 0)) ∧ ∀ t, t < 4 → (bI' (s.1 215 v) t ↔ (M v).testBit t = true))
abbrev mjH (A E T M : Nat → Nat) (W : Nat → Bool) (N nt : Nat) (s : qS) : Prop := (N ≤ 20000 ∧ A N ≤ 200000) ∧ (∀ i j, i ≤ j → j ≤ N → A i ≤ A j) ∧ mjG A E T M W N nt s
abbrev mjV (A E : Nat → Nat) (W : Nat → Bool) (N : Nat) (σ s : qS) (C : Nat) (I L G X : Nat → Nat) (no : Nat) (op : Nat → Nat) (nn : Nat) (tr : Nat → Nat) (Q : Nat) : Prop := TJ A E W N C I L G X no op nn tr Q ∧ mjF σ s ∧ mjP s N I L G X no op nn tr Q ∧ Q + no ≤ C
section MJP
variable {en : pN} {d N C no nn Q v u i0 e nt k0 : Nat} {I L G X op tr A E T M : Nat → Nat} {s s' s'' σ : qS} {W B R K : Nat → Bool} {fr : Bool} {y3 : Int32}
theorem mjF.rf : mjF σ σ := ⟨fun _ _ _ => rfl, fun _ _ => rfl, rfl⟩
theorem mjF.tr' (h : mjF s s') (g : mjF s' s'') : mjF s s'' := ⟨fun c y z => (g.1 c y z).trans (h.1 c y z), fun j y => (g.2.1 j y).trans (h.2.1 j y), g.2.2.trans h.2.2⟩
theorem mjG.fr' (h : mjG A E T M W N nt s) (g : mjF s s') : mjG A E T M W N nt s' := by
  obtain ⟨h1, h2, h3, h4⟩ := h
  refine ⟨fun i hi => ?_, fun e he => ?_, ?_, fun v hv => ?_⟩
  · rw [g.1 218 (by omega) (by omega)]; exact h1 i hi
  · rw [g.1 219 (by omega) (by omega), g.1 220 (by omega) (by omega)]; exact h2 e he
  · rw [g.2.1 101 (by omega), g.2.1 18 (by omega)]; exact h3
  · rw [g.1 233 (by omega) (by omega), g.1 216 (by omega) (by omega), g.1 215 (by omega) (by omega)]; exact h4 v hv
theorem mjF_u {c k : Nat} {x : Int32} (hc : 238 ≤ c ∧ c ≤ 246) : mjF s (uI s c k x) := ⟨fun c' _ hc' => uI_ne (by omega), fun j _ => by rw [uI_ne (by omega)], rfl⟩
/-- a step out of the state on top -/
theorem m_stepJ (hH : mjH A E T M W N nt σ) (hV : mjV A E W N σ s C I L G X no op (nn + 1) tr Q) (hv : tr nn = v) (hx : X v < A (v + 1)) :
    ∃ (s' : qS) (C' : Nat) (I' L' X' : Nat → Nat) (no' : Nat) (op' : Nat → Nat) (nn' : Nat) (tr' : Nat → Nat), (∀ r, L_X12_layParts_123 en d (nI C') (nI no') y3 (nI nn') s' = some r → L_X12_layParts_123 en d (nI C) (nI no) y3 (nI (nn + 1)) s = some r) ∧ mjV A E W N σ s' C' I' L' G X' no' op' nn' tr' Q ∧ muJ A N I' X' nn' + 1 = muJ A N I X (nn + 1) ∧ ∀ u, I u ≠ 0 → I' u ≠ 0 := by
  obtain ⟨⟨hN, hAN⟩, hA, hG0⟩ := hH
  obtain ⟨hT, hF, hP, hQ⟩ := hV
  have hG := hG0.fr' hF
  obtain ⟨hI, hL, hg, ho8, ht, h143, h456⟩ := id hP
  obtain ⟨nle1, nle2, nle3⟩ := hT.no_le
  obtain ⟨⟨a1, a2, a3, a4, a5⟩, ⟨b1, b2, b3⟩, ⟨c1, c2⟩, ⟨d1, d2⟩, f1, ⟨g1, g2⟩, k1, m1⟩ := id hT
  obtain ⟨v1, v2, v3⟩ := c1 nn (by omega)
  rw [hv] at v1 v2 v3
  have hA1 : A (v + 1) ≤ A N := hA (v + 1) N v1 (Nat.le_refl _)
  obtain ⟨z1, z1', z2, z3⟩ := hG.2.1 (X v) (by omega)
  generalize hto : E (X v) = to at *
  let s1 : qS := uI s 241 v (nI (X v + 1))
  have hP1 : mjP s1 N I L G (at1 X v (X v + 1)) no op (nn + 1) tr Q := ⟨hI, fun u hu hn => ⟨(hL u hu hn).1, by
    show (uI s 241 v (nI (X v + 1))).1 241 u = _
    rw [rdU]
    by_cases q : u = v
    · rw [if_pos ⟨rfl, q⟩, q, at1_s]
    · rw [if_neg (fun z => q z.2), at1_n q]; exact (hL u hu hn).2⟩, hg, ho8, ht, h143, h456⟩
  have hF1 : mjF σ s1 := hF.tr' (mjF_u (by omega))
  have idL : at1 L v (L v) = L := at1_id rfl
  have I239 : s1.1 239 to = idV (I to) := hI to z2
  have G238 : s1.1 238 to = idV (G to) := hg to z2
  have w233 : s1.1 233 to = bt (W to) := ((hG0.fr' hF1).2.2.2 to z2).1
  have Ib := a2 to z2
  have Gb := hT.Q_le to z2
  have hLv := f1 v v1 v2 v3
  have hIv := a2 v v1
  have t242 : s.1 242 nn = nI v := by rw [ht nn (by omega), hv]
  have hA1' := hG.1 (v + 1) (by omega)
  have hXv := (hL v v1 v2).2
  have L1 : ∀ u, u < N → I u ≠ 0 → G u = 0 → 1 ≤ L u := fun u hu hn hg' => by
    obtain ⟨_, x, x1, x2, x3, x4, _⟩ := f1 u hu hn hg'
    omega
  have hLv1 := L1 v v1 v2 v3
  -- where nothing new comes
  have old : ∀ r, (W to = true ∨ I to ≠ 0) → L_X12_layParts_264 en d (nI C) (nI no) y3 (nI (nn + 1)) (nI v) (nI to) s1 = some r → L_X12_layParts_123 en d (nI C) (nI no) y3 (nI (nn + 1)) s = some r := by
    intro r hw hr
    refine le_X12_layParts_123 en _ _ _ _ _ _ _ ?_
    rw [if_neg (by rw [n_ge (by decide) (by omega)]; omega), show nI (nn + 1) - (1 : Int32) = nI nn from n_sr (by omega), gd_in (by omega) (by decide), n_cl (by omega), t242, nm_eq, gd_in (by omega) (by decide), show nI v + (1 : Int32) = nI (v + 1) from n_ar, gd_in (by omega) (by decide), n_cl (by omega), n_cl (show v < 2 ^ 31 by omega), hA1', hXv, if_neg (by rw [n_LE (by omega) (by omega)]; omega), gd_in (by omega) (by decide), n_cl (show X v < 2 ^ 31 by omega), z1, nm_eq, nm_eq, show nI (X v) + (1 : Int32) = nI (X v + 1) from n_ar, gd_in (by omega) (by decide), n_cl (show to < 2 ^ 31 by omega)]
    show (if ¬ s1.1 233 to = (0 : Int32) then L_X12_layParts_264 en d (nI C) (nI no) y3 (nI (nn + 1)) (nI v) (nI to) s1 else if ¬ s1.1 239 to = (-2 : Int32) then L_X12_layParts_264 en d (nI C) (nI no) y3 (nI (nn + 1)) (nI v) (nI to) s1 else _) = some r
    rw [w233, I239]
    rcases hw with hw | hw
    · rw [if_pos (by rw [hw]; decide)]; exact hr
    · by_cases q : W to = true
      · rw [if_pos (by rw [q]; decide)]; exact hr
      · rw [if_neg (by rw [(Bool.not_eq_true _).mp q]; decide), if_pos (by rw [idV_z (by omega)]; exact hw)]; exact hr
  cases hw : W to
  · by_cases qi : I to = 0
    · -- a new one
      have hroom := hT.room z2 qi
      have hne : to ≠ v := fun q => v2 (by rw [← q]; exact qi)
      have hAt : A to ≤ A (to + 1) := hA _ _ (by omega) z2
      have hr : ∀ i, i < nn + 1 → rcW A E W (tr i) to := fun i hi => by
        have : rcW A E W (tr i) v := d1 i v hi v1 v2 v3 (by
          by_cases q : i = nn
          · rw [q, hv]; exact Nat.le_refl _
          · have := c2 i nn (by omega) (by omega)
            rw [hv] at this
            exact Nat.le_of_lt this)
        rw [← hto]
        exact rcW_e this (g1 v v1 v2).1 hx (by rw [hto]; exact hw)
      obtain ⟨t1, t2⟩ := hT.enter z2 qi hAt hw hr
      have xv : at1 X to (A to) v = X v := at1_n (fun q => hne q.symm)
      obtain ⟨t3, t4⟩ := t1.next (i0 := nn) (v := v) (l := L v) (by omega) (by rw [at1_n (by omega)]; exact hv) (by rw [xv]; exact hx) (by rw [at1_n (fun q => hne q.symm)]; exact Nat.le_refl _) (Or.inl (by rw [at1_n (fun q => hne q.symm)])) (fun _ => by
        rw [xv, hto, at1_s]
        exact ⟨by omega, fun _ => by omega⟩)
      have eX : at1 (at1 X to (A to)) v (at1 X to (A to) v + 1) = at1 (at1 X v (X v + 1)) to (A to) := by rw [xv]; exact (at1_sw (fun q => hne q.symm)).symm
      have eL : at1 (at1 L to (C + 1)) v (L v) = at1 L to (C + 1) := at1_id (at1_n (fun q => hne q.symm))
      rw [eL, eX] at t3
      rw [eX] at t4
      let s2 : qS := uI (uI (uI (uI (uI s1 239 to (nI C)) 240 to (nI C)) 241 to (nI (A to))) 243 no (nI to)) 242 (nn + 1) (nI to)
      have hF2 : mjF σ s2 := hF1.tr' ((mjF_u (by omega)).tr' ((mjF_u (by omega)).tr' ((mjF_u (by omega)).tr' ((mjF_u (by omega)).tr' (mjF_u (by omega))))))
      refine ⟨s2, C + 1, _, _, _, no + 1, _, nn + 1 + 1, _, fun r hr => le_X12_layParts_123 en _ _ _ _ _ _ _ ?_, ⟨t3, hF2, ⟨fun u hu => ?_, fun u hu hn => ⟨?_, ?_⟩, fun u hu => ?_, fun i hi => ?_, fun i hi => ?_, ?_, ?_⟩, by omega⟩, by rw [t4, t2], fun u hu => ?_⟩
      · rw [if_neg (by rw [n_ge (by decide) (by omega)]; omega), show nI (nn + 1) - (1 : Int32) = nI nn from n_sr (by omega), gd_in (by omega) (by decide), n_cl (by omega), t242, nm_eq, gd_in (by omega) (by decide), show nI v + (1 : Int32) = nI (v + 1) from n_ar, gd_in (by omega) (by decide), n_cl (by omega), n_cl (show v < 2 ^ 31 by omega), hA1', hXv, if_neg (by rw [n_LE (by omega) (by omega)]; omega), gd_in (by omega) (by decide), n_cl (show X v < 2 ^ 31 by omega), z1, nm_eq, nm_eq, show nI (X v) + (1 : Int32) = nI (X v + 1) from n_ar, gd_in (by omega) (by decide), n_cl (show to < 2 ^ 31 by omega)]
        rw [if_neg (show ¬ ¬ (uI s 241 v (nI (X v + 1))).1 233 to = (0 : Int32) by
          rw [show (uI s 241 v (nI (X v + 1))).1 233 to = bt (W to) from w233, hw]; exact not_not_intro rfl), if_neg (show ¬ ¬ (uI s 241 v (nI (X v + 1))).1 239 to = (-2 : Int32) by
          rw [show (uI s 241 v (nI (X v + 1))).1 239 to = idV (I to) from I239, idV_z (by omega)]; exact not_not_intro qi), nm_eq, nm_eq, gd_in (by omega) (by decide), nm_eq, gd_in (by omega) (by decide), nm_eq, gd_in (by omega) (by decide), nm_eq, n_cl (show no < 2 ^ 31 by omega), n_cl (show nn + 1 < 2 ^ 31 by omega), uI_ne (by decide), uI_ne (by decide), uI_ne (by decide), hG.1 to (by omega), show nI C + (1 : Int32) = nI (C + 1) from n_ar, show nI no + (1 : Int32) = nI (no + 1) from n_ar, show nI (nn + 1) + (1 : Int32) = nI (nn + 1 + 1) from n_ar]
        exact hr
      · show (uI (uI (uI (uI (uI s1 239 to (nI C)) 240 to (nI C)) 241 to (nI (A to))) 243 no (nI to)) 242 (nn + 1) (nI to)).1 239 u = _
        rw [uI_ne (by decide), uI_ne (by decide), uI_ne (by decide), uI_ne (by decide), rdU]
        by_cases q : u = to
        · rw [if_pos ⟨rfl, q⟩, q, at1_s, idV_s (by omega)]; rfl
        · rw [if_neg (fun z => q z.2), at1_n q]; exact hP1.1 u hu
      · show (uI (uI (uI (uI (uI s1 239 to (nI C)) 240 to (nI C)) 241 to (nI (A to))) 243 no (nI to)) 242 (nn + 1) (nI to)).1 240 u = _
        rw [uI_ne (by decide), uI_ne (by decide), uI_ne (by decide), rdU]
        by_cases q : u = to
        · rw [if_pos ⟨rfl, q⟩, q, at1_s]; rfl
        · rw [if_neg (fun z => q z.2), at1_n q, uI_ne (by decide)]
          rw [at1_n q] at hn
          exact (hP1.2.1 u hu hn).1
      · show (uI (uI (uI (uI (uI s1 239 to (nI C)) 240 to (nI C)) 241 to (nI (A to))) 243 no (nI to)) 242 (nn + 1) (nI to)).1 241 u = _
        rw [uI_ne (by decide), uI_ne (by decide), rdU]
        by_cases q : u = to
        · rw [if_pos ⟨rfl, q⟩, q, at1_s]
        · rw [if_neg (fun z => q z.2), at1_n q, uI_ne (by decide), uI_ne (by decide)]
          rw [at1_n q] at hn
          exact (hP1.2.1 u hu hn).2
      · show (uI (uI (uI (uI (uI s1 239 to (nI C)) 240 to (nI C)) 241 to (nI (A to))) 243 no (nI to)) 242 (nn + 1) (nI to)).1 238 u = _
        rw [uI_ne (by decide), uI_ne (by decide), uI_ne (by decide), uI_ne (by decide), uI_ne (by decide)]
        exact hP1.2.2.1 u hu
      · show (uI (uI (uI (uI (uI s1 239 to (nI C)) 240 to (nI C)) 241 to (nI (A to))) 243 no (nI to)) 242 (nn + 1) (nI to)).1 243 i = _
        rw [uI_ne (by decide), rdU]
        by_cases q : i = no
        · rw [if_pos ⟨rfl, q⟩, q, at1_s]
        · rw [if_neg (fun z => q z.2), at1_n q, uI_ne (by decide), uI_ne (by decide), uI_ne (by decide)]
          exact hP1.2.2.2.1 i (by omega)
      · show (uI (uI (uI (uI (uI s1 239 to (nI C)) 240 to (nI C)) 241 to (nI (A to))) 243 no (nI to)) 242 (nn + 1) (nI to)).1 242 i = _
        rw [rdU]
        by_cases q : i = nn + 1
        · rw [if_pos ⟨rfl, q⟩, q, at1_s]
        · rw [if_neg (fun z => q z.2), at1_n q, uI_ne (by decide), uI_ne (by decide), uI_ne (by decide), uI_ne (by decide)]
          exact hP1.2.2.2.2.1 i (by omega)
      · show s.1 151 143 = nI Q
        exact h143
      · exact h456
      · by_cases q : u = to
        · rw [q, at1_s]; omega
        · rw [at1_n q]; exact hu
    · by_cases qg : G to = 0
      · -- an open one
        have hmin : min (L v) (I to) ≤ L v := Nat.min_le_left _ _
        have hrt : rcW A E W v to := by
          rw [← hto]
          exact rcW_e rcW_r (g1 v v1 v2).1 hx (by rw [hto]; exact hw)
        obtain ⟨t3, t4⟩ := hT.next (i0 := nn) (v := v) (l := min (L v) (I to)) (by omega) hv hx hmin (by
          by_cases q : L v ≤ I to
          · left; exact Nat.min_eq_left q
          · right; exact ⟨to, z2, qi, qg, (Nat.min_eq_right (by omega)).symm, hrt⟩) (fun _ => by rw [hto]; exact ⟨qi, fun _ => Nat.min_le_right _ _⟩)
        refine ⟨uI s1 240 v (nI (min (L v) (I to) - 1)), C, I, _, _, no, op, nn + 1, tr, fun r hr => old r (Or.inr qi) (le_X12_layParts_264 en _ _ _ _ _ _ _ _ _ ?_), ⟨t3, hF1.tr' (mjF_u (by omega)), ⟨hI, fun u hu hn => ⟨?_, (hP1.2.1 u hu hn).2⟩, hg, ho8, ht, h143, h456⟩, hQ⟩, t4, fun u hu => hu⟩
        · rw [gd_in (by omega) (by decide), n_cl (by omega), w233, hw, if_neg (show ¬ ¬ bt false = (0 : Int32) from not_not_intro rfl), G238, if_neg (by rw [idV_z (by omega)]; exact not_not_intro qg), gd_in (by omega) (by decide), n_cl (by omega), show s1.1 240 v = nI (L v - 1) from (hL v v1 v2).1, I239, idV_s qi]
          have f326 : ∀ l, l = min (L v) (I to) - 1 → L_X12_layParts_326 en d (nI C) (nI no) y3 (nI (nn + 1)) (nI v) (nI l) s1 = some r := fun l hl => by
            refine le_X12_layParts_326 en _ _ _ _ _ _ _ _ _ ?_
            rw [gd_in (by omega) (by decide), n_cl (by omega), nm_eq, hl]
            exact hr
          by_cases q : L v ≤ I to
          · rw [if_pos (by rw [n_LE (by omega) (by omega)]; omega)]
            exact f326 _ (by rw [Nat.min_eq_left q])
          · rw [if_neg (by rw [n_LE (by omega) (by omega)]; omega)]
            exact f326 _ (by rw [Nat.min_eq_right (by omega)])
        · show (uI s1 240 v (nI (min (L v) (I to) - 1))).1 240 u = _
          rw [rdU]
          by_cases q : u = v
          · rw [if_pos ⟨rfl, q⟩, q, at1_s]
          · rw [if_neg (fun z => q z.2), at1_n q]; exact (hL u hu hn).1
      · obtain ⟨t3, t4⟩ := hT.next (i0 := nn) (v := v) (l := L v) (by omega) hv hx (Nat.le_refl _) (Or.inl rfl) (fun _ => by rw [hto]; exact ⟨qi, fun z => absurd z qg⟩)
        rw [idL] at t3
        refine ⟨s1, C, I, L, _, no, op, nn + 1, tr, fun r hr => old r (Or.inr qi) (le_X12_layParts_264 en _ _ _ _ _ _ _ _ _ ?_), ⟨t3, hF1, hP1, hQ⟩, t4, fun u hu => hu⟩
        rw [gd_in (by omega) (by decide), n_cl (by omega), w233, hw, if_neg (show ¬ ¬ bt false = (0 : Int32) from not_not_intro rfl), G238, if_pos (by rw [idV_z (by omega)]; exact qg)]
        exact hr
  · obtain ⟨t3, t4⟩ := hT.next (i0 := nn) (v := v) (l := L v) (by omega) hv hx (Nat.le_refl _) (Or.inl rfl) (fun h => by rw [hto, hw] at h; exact Bool.noConfusion h)
    rw [idL] at t3
    refine ⟨s1, C, I, L, _, no, op, nn + 1, tr, fun r hr => old r (Or.inl hw) (le_X12_layParts_264 en _ _ _ _ _ _ _ _ _ ?_), ⟨t3, hF1, hP1, hQ⟩, t4, fun u hu => hu⟩
    rw [gd_in (by omega) (by decide), n_cl (by omega), w233, hw, if_pos (show ¬ bt true = (0 : Int32) by decide)]
    exact hr
end MJP
