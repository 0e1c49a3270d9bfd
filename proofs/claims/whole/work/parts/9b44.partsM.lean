/-! JUDGING, the model's side: the walk; all groups. -/
section PTM
variable {en : pN} {d N C no nn Q v u i0 e nt k0 : Nat} {I L G X op tr A E T M : Nat → Nat} {s s' s'' σ : qS} {W B R K : Nat → Bool} {y1 y3 y4 : Int32}
theorem m_clPop (ho : ∀ i, i < no → op i < N) (hd : ∀ i j, i < j → j < no → op i ≠ op j) (hN : N ≤ 20000) (hno : no ≤ 20000) (hk : op k0 = v) (hv : v < 20000) :
    ∀ (m : Nat) (s : qS) (G : Nat → Nat) (y6 : Int32), k0 + m < no → ¬ y6 = nI v → (∀ i, i < no → s.1 243 i = nI (op i)) → s.1 151 143 = nI Q → (∀ u, u < N → s.1 238 u = idV (G u)) → ∃ (s' : qS) (G' : Nat → Nat), (∀ r, L_X12_layParts_411 en d y1 (nI k0) y3 y4 (nI v) (nI v) s' = some r → L_X12_layParts_411 en d y1 (nI (k0 + m + 1)) y3 y4 (nI v) y6 s = some r) ∧ (∀ c, c ≠ 238 → s'.1 c = s.1 c) ∧ s'.2 = s.2 ∧ (∀ u, u < N → s'.1 238 u = idV (G' u)) ∧ (∀ i, k0 ≤ i → i < k0 + m + 1 → G' (op i) = Q + 1) ∧ ∀ u, (∀ i, k0 ≤ i → i < k0 + m + 1 → op i ≠ u) → G' u = G u := by
  have row : ∀ (s : qS) (G : Nat → Nat) (w : Nat), (∀ u, u < N → s.1 238 u = idV (G u)) → ∀ u, u < N → (uI s 238 w (nI Q)).1 238 u = idV (at1 G w (Q + 1) u) := fun s G w h u hu => by
    rw [rdU]
    by_cases q : u = w
    · rw [if_pos ⟨rfl, q⟩, q, at1_s, idV_s (by omega)]; rfl
    · rw [if_neg (fun z => q z.2), at1_n q]; exact h u hu
  intro m
  induction m with
  | zero =>
    intro s G y6 hm h6 h8 h12 h7
    have o := ho k0 (by omega)
    refine ⟨uI s 238 (op k0) (nI Q), at1 G (op k0) (Q + 1), fun r hr => le_X12_layParts_411 en _ _ _ _ _ _ _ _ _ ?_, fun c hc => uI_ne hc, rfl, row s G _ h7, fun i h1 h2 => ?_, fun u hu => at1_n (fun q => hu k0 (Nat.le_refl _) (by omega) q.symm)⟩
    · rw [if_neg h6, n_cm1, gd_in (by omega) (by decide), n_cl (by omega), h8 k0 (by omega), nm_eq, gd_in (by omega) (by decide), n_cl (by omega), h12, nm_eq, hk]
      rw [hk] at hr
      exact hr
    · rw [show i = k0 by omega, at1_s]
  | succ m ih =>
    intro s G y6 hm h6 h8 h12 h7
    have o := ho (k0 + (m + 1)) (by omega)
    have hne : ¬ nI (op (k0 + (m + 1))) = nI v := by
      rw [n_EQ (by omega) (by omega), ← hk]
      exact fun q => hd k0 (k0 + (m + 1)) (by omega) (by omega) q.symm
    obtain ⟨s', G', e1, e2, e3, e4, e5, e6⟩ := ih (uI s 238 (op (k0 + (m + 1))) (nI Q)) (at1 G (op (k0 + (m + 1))) (Q + 1)) (nI (op (k0 + (m + 1)))) (by omega) hne (fun i hi => by rw [uI_ne (by decide)]; exact h8 i hi) (by rw [uI_ne (by decide)]; exact h12) (row s G _ h7)
    refine ⟨s', G', fun r hr => le_X12_layParts_411 en _ _ _ _ _ _ _ _ _ ?_, fun c hc => (e2 c hc).trans (uI_ne hc), e3, e4, fun i h1 h2 => ?_, fun u hu => ?_⟩
    · rw [if_neg h6, n_cm1, gd_in (by omega) (by decide), n_cl (by omega), h8 _ (by omega), nm_eq, gd_in (by omega) (by decide), n_cl (by omega), h12, nm_eq]
      exact e1 r hr
    · by_cases q : i = k0 + (m + 1)
      · rw [e6 (op i) (fun j h3 h4 => hd j i (by omega) (by omega)), q, at1_s]
      · exact e5 i h1 (by omega)
    · rw [e6 u (fun i h1 h2 => hu i h1 (by omega))]
      exact at1_n (fun q => hu (k0 + (m + 1)) (by omega) (by omega) q.symm)
theorem m_closeJ (hN : N ≤ 20000) (h : mjP s N I L G X no op nn tr Q) (ho : ∀ i, i < no → op i < N) (hd : ∀ i j, i < j → j < no → op i ≠ op j) (hno : no ≤ 20000) (hQ : Q < 20000) (hk0 : k0 < no) (hk : op k0 = v) :
    ∃ (s' : qS) (G' : Nat → Nat), (∀ r, L_X12_layParts_123 en d y1 (nI k0) y3 y4 s' = some r → L_X12_layParts_411 en d y1 (nI no) y3 y4 (nI v) (-2) s = some r) ∧ mjF s s' ∧ mjP s' N I L G' X k0 op nn tr (Q + 1) ∧ (∀ i, k0 ≤ i → i < no → G' (op i) = Q + 1) ∧ ∀ u, (∀ i, k0 ≤ i → i < no → op i ≠ u) → G' u = G u := by
  obtain ⟨hI, hL, hg, ho8, ht, h143, h456⟩ := h
  have hv : v < N := by rw [← hk]; exact ho k0 hk0
  obtain ⟨s1, G', e1, e2, e3, e4, e5, e6⟩ := m_clPop (en := en) (d := d) (Q := Q) (y1 := y1) (y3 := y3) (y4 := y4) ho hd hN hno hk (by omega) (no - 1 - k0) s G (-2) (by omega) (fun q => (n_m2 (by omega)).mp q.symm) ho8 h143 hg
  rw [show k0 + (no - 1 - k0) + 1 = no by omega] at e1 e5 e6
  have r1 : ∀ c, c ≠ 238 → s1.1 c = s.1 c := e2
  have h143' : s1.1 151 143 = nI Q := by rw [r1 151 (by decide)]; exact h143
  let s2 : qS := uI (uI (uI (uI s1 244 Q 0) 245 Q 0) 246 Q 0) 151 143 (nI (Q + 1))
  have r2 : ∀ c, c ≠ 151 → c ≠ 244 → c ≠ 245 → c ≠ 246 → s2.1 c = s1.1 c := fun c h1 h2 h3 h4 => by
    show (uI (uI (uI (uI s1 244 Q 0) 245 Q 0) 246 Q 0) 151 143 (nI (Q + 1))).1 c = _
    rw [uI_ne h1, uI_ne h4, uI_ne h3, uI_ne h2]
  have r3 : ∀ j, s2.1 151 j = if j = 143 then nI (Q + 1) else s.1 151 j := fun j => by
    show (uI (uI (uI (uI s1 244 Q 0) 245 Q 0) 246 Q 0) 151 143 (nI (Q + 1))).1 151 j = _
    rw [rdU]
    by_cases q : j = 143
    · rw [if_pos ⟨rfl, q⟩, if_pos q]
    · rw [if_neg (fun z => q z.2), if_neg q, uI_ne (by decide), uI_ne (by decide), uI_ne (by decide), r1 151 (by decide)]
  refine ⟨s2, G', fun r hr => e1 r (le_X12_layParts_411 en _ _ _ _ _ _ _ _ _ ?_), ⟨fun c h1 h2 => ?_, fun j hj => ?_, ?_⟩, ⟨fun u hu => ?_, fun u hu hn => ?_, fun u hu => ?_, fun i hi => ?_, fun i hi => ?_, ?_, fun k hk => ?_⟩, e5, e6⟩
  · rw [if_pos rfl, h143', gd_in (by omega) (by decide), n_cl (by omega), nm_eq, uI_ne (by decide), h143', gd_in (by omega) (by decide), n_cl (by omega), nm_eq, uI_ne (by decide), uI_ne (by decide), h143', gd_in (by omega) (by decide), n_cl (by omega), nm_eq, nm_eq, uI_ne (by decide), uI_ne (by decide), uI_ne (by decide), h143', nar0, show nI Q + (1 : Int32) = nI (Q + 1) from n_ar]
    exact hr
  · rw [r2 c h1 (by omega) (by omega) (by omega), r1 c (by omega)]
  · rw [r3, if_neg hj]
  · show s1.2 = s.2
    exact e3
  · rw [r2 239 (by decide) (by decide) (by decide) (by decide), r1 239 (by decide)]; exact hI u hu
  · rw [r2 240 (by decide) (by decide) (by decide) (by decide), r1 240 (by decide), r2 241 (by decide) (by decide) (by decide) (by decide), r1 241 (by decide)]; exact hL u hu hn
  · rw [r2 238 (by decide) (by decide) (by decide) (by decide)]; exact e4 u hu
  · rw [r2 243 (by decide) (by decide) (by decide) (by decide), r1 243 (by decide)]; exact ho8 i (by omega)
  · rw [r2 242 (by decide) (by decide) (by decide) (by decide), r1 242 (by decide)]; exact ht i hi
  · rw [r3, if_pos rfl]
  · show (uI (uI (uI (uI s1 244 Q 0) 245 Q 0) 246 Q 0) 151 143 (nI (Q + 1))).1 244 k = 0 ∧ (uI (uI (uI (uI s1 244 Q 0) 245 Q 0) 246 Q 0) 151 143 (nI (Q + 1))).1 245 k = 0 ∧ (uI (uI (uI (uI s1 244 Q 0) 245 Q 0) 246 Q 0) 151 143 (nI (Q + 1))).1 246 k = 0
    simp only [rdU, Nat.reduceEqDiff, false_and, if_false, true_and]
    by_cases q : k = Q
    · simp only [if_pos q]; exact ⟨trivial, trivial, trivial⟩
    · simp only [if_neg q]
      rw [r1 244 (by decide), r1 245 (by decide), r1 246 (by decide)]
      exact h456 k (by omega)
theorem m_walkLoop (hH : mjH A E T M W N nt σ) : ∀ (m : Nat) (s : qS) (C : Nat) (I L G X : Nat → Nat) (no : Nat) (op : Nat → Nat) (nn : Nat) (tr : Nat → Nat) (Q : Nat), mjV A E W N σ s C I L G X no op nn tr Q → muJ A N I X nn ≤ m → ∃ (s' : qS) (C' : Nat) (I' L' G' X' : Nat → Nat) (no' : Nat) (op' tr' : Nat → Nat) (Q' : Nat), (∀ r, L_X12_layParts_43 en d (nI C') (nI no') (y3 + (1 : Int32)) s' = some r → L_X12_layParts_123 en d (nI C) (nI no) y3 (nI nn) s = some r) ∧ mjV A E W N σ s' C' I' L' G' X' no' op' 0 tr' Q' ∧ ∀ u, I u ≠ 0 → I' u ≠ 0 := by
  obtain ⟨⟨hN, hAN⟩, hA, hG0⟩ := id hH
  intro m
  induction m with
  | zero =>
    intro s C I L G X no op nn tr Q hV hmu
    have hnn : nn = 0 := by have := @muJ_nn N nn I X A; omega
    subst hnn
    refine ⟨s, C, I, L, G, X, no, op, tr, Q, fun r hr => le_X12_layParts_123 en _ _ _ _ _ _ _ ?_, hV, fun u hu => hu⟩
    rw [if_pos (by decide)]
    exact hr
  | succ m ih =>
    intro s C I L G X no op nn tr Q hV hmu
    rcases nn with _ | nn
    · refine ⟨s, C, I, L, G, X, no, op, tr, Q, fun r hr => le_X12_layParts_123 en _ _ _ _ _ _ _ ?_, hV, fun u hu => hu⟩
      rw [if_pos (by decide)]
      exact hr
    · obtain ⟨hT, hF, hP, hQ⟩ := id hV
      obtain ⟨hI, hL, hg, ho8, ht, h143, h456⟩ := id hP
      have hG := hG0.fr' hF
      obtain ⟨nle1, nle2, nle3⟩ := hT.no_le
      obtain ⟨⟨a1, a2, a3, a4, a5⟩, ⟨b1, b2, b3⟩, ⟨c1, c2⟩, ⟨d1, d2⟩, f1, ⟨g1, g2⟩, k1, m1⟩ := id hT
      obtain ⟨v1, v2, v3'⟩ := c1 nn (by omega)
      generalize hv : tr nn = v at *
      have t242 : s.1 242 nn = nI v := by rw [ht nn (by omega), hv]
      have hA1 := hG.1 (v + 1) (by omega)
      have hX := g1 v v1 v2
      have hAN1 : A (v + 1) ≤ A N := hA (v + 1) N v1 (Nat.le_refl _)
      have hLv := f1 v v1 v2 v3'
      have hIv := a2 v v1
      have L1 : ∀ u, u < N → I u ≠ 0 → G u = 0 → 1 ≤ L u := fun u hu hn hg' => by
        obtain ⟨_, x, x1, x2, x3, x4, _⟩ := f1 u hu hn hg'
        omega
      have hLv1 := L1 v v1 v2 v3'
      by_cases hx : X v < A (v + 1)
      · obtain ⟨s', C', I', L', X', no', op', nn', tr', e1, e2, e3, e4⟩ := m_stepJ (en := en) (d := d) (y3 := y3) hH hV hv hx
        obtain ⟨s'', C2, I2, L2, G2, X2, no2, op2, tr2, Q2, y1, y2, y3⟩ := ih s' C' I' L' G X' no' op' nn' tr' Q e2 (by omega)
        exact ⟨s'', C2, I2, L2, G2, X2, no2, op2, tr2, Q2, fun r hr => e1 r (y1 r hr), y2, fun u hu => y3 u (e4 u hu)⟩
      · have hx : X v = A (v + 1) := by omega
        have hmu' : muJ A N I X nn ≤ m := by
          have : muJ A N I X (nn + 1) = muJ A N I X nn + 1 := by unfold muJ; omega
          omega
        let Lp : Nat → Nat := if nn = 0 then L else at1 L (tr (nn - 1)) (min (L (tr (nn - 1))) (L v))
        have up : ∃ s2 : qS, (∀ r, L_X12_layParts_390 en d (nI C) (nI no) y3 (nI nn) (nI v) s2 = some r → L_X12_layParts_123 en d (nI C) (nI no) y3 (nI (nn + 1)) s = some r) ∧ mjF s s2 ∧ mjP s2 N I Lp G X no op nn tr Q := by
          have first : ∀ r, (if nI nn ≤ (0 : Int32) then L_X12_layParts_390 en d (nI C) (nI no) y3 (nI nn) (nI v) s else gd (p_inB (nI nn - (1 : Int32)) 20001 = true) (nm (s.1 242 (nI nn - (1 : Int32)).toNatClampNeg) (fun z9 => gd (p_inB z9 20001 = true) (if (s.1 240 z9.toNatClampNeg) ≤ nI (L v - 1) then L_X12_layParts_389 en d (nI C) (nI no) y3 (nI nn) (nI v) z9 (s.1 240 z9.toNatClampNeg) s else L_X12_layParts_389 en d (nI C) (nI no) y3 (nI nn) (nI v) z9 (nI (L v - 1)) s)))) = some r → L_X12_layParts_123 en d (nI C) (nI no) y3 (nI (nn + 1)) s = some r := by
            intro r hr
            refine le_X12_layParts_123 en _ _ _ _ _ _ _ ?_
            rw [if_neg (by rw [n_ge (by decide) (by omega)]; omega), show nI (nn + 1) - (1 : Int32) = nI nn from n_sr (by omega), gd_in (by omega) (by decide), n_cl (by omega), t242, nm_eq, gd_in (by omega) (by decide), show nI v + (1 : Int32) = nI (v + 1) from n_ar, gd_in (by omega) (by decide), n_cl (by omega), hA1, n_cl (show v < 2 ^ 31 by omega), (hL v v1 v2).2, if_pos (by rw [n_LE (by omega) (by omega)]; omega), n_cm1, (hL v v1 v2).1]
            exact hr
          by_cases q : nn = 0
          · have eLp : Lp = L := if_pos q
            refine ⟨s, fun r hr => first r ?_, mjF.rf, ⟨hI, by rw [eLp]; exact hL, hg, ho8, fun i hi => ht i (by omega), h143, h456⟩⟩
            rw [if_pos (by rw [n_ge (by decide) (by omega)]; omega)]
            exact hr
          · have eLp : Lp = at1 L (tr (nn - 1)) (min (L (tr (nn - 1))) (L v)) := if_neg q
            obtain ⟨p1, p2, p3⟩ := c1 (nn - 1) (by omega)
            have hLp := (f1 _ p1 p2 p3).1
            have hLp1 := L1 _ p1 p2 p3
            have hIp := a2 _ p1
            have tp : s.1 242 (nn - 1) = nI (tr (nn - 1)) := ht (nn - 1) (by omega)
            generalize hp : tr (nn - 1) = p at *
            refine ⟨uI s 240 p (nI (min (L p) (L v) - 1)), fun r hr => first r ?_, mjF_u (by omega), ⟨hI, fun u hu hn => ⟨?_, (hL u hu hn).2⟩, hg, ho8, fun i hi => ht i (by omega), h143, h456⟩⟩
            · rw [if_neg (by rw [n_ge (by decide) (by omega)]; omega), show nI nn - (1 : Int32) = nI (nn - 1) from n_sr (by omega), gd_in (by omega) (by decide), n_cl (show nn - 1 < 2 ^ 31 by omega), tp, nm_eq, gd_in (by omega) (by decide), n_cl (show p < 2 ^ 31 by omega), (hL p p1 p2).1]
              have f389 : ∀ l, l = min (L p) (L v) - 1 → L_X12_layParts_389 en d (nI C) (nI no) y3 (nI nn) (nI v) (nI p) (nI l) s = some r := fun l hl => by
                refine le_X12_layParts_389 en _ _ _ _ _ _ _ _ _ _ ?_
                rw [gd_in (by omega) (by decide), n_cl (by omega), nm_eq, hl]
                exact hr
              by_cases q' : L p ≤ L v
              · rw [if_pos (by rw [n_LE (by omega) (by omega)]; omega)]
                exact f389 _ (by rw [Nat.min_eq_left q'])
              · rw [if_neg (by rw [n_LE (by omega) (by omega)]; omega)]
                exact f389 _ (by rw [Nat.min_eq_right (by omega)])
            · rw [rdU, eLp]
              by_cases q' : u = p
              · rw [if_pos ⟨rfl, q'⟩, q', at1_s]
              · rw [if_neg (fun z => q' z.2), at1_n q']; exact (hL u hu hn).1
        obtain ⟨s2, u1, u2, u4⟩ := up
        have hF2 := hF.tr' u2
        by_cases hl : L v = I v
        · have eLp : Lp = L := by
            show (if nn = 0 then L else at1 L (tr (nn - 1)) (min (L (tr (nn - 1))) (L v))) = L
            by_cases q : nn = 0
            · rw [if_pos q]
            · rw [if_neg q]
              exact at1_id (hT.keep hv hl (by omega)).1.symm
          rw [eLp] at u4
          obtain ⟨k0, hk0, hk⟩ := b3 v v1 v2 v3'
          obtain ⟨s3, G', w1, w2, w3, w4, w5⟩ := m_closeJ (en := en) (d := d) (y1 := nI C) (y3 := y3) (y4 := nI nn) hN u4 (fun i hi => (b1 i hi).1) (fun i j hij hj q => by have := b2 i j hij hj; rw [q] at this; omega) (by omega) (by omega) hk0 hk
          have hT' := hT.close hv hx hl (fun e he => (hG0.2.1 e he).2.2.1) hA hk0 hk w4 w5
          obtain ⟨s'', C2, I2, L2, G2, X2, no2, op2, tr2, Q2, z1, z2, z3⟩ := ih s3 C I L G' X k0 op nn tr (Q + 1) ⟨hT', hF2.tr' w2, w3, by omega⟩ hmu'
          refine ⟨s'', C2, I2, L2, G2, X2, no2, op2, tr2, Q2, fun r hr => u1 r (le_X12_layParts_390 en _ _ _ _ _ _ _ _ ?_), z2, z3⟩
          rw [gd_in (by omega) (by decide), n_cl (by omega), (u4.2.1 v v1 v2).1, u4.1 v v1, idV_s v2, if_neg (by rw [hl]; exact not_not_intro rfl)]
          exact w1 r (z1 r hr)
        · obtain ⟨hm1, hT'⟩ := hT.pop hv hx hl
          have eLp : Lp = at1 L (tr (nn - 1)) (min (L (tr (nn - 1))) (L v)) := if_neg (by omega)
          obtain ⟨p1, p2, p3⟩ := c1 (nn - 1) (by omega)
          have hpv : tr (nn - 1) ≠ v := fun q => by
            have := c2 (nn - 1) nn (by omega) (by omega)
            rw [hv, q] at this; omega
          rw [← eLp] at hT'
          have eLv : Lp v = L v := by rw [eLp]; exact at1_n (fun q => hpv q.symm)
          obtain ⟨s'', C2, I2, L2, G2, X2, no2, op2, tr2, Q2, z1, z2, z3⟩ := ih s2 C I Lp G X no op nn tr Q ⟨hT', hF2, u4, hQ⟩ hmu'
          refine ⟨s'', C2, I2, L2, G2, X2, no2, op2, tr2, Q2, fun r hr => u1 r (le_X12_layParts_390 en _ _ _ _ _ _ _ _ ?_), z2, z3⟩
          rw [gd_in (by omega) (by decide), n_cl (by omega), (u4.2.1 v v1 v2).1, u4.1 v v1, idV_s v2, eLv, if_pos (by rw [n_EQ (by omega) (by omega)]; omega)]
          exact z1 r hr
end PTM
